section
-- ===== PART A: goes FIRST, ahead of the names: the tables' words, and 'selects' of the private methods out of them =====
/-- a private method of a class that the tables say can be made, by its rows of tables_1 -/
def lw_okq (q : MethodName × Nat) : Prop := (q.1.cls ≠ "java/lang/invoke/MethodHandle" ∧ q.1.cls ≠ "java/lang/invoke/VarHandle") ∧ Cond.instantiable q.1.cls q.2 ∈ tables_1 ∧ Cond.privateMethod q.1 ∈ tables_1 ∧ Cond.instanceMethod q.1 ∈ tables_1
theorem lw_p0 : lw_okq (⟨"PlainLibrary$Row", "placeFor", "(J)I"⟩, 5) := ⟨⟨by decide +kernel, by decide +kernel⟩, List.mem_of_getElem? (i := 17) (by decide +kernel), List.mem_of_getElem? (i := 111) (by decide +kernel), List.mem_of_getElem? (i := 112) (by decide +kernel)⟩
theorem lw_p1 : lw_okq (⟨"PlainLibrary$Shelves", "addHeading", "(II)Z"⟩, 9) := ⟨⟨by decide +kernel, by decide +kernel⟩, List.mem_of_getElem? (i := 41) (by decide +kernel), List.mem_of_getElem? (i := 144) (by decide +kernel), List.mem_of_getElem? (i := 145) (by decide +kernel)⟩
theorem lw_p2 : lw_okq (⟨"PlainLibrary$Shelves", "dropHeading", "(II)Z"⟩, 9) := ⟨⟨by decide +kernel, by decide +kernel⟩, List.mem_of_getElem? (i := 41) (by decide +kernel), List.mem_of_getElem? (i := 158) (by decide +kernel), List.mem_of_getElem? (i := 159) (by decide +kernel)⟩
theorem lw_p3 : lw_okq (⟨"PlainLibrary$Shelves", "setRecord", "(II)Z"⟩, 9) := ⟨⟨by decide +kernel, by decide +kernel⟩, List.mem_of_getElem? (i := 41) (by decide +kernel), List.mem_of_getElem? (i := 163) (by decide +kernel), List.mem_of_getElem? (i := 164) (by decide +kernel)⟩
theorem lw_p4 : lw_okq (⟨"PlainLibrary$Shelves", "lend", "(IIJ)Z"⟩, 9) := ⟨⟨by decide +kernel, by decide +kernel⟩, List.mem_of_getElem? (i := 41) (by decide +kernel), List.mem_of_getElem? (i := 167) (by decide +kernel), List.mem_of_getElem? (i := 168) (by decide +kernel)⟩
theorem lw_p5 : lw_okq (⟨"PlainLibrary$Shelves", "leaveQueue", "(II)Z"⟩, 9) := ⟨⟨by decide +kernel, by decide +kernel⟩, List.mem_of_getElem? (i := 41) (by decide +kernel), List.mem_of_getElem? (i := 175) (by decide +kernel), List.mem_of_getElem? (i := 176) (by decide +kernel)⟩
theorem lw_p6 : lw_okq (⟨"PlainLibrary$Shelves", "placeInQueue", "(II)I"⟩, 9) := ⟨⟨by decide +kernel, by decide +kernel⟩, List.mem_of_getElem? (i := 41) (by decide +kernel), List.mem_of_getElem? (i := 179) (by decide +kernel), List.mem_of_getElem? (i := 180) (by decide +kernel)⟩
theorem lw_p7 : lw_okq (⟨"PlainLibrary$Shelves", "giveBack", "(I)Z"⟩, 9) := ⟨⟨by decide +kernel, by decide +kernel⟩, List.mem_of_getElem? (i := 41) (by decide +kernel), List.mem_of_getElem? (i := 184) (by decide +kernel), List.mem_of_getElem? (i := 185) (by decide +kernel)⟩
theorem lw_p8 : lw_okq (⟨"PlainLibrary$Shelves", "joinQueue", "(II)Z"⟩, 9) := ⟨⟨by decide +kernel, by decide +kernel⟩, List.mem_of_getElem? (i := 41) (by decide +kernel), List.mem_of_getElem? (i := 188) (by decide +kernel), List.mem_of_getElem? (i := 189) (by decide +kernel)⟩
theorem lw_p9 : lw_okq (⟨"PlainLibrary$Shelves", "loseFile", "(II)Z"⟩, 9) := ⟨⟨by decide +kernel, by decide +kernel⟩, List.mem_of_getElem? (i := 41) (by decide +kernel), List.mem_of_getElem? (i := 196) (by decide +kernel), List.mem_of_getElem? (i := 197) (by decide +kernel)⟩
theorem lw_p10 : lw_okq (⟨"PlainLibrary", "performUpTo", "(J)V"⟩, 4) := ⟨⟨by decide +kernel, by decide +kernel⟩, List.mem_of_getElem? (i := 9) (by decide +kernel), List.mem_of_getElem? (i := 212) (by decide +kernel), List.mem_of_getElem? (i := 213) (by decide +kernel)⟩
theorem lw_p11 : lw_okq (⟨"PlainLibrary", "performAll", "()V"⟩, 4) := ⟨⟨by decide +kernel, by decide +kernel⟩, List.mem_of_getElem? (i := 9) (by decide +kernel), List.mem_of_getElem? (i := 240) (by decide +kernel), List.mem_of_getElem? (i := 241) (by decide +kernel)⟩
theorem lw_p12 : lw_okq (⟨"PlainLibrary$Shelves", "storesWith", "(II)I"⟩, 9) := ⟨⟨by decide +kernel, by decide +kernel⟩, List.mem_of_getElem? (i := 41) (by decide +kernel), List.mem_of_getElem? (i := 279) (by decide +kernel), List.mem_of_getElem? (i := 280) (by decide +kernel)⟩
theorem lw_p13 : lw_okq (⟨"PlainLibrary", "firstVoidWithout", "(II)I"⟩, 4) := ⟨⟨by decide +kernel, by decide +kernel⟩, List.mem_of_getElem? (i := 9) (by decide +kernel), List.mem_of_getElem? (i := 306) (by decide +kernel), List.mem_of_getElem? (i := 307) (by decide +kernel)⟩
theorem lw_p14 : lw_okq (⟨"PlainLibrary", "oneLessIsEnough", "(I)Z"⟩, 4) := ⟨⟨by decide +kernel, by decide +kernel⟩, List.mem_of_getElem? (i := 9) (by decide +kernel), List.mem_of_getElem? (i := 310) (by decide +kernel), List.mem_of_getElem? (i := 311) (by decide +kernel)⟩
theorem lw_p15 : lw_okq (⟨"PlainLibrary", "twoLessAreEnough", "(I)Z"⟩, 4) := ⟨⟨by decide +kernel, by decide +kernel⟩, List.mem_of_getElem? (i := 9) (by decide +kernel), List.mem_of_getElem? (i := 314) (by decide +kernel), List.mem_of_getElem? (i := 315) (by decide +kernel)⟩
def lw_privs_1 : List (MethodName × Nat) := [(⟨"PlainLibrary$Row", "placeFor", "(J)I"⟩, 5), (⟨"PlainLibrary$Shelves", "addHeading", "(II)Z"⟩, 9), (⟨"PlainLibrary$Shelves", "dropHeading", "(II)Z"⟩, 9), (⟨"PlainLibrary$Shelves", "setRecord", "(II)Z"⟩, 9), (⟨"PlainLibrary$Shelves", "lend", "(IIJ)Z"⟩, 9), (⟨"PlainLibrary$Shelves", "leaveQueue", "(II)Z"⟩, 9), (⟨"PlainLibrary$Shelves", "placeInQueue", "(II)I"⟩, 9), (⟨"PlainLibrary$Shelves", "giveBack", "(I)Z"⟩, 9), (⟨"PlainLibrary$Shelves", "joinQueue", "(II)Z"⟩, 9), (⟨"PlainLibrary$Shelves", "loseFile", "(II)Z"⟩, 9), (⟨"PlainLibrary", "performUpTo", "(J)V"⟩, 4), (⟨"PlainLibrary", "performAll", "()V"⟩, 4), (⟨"PlainLibrary$Shelves", "storesWith", "(II)I"⟩, 9), (⟨"PlainLibrary", "firstVoidWithout", "(II)I"⟩, 4), (⟨"PlainLibrary", "oneLessIsEnough", "(I)Z"⟩, 4), (⟨"PlainLibrary", "twoLessAreEnough", "(I)Z"⟩, 4)]
theorem lw_r1 : ∀ q ∈ lw_privs_1, lw_okq q := List.forall_mem_cons.mpr ⟨lw_p0, List.forall_mem_cons.mpr ⟨lw_p1, List.forall_mem_cons.mpr ⟨lw_p2, List.forall_mem_cons.mpr ⟨lw_p3, List.forall_mem_cons.mpr ⟨lw_p4, List.forall_mem_cons.mpr ⟨lw_p5, List.forall_mem_cons.mpr ⟨lw_p6, List.forall_mem_cons.mpr ⟨lw_p7, List.forall_mem_cons.mpr ⟨lw_p8, List.forall_mem_cons.mpr ⟨lw_p9, List.forall_mem_cons.mpr ⟨lw_p10, List.forall_mem_cons.mpr ⟨lw_p11, List.forall_mem_cons.mpr ⟨lw_p12, List.forall_mem_cons.mpr ⟨lw_p13, List.forall_mem_cons.mpr ⟨lw_p14, List.forall_mem_cons.mpr ⟨lw_p15, fun _ h => absurd h List.not_mem_nil⟩⟩⟩⟩⟩⟩⟩⟩⟩⟩⟩⟩⟩⟩⟩⟩
theorem lw_p16 : lw_okq (⟨"PlainLibraryModel", "all", "()V"⟩, 21) := ⟨⟨by decide +kernel, by decide +kernel⟩, List.mem_of_getElem? (i := 318) (by decide +kernel), List.mem_of_getElem? (i := 409) (by decide +kernel), List.mem_of_getElem? (i := 410) (by decide +kernel)⟩
theorem lw_p17 : lw_okq (⟨"PlainLibraryModel", "go", "(JIII)V"⟩, 21) := ⟨⟨by decide +kernel, by decide +kernel⟩, List.mem_of_getElem? (i := 318) (by decide +kernel), List.mem_of_getElem? (i := 413) (by decide +kernel), List.mem_of_getElem? (i := 414) (by decide +kernel)⟩
theorem lw_p18 : lw_okq (⟨"PlainLibraryModel", "clear", "()V"⟩, 21) := ⟨⟨by decide +kernel, by decide +kernel⟩, List.mem_of_getElem? (i := 318) (by decide +kernel), List.mem_of_getElem? (i := 417) (by decide +kernel), List.mem_of_getElem? (i := 418) (by decide +kernel)⟩
theorem lw_p19 : lw_okq (⟨"PlainLibraryModel", "does", "(I)Z"⟩, 21) := ⟨⟨by decide +kernel, by decide +kernel⟩, List.mem_of_getElem? (i := 318) (by decide +kernel), List.mem_of_getElem? (i := 421) (by decide +kernel), List.mem_of_getElem? (i := 422) (by decide +kernel)⟩
theorem lw_p20 : lw_okq (⟨"PlainLibraryModel", "sets", "(IZ)Z"⟩, 21) := ⟨⟨by decide +kernel, by decide +kernel⟩, List.mem_of_getElem? (i := 318) (by decide +kernel), List.mem_of_getElem? (i := 425) (by decide +kernel), List.mem_of_getElem? (i := 426) (by decide +kernel)⟩
theorem lw_p21 : lw_okq (⟨"PlainLibraryModel", "lend", "(IIJ)Z"⟩, 21) := ⟨⟨by decide +kernel, by decide +kernel⟩, List.mem_of_getElem? (i := 318) (by decide +kernel), List.mem_of_getElem? (i := 429) (by decide +kernel), List.mem_of_getElem? (i := 430) (by decide +kernel)⟩
theorem lw_p22 : lw_okq (⟨"PlainLibraryModel", "leave", "(II)Z"⟩, 21) := ⟨⟨by decide +kernel, by decide +kernel⟩, List.mem_of_getElem? (i := 318) (by decide +kernel), List.mem_of_getElem? (i := 433) (by decide +kernel), List.mem_of_getElem? (i := 434) (by decide +kernel)⟩
theorem lw_p23 : lw_okq (⟨"PlainLibraryModel", "placeOf", "(II)I"⟩, 21) := ⟨⟨by decide +kernel, by decide +kernel⟩, List.mem_of_getElem? (i := 318) (by decide +kernel), List.mem_of_getElem? (i := 437) (by decide +kernel), List.mem_of_getElem? (i := 438) (by decide +kernel)⟩
theorem lw_p24 : lw_okq (⟨"PlainLibraryModel", "stand", "(II)Z"⟩, 21) := ⟨⟨by decide +kernel, by decide +kernel⟩, List.mem_of_getElem? (i := 318) (by decide +kernel), List.mem_of_getElem? (i := 441) (by decide +kernel), List.mem_of_getElem? (i := 442) (by decide +kernel)⟩
theorem lw_p25 : lw_okq (⟨"PlainLibraryModel", "stores", "(II)Z"⟩, 21) := ⟨⟨by decide +kernel, by decide +kernel⟩, List.mem_of_getElem? (i := 318) (by decide +kernel), List.mem_of_getElem? (i := 446) (by decide +kernel), List.mem_of_getElem? (i := 447) (by decide +kernel)⟩
def lw_privs_2 : List (MethodName × Nat) := [(⟨"PlainLibraryModel", "all", "()V"⟩, 21), (⟨"PlainLibraryModel", "go", "(JIII)V"⟩, 21), (⟨"PlainLibraryModel", "clear", "()V"⟩, 21), (⟨"PlainLibraryModel", "does", "(I)Z"⟩, 21), (⟨"PlainLibraryModel", "sets", "(IZ)Z"⟩, 21), (⟨"PlainLibraryModel", "lend", "(IIJ)Z"⟩, 21), (⟨"PlainLibraryModel", "leave", "(II)Z"⟩, 21), (⟨"PlainLibraryModel", "placeOf", "(II)I"⟩, 21), (⟨"PlainLibraryModel", "stand", "(II)Z"⟩, 21), (⟨"PlainLibraryModel", "stores", "(II)Z"⟩, 21)]
theorem lw_r2 : ∀ q ∈ lw_privs_2, lw_okq q := List.forall_mem_cons.mpr ⟨lw_p16, List.forall_mem_cons.mpr ⟨lw_p17, List.forall_mem_cons.mpr ⟨lw_p18, List.forall_mem_cons.mpr ⟨lw_p19, List.forall_mem_cons.mpr ⟨lw_p20, List.forall_mem_cons.mpr ⟨lw_p21, List.forall_mem_cons.mpr ⟨lw_p22, List.forall_mem_cons.mpr ⟨lw_p23, List.forall_mem_cons.mpr ⟨lw_p24, List.forall_mem_cons.mpr ⟨lw_p25, fun _ h => absurd h List.not_mem_nil⟩⟩⟩⟩⟩⟩⟩⟩⟩⟩
def lw_privs : List (MethodName × Nat) := lw_privs_1 ++ (lw_privs_2)
def lw_tbl : List Cond := k2_sels lw_privs ++ tables_1
theorem lw_privs_ok : ∀ q ∈ lw_privs, lw_okq q := by
  show ∀ q ∈ lw_privs_1 ++ (lw_privs_2), lw_okq q
  exact List.forall_mem_append.mpr ⟨lw_r1, lw_r2⟩
end
section
/-! my own words: a guard, the pieces of a walk's hypothesis -/
def gd {α : Type} (c : Prop) [Decidable c] (x : Option α) : Option α := if c then x else none
theorem gd_some {α : Type} {c : Prop} [Decidable c] {x : Option α} {r : α} (h : gd c x = some r) : c ∧ x = some r := by
  by_cases hc : c
  · rw [gd, if_pos hc] at h
    exact ⟨hc, h⟩
  · rw [gd, if_neg hc] at h
    cases h
theorem gd_t {α : Type} {c : Prop} [Decidable c] {x : Option α} (h : c) : gd c x = x := if_pos h
theorem bd_some {α β : Type} {x : Option α} {f : α → Option β} {r : β} (h : x.bind f = some r) : ∃ v, x = some v ∧ f v = some r := by
  cases x with
  | none => cases h
  | some v => exact ⟨v, rfl, h⟩
theorem it_t {α : Type} {c : Prop} [Decidable c] {a b r : α} (hc : c) (h : (if c then a else b) = r) : a = r := by
  rw [if_pos hc] at h
  exact h
theorem it_f {α : Type} {c : Prop} [Decidable c] {a b r : α} (hc : ¬ c) (h : (if c then a else b) = r) : b = r := by
  rw [if_neg hc] at h
  exact h
theorem nz_b {v : Int32} (h : v = 0 ∨ v = 1) : narrow .boolean (.int v) = .int v := by
  rcases h with rfl | rfl <;> rfl
theorem ic_nn {x : Int32} (h : 0 ≤ x.toInt) : ¬ x < 0 := by
  intro q
  rw [Int32.lt_iff_toInt_lt] at q
  have h0 : (0 : Int32).toInt = 0 := by decide
  omega
theorem ic_le {x y : Int32} {n : Nat} (hx : 0 ≤ x.toInt) (hy : 0 ≤ y.toInt) (h : x.toInt + y.toInt ≤ n) : x.toNatClampNeg + y.toNatClampNeg ≤ n := by
  have e1 : x.toNatClampNeg = x.toInt.toNat := rfl
  have e2 : y.toNatClampNeg = y.toInt.toNat := rfl
  omega
theorem va_A_nil {sz q : Nat} (h : va_A [] sz q) : sz ≤ q := by
  rcases h with ⟨k, e, h⟩ | h
  · simp at h
  · exact h
/-- what a walk knows of its machine -/
def Cx (p : Program) (s : State) (m : MethodId) (args : Array Value) (meth : Method) (c : Code) (cc : ByteArray) (nL : Nat) (rt : Option FieldType) (own : String) (Ts : List Cond) (D : va_G) (cl : List vw_C) (tys : List (ClassId × FieldType)) (A : Nat → Prop) : Prop :=
  p.tables.exec = Jvm.exec ∧ c.code = cc ∧ meth.sig.returnType = rt ∧ c.maxLocals = nL ∧ s.vm.findClass own = some m.cls ∧ (∀ w ∈ Ts, w.before args s = true) ∧ meth.locks = false ∧ va_K D cl tys s ∧ (∀ q : Nat, s.heap.size ≤ q → A q)
/-- a world: the cells that F lays out of a value -/
def at_ {S : Type} (D : va_G) (cl : List vw_C) (tys : List (ClassId × FieldType)) (F : S → va_W) (A : Nat → Prop) (u : S) (t : State) : Prop := va_P D cl (F u) t.heap ∧ va_K D cl tys t ∧ va_D A (F u)
def pr_ {S : Type} (D : va_G) (cl : List vw_C) (tys : List (ClassId × FieldType)) (F : S → va_W) (u : S) (sz : Nat) (U : State) : Prop := U.heap.size = sz ∧ at_ D cl tys F (fun _ => True) u U
abbrev Qwi {S : Type} (D : va_G) (cl : List vw_C) (tys : List (ClassId × FieldType)) (F : S → va_W) (A : Nat → Prop) (res : Int32 × S) : Array Value → State → Outcome → State → Prop := va_Qi (fun r u => (r, u) = res) (at_ D cl tys F A) A
abbrev Qwl {S : Type} (D : va_G) (cl : List vw_C) (tys : List (ClassId × FieldType)) (F : S → va_W) (A : Nat → Prop) (res : Int64 × S) : Array Value → State → Outcome → State → Prop := va_Ql (fun r u => (r, u) = res) (at_ D cl tys F A) A
abbrev Qwv {S : Type} (D : va_G) (cl : List vw_C) (tys : List (ClassId × FieldType)) (F : S → va_W) (A : Nat → Prop) (res : S) : Array Value → State → Outcome → State → Prop := va_Qv (fun u => u = res) (at_ D cl tys F A) A
abbrev Qri (A : Nat → Prop) (res : Int32) : Array Value → State → Outcome → State → Prop := va_Qi (fun r (_ : Unit) => r = res) (fun _ _ => True) A
abbrev Qrl (A : Nat → Prop) (res : Int64) : Array Value → State → Outcome → State → Prop := va_Ql (fun r (_ : Unit) => r = res) (fun _ _ => True) A
theorem bl_ {S : Type} {D : va_G} {cl : List vw_C} {tys : List (ClassId × FieldType)} {F : S → va_W} {u : S} {sz : Nat} {av : List Value} : FrameBlind (va_Pc av (pr_ D cl tys F u sz)) := fun a U g mk q => by
  obtain ⟨q0, q1, qP, qK, qD⟩ := q
  exact ⟨q0, q1, qP, va_K.moved (u := U) (U := U.calling g mk a) (Vm.Alike.refl U.vm) qK, qD⟩
theorem pg_ {S : Type} {s : State} {H : Heap} {A : Nat → Prop} {D : va_G} {cl : List vw_C} {tys : List (ClassId × FieldType)} {F : S → va_W} {u : S} {av : List Value} (hK : va_K D cl tys s) (hP : va_P D cl (F u) H) (hD : va_D A (F u)) : ∀ U : State, U.heap = H → s.WarmedH U.vm → va_Pc av (pr_ D cl tys F u H.size) av.toArray U := fun U hU hW => ⟨rfl, by rw [hU], by rw [hU]; exact hP, va_K.moved hW.alike hK, hD.weaken (fun _ _ _ _ => trivial)⟩
theorem pv_ {S : Type} {s : State} {H : Heap} {A : Nat → Prop} {D : va_G} {cl : List vw_C} {tys : List (ClassId × FieldType)} {F : S → va_W} {u : S} {C : String} {b : Addr} {As : List Value} (hK : va_K D cl tys s) (hP : va_P D cl (F u) H) (hD : va_D A (F u)) (hc : ∃ cellB : Cell, H[b]? = some cellB ∧ cellB.vm.isStatics = false ∧ s.vm.findClass C = some cellB.cls) : PreV s H C b (va_Pc (.ref b :: As) (pr_ D cl tys F u H.size)) As := ⟨bl_, hc, pg_ (av := .ref b :: As) hK hP hD⟩
theorem ps_ {S : Type} {s : State} {H : Heap} {A : Nat → Prop} {D : va_G} {cl : List vw_C} {tys : List (ClassId × FieldType)} {F : S → va_W} {u : S} {As : List Value} (hK : va_K D cl tys s) (hP : va_P D cl (F u) H) (hD : va_D A (F u)) : PreS s H (va_Pc As (pr_ D cl tys F u H.size)) As := ⟨bl_, pg_ (av := As) hK hP hD⟩
section Fin
variable {p : Program} {l : Launch} {e : Env} {R : Room} {s : State} {m : MethodId} {args : Array Value} {below : List Frame} {meth : Method} {c : Code} {H : Heap} {locs : List Loc} {cells slots : Nat} {Q : State → Prop}
variable {pc : Nat} {ls : Array Slot} {rest st0 : List Value} {a : Array Value} {A0 : Nat → Prop} {H0 : Heap} {D : va_G} {cl : List vw_C} {tys tysC : List (ClassId × FieldType)}
/-- behind a call that may write the whole world -/
theorem fw_i {S : Type} {F : S → va_W} {u : S} {res : Int32 × S} (hr : va_Run p l e R s m args below meth c H locs cells slots 0 0 (F0 m pc ls st0) rest (Qwi D cl tysC F (va_A (F u) H.size) res a) (va_A (F u) H.size)) (hS : va_S A0 H0 H locs) (hF : ∀ q, va_A (F u) H.size q → A0 q)
    (kk : ∀ (H1 : Heap) (locs1 : List Loc), va_P D cl (F res.2) H1 → va_D A0 (F res.2) → va_S A0 H0 H1 locs1 → W p l e R s m args below meth c H1 locs1 cells slots Q (F0 m (pc + 3) ls (.int res.1 :: rest))) : W p l e R s m args below meth c H locs cells slots Q (F0 m pc ls st0) := by
  refine va_calli hr hS (fun q _ h => hF q h) hF (fun r v t H1 locs1 ht hvm hw hB hz1 hk1 hS1 => ?_)
  obtain ⟨hP1, hK1, hD1⟩ := hB
  rw [ht] at hP1
  subst hw
  exact kk H1 locs1 hP1 (hD1.weaken (fun _ _ _ h => hF _ h)) hS1
theorem fw_l {S : Type} {F : S → va_W} {u : S} {res : Int64 × S} (hr : va_Run p l e R s m args below meth c H locs cells slots 0 0 (F0 m pc ls st0) rest (Qwl D cl tysC F (va_A (F u) H.size) res a) (va_A (F u) H.size)) (hS : va_S A0 H0 H locs) (hF : ∀ q, va_A (F u) H.size q → A0 q)
    (kk : ∀ (H1 : Heap) (locs1 : List Loc), va_P D cl (F res.2) H1 → va_D A0 (F res.2) → va_S A0 H0 H1 locs1 → W p l e R s m args below meth c H1 locs1 cells slots Q (F0 m (pc + 3) ls (.long res.1 :: rest))) : W p l e R s m args below meth c H locs cells slots Q (F0 m pc ls st0) := by
  refine va_calll hr hS (fun q _ h => hF q h) hF (fun r v t H1 locs1 ht hvm hw hB hz1 hk1 hS1 => ?_)
  obtain ⟨hP1, hK1, hD1⟩ := hB
  rw [ht] at hP1
  subst hw
  exact kk H1 locs1 hP1 (hD1.weaken (fun _ _ _ h => hF _ h)) hS1
theorem fw_v {S : Type} {F : S → va_W} {u : S} {res : S} (hr : va_Run p l e R s m args below meth c H locs cells slots 0 0 (F0 m pc ls st0) rest (Qwv D cl tysC F (va_A (F u) H.size) res a) (va_A (F u) H.size)) (hS : va_S A0 H0 H locs) (hF : ∀ q, va_A (F u) H.size q → A0 q)
    (kk : ∀ (H1 : Heap) (locs1 : List Loc), va_P D cl (F res) H1 → va_D A0 (F res) → va_S A0 H0 H1 locs1 → W p l e R s m args below meth c H1 locs1 cells slots Q (F0 m (pc + 3) ls rest)) : W p l e R s m args below meth c H locs cells slots Q (F0 m pc ls st0) := by
  refine va_callv hr hS (fun q _ h => hF q h) hF (fun v t H1 locs1 ht hvm hw hB hz1 hk1 hS1 => ?_)
  obtain ⟨hP1, hK1, hD1⟩ := hB
  rw [ht] at hP1
  subst hw
  exact kk H1 locs1 hP1 (hD1.weaken (fun _ _ _ h => hF _ h)) hS1
/-- behind a call that may write a part of the world -/
theorem fj_i {S : Type} {F : S → va_W} {u : S} {res : Int32 × S} {ws wr : va_W} (hr : va_Run p l e R s m args below meth c H locs cells slots 0 0 (F0 m pc ls st0) rest (Qwi D cl tysC F (va_A (F u) H.size) res a) (va_A (F u) H.size)) (hP : va_P D cl ws H) (hD : va_D A0 ws) (hS : va_S A0 H0 H locs) (hF : ∀ q, va_A (F u) H.size q → A0 q)
    (isC isR : List Nat) (hC : isC.map (fun i => ws[i]?) = (F u).map some) (hR : isR.map (fun i => ws[i]?) = wr.map some) (hn : va_nd isR = true) (hdis : ∀ i ∈ isR, i ∉ isC)
    (kk : ∀ (H1 : Heap) (locs1 : List Loc), va_P D cl (wr ++ F res.2) H1 → va_D A0 (wr ++ F res.2) → va_S A0 H0 H1 locs1 → W p l e R s m args below meth c H1 locs1 cells slots Q (F0 m (pc + 3) ls (.int res.1 :: rest))) : W p l e R s m args below meth c H locs cells slots Q (F0 m pc ls st0) := by
  refine va_calli hr hS (fun q _ h => hF q h) hF (fun r v t H1 locs1 ht hvm hw hB hz1 hk1 hS1 => ?_)
  obtain ⟨hP1, hK1, hD1⟩ := hB
  rw [ht] at hP1
  subst hw
  obtain ⟨hP2, hD2⟩ := va_join hP hD isC isR hC hR hn hdis hk1 hF hP1 hD1
  exact kk H1 locs1 hP2 hD2 hS1
theorem fj_l {S : Type} {F : S → va_W} {u : S} {res : Int64 × S} {ws wr : va_W} (hr : va_Run p l e R s m args below meth c H locs cells slots 0 0 (F0 m pc ls st0) rest (Qwl D cl tysC F (va_A (F u) H.size) res a) (va_A (F u) H.size)) (hP : va_P D cl ws H) (hD : va_D A0 ws) (hS : va_S A0 H0 H locs) (hF : ∀ q, va_A (F u) H.size q → A0 q)
    (isC isR : List Nat) (hC : isC.map (fun i => ws[i]?) = (F u).map some) (hR : isR.map (fun i => ws[i]?) = wr.map some) (hn : va_nd isR = true) (hdis : ∀ i ∈ isR, i ∉ isC)
    (kk : ∀ (H1 : Heap) (locs1 : List Loc), va_P D cl (wr ++ F res.2) H1 → va_D A0 (wr ++ F res.2) → va_S A0 H0 H1 locs1 → W p l e R s m args below meth c H1 locs1 cells slots Q (F0 m (pc + 3) ls (.long res.1 :: rest))) : W p l e R s m args below meth c H locs cells slots Q (F0 m pc ls st0) := by
  refine va_calll hr hS (fun q _ h => hF q h) hF (fun r v t H1 locs1 ht hvm hw hB hz1 hk1 hS1 => ?_)
  obtain ⟨hP1, hK1, hD1⟩ := hB
  rw [ht] at hP1
  subst hw
  obtain ⟨hP2, hD2⟩ := va_join hP hD isC isR hC hR hn hdis hk1 hF hP1 hD1
  exact kk H1 locs1 hP2 hD2 hS1
theorem fj_v {S : Type} {F : S → va_W} {u : S} {res : S} {ws wr : va_W} (hr : va_Run p l e R s m args below meth c H locs cells slots 0 0 (F0 m pc ls st0) rest (Qwv D cl tysC F (va_A (F u) H.size) res a) (va_A (F u) H.size)) (hP : va_P D cl ws H) (hD : va_D A0 ws) (hS : va_S A0 H0 H locs) (hF : ∀ q, va_A (F u) H.size q → A0 q)
    (isC isR : List Nat) (hC : isC.map (fun i => ws[i]?) = (F u).map some) (hR : isR.map (fun i => ws[i]?) = wr.map some) (hn : va_nd isR = true) (hdis : ∀ i ∈ isR, i ∉ isC)
    (kk : ∀ (H1 : Heap) (locs1 : List Loc), va_P D cl (wr ++ F res) H1 → va_D A0 (wr ++ F res) → va_S A0 H0 H1 locs1 → W p l e R s m args below meth c H1 locs1 cells slots Q (F0 m (pc + 3) ls rest)) : W p l e R s m args below meth c H locs cells slots Q (F0 m pc ls st0) := by
  refine va_callv hr hS (fun q _ h => hF q h) hF (fun v t H1 locs1 ht hvm hw hB hz1 hk1 hS1 => ?_)
  obtain ⟨hP1, hK1, hD1⟩ := hB
  rw [ht] at hP1
  subst hw
  obtain ⟨hP2, hD2⟩ := va_join hP hD isC isR hC hR hn hdis hk1 hF hP1 hD1
  exact kk H1 locs1 hP2 hD2 hS1
/-- behind a call that writes nothing -/
theorem fr_i {res : Int32} {ws : va_W} (hr : va_Run p l e R s m args below meth c H locs cells slots 0 0 (F0 m pc ls st0) rest (Qri (va_A [] H.size) res a) (va_A [] H.size)) (hP : va_P D cl ws H) (hS : va_S A0 H0 H locs) (hA : ∀ q : Nat, H0.size ≤ q → A0 q)
    (kk : ∀ (H1 : Heap) (locs1 : List Loc), va_P D cl ws H1 → va_S A0 H0 H1 locs1 → W p l e R s m args below meth c H1 locs1 cells slots Q (F0 m (pc + 3) ls (.int res :: rest))) : W p l e R s m args below meth c H locs cells slots Q (F0 m pc ls st0) := by
  refine va_calli hr hS (fun q h1 h => absurd (va_A_nil h) (Nat.not_le.mpr h1)) (fun q h => hA q (Nat.le_trans hS.1 (va_A_nil h))) (fun r v t H1 locs1 ht hvm hw hB hz1 hk1 hS1 => ?_)
  subst hw
  exact kk H1 locs1 (hP.kept (fun k q hk => hk1 _ (va_at.lt (hP k q hk)) (fun z => absurd (va_A_nil z) (Nat.not_le.mpr (va_at.lt (hP k q hk)))))) hS1
theorem fr_l {res : Int64} {ws : va_W} (hr : va_Run p l e R s m args below meth c H locs cells slots 0 0 (F0 m pc ls st0) rest (Qrl (va_A [] H.size) res a) (va_A [] H.size)) (hP : va_P D cl ws H) (hS : va_S A0 H0 H locs) (hA : ∀ q : Nat, H0.size ≤ q → A0 q)
    (kk : ∀ (H1 : Heap) (locs1 : List Loc), va_P D cl ws H1 → va_S A0 H0 H1 locs1 → W p l e R s m args below meth c H1 locs1 cells slots Q (F0 m (pc + 3) ls (.long res :: rest))) : W p l e R s m args below meth c H locs cells slots Q (F0 m pc ls st0) := by
  refine va_calll hr hS (fun q h1 h => absurd (va_A_nil h) (Nat.not_le.mpr h1)) (fun q h => hA q (Nat.le_trans hS.1 (va_A_nil h))) (fun r v t H1 locs1 ht hvm hw hB hz1 hk1 hS1 => ?_)
  subst hw
  exact kk H1 locs1 (hP.kept (fun k q hk => hk1 _ (va_at.lt (hP k q hk)) (fun z => absurd (va_A_nil z) (Nat.not_le.mpr (va_at.lt (hP k q hk)))))) hS1
end Fin
theorem fa_ {A0 : Nat → Prop} {ws : va_W} {H0 H : Heap} {locs : List Loc} (hD : va_D A0 ws) (hS : va_S A0 H0 H locs) (hA : ∀ q : Nat, H0.size ≤ q → A0 q) : ∀ q, va_A ws H.size q → A0 q := fun q h => by
  rcases h with ⟨k, e, h⟩ | h
  · exact hD.2 k _ h
  · exact hA q (Nat.le_trans hS.1 h)
/-- no cells -/
def nW : Unit → va_W := fun _ => []
theorem nP {D : va_G} {cl : List vw_C} {H : Heap} {u : Unit} : va_P D cl (nW u) H := fun k q h => by simp [nW] at h
theorem nD {A : Nat → Prop} {u : Unit} : va_D A (nW u) := ⟨fun i j p q h => by simp [nW] at h, fun k q h => by simp [nW] at h⟩
/-- a loop's measure -/
def FU : Nat := 1000
def adl (l : List Nat) : Nat → Nat := fun k => l.getD k 0
abbrev tyy (cI cJ cZ : ClassId) : List (ClassId × FieldType) := [(cI, .int), (cJ, .long), (cZ, .boolean)]
theorem arr_K {s : State} {args : Array Value} {ty : FieldType} (h : (Cond.arrayClass ty).before args s = true) : ∃ cA, ArrOfT s cA ty ∧ s.vm.findClass ("[" ++ ty.toString) = some cA := by
  obtain ⟨cA, kA, comp, h1, h2, h3⟩ := Cond.arrayClass_spec h
  exact ⟨cA, fun n z => ⟨fun k h => (by cases h), kA, h2, comp, h3⟩, h1⟩
section Mk
variable {p : Program} {l : Launch} {e : Env} {R : Room} {s : State} {m : MethodId} {args : Array Value} {below : List Frame} {meth : Method} {c : Code} {H : Heap} {locs : List Loc} {cells slots : Nat} {Q : State → Prop}
variable {cc : ByteArray} {pc : Nat} {ls : Array Slot} {rest : List Value} {A : Nat → Prop} {H0 : Heap} {D : va_G} {cl : List vw_C} {tys : List (ClassId × FieldType)} {ws : va_W}
/-- a new array of a class that is known by its name -/
theorem my_newa (hexec : p.tables.exec = Jvm.exec) (hb : c.code = cc) {atype : ArrayType} (harr : (Cond.arrayClass (newarray.typeOf atype)).before args s = true) {ty : FieldType} (hty : newarray.typeOf atype = ty) (hK : va_K D cl tys s) (hP : va_P D cl ws H) (hD : va_D A ws) (hS : va_S A H0 H locs) (hA : ∀ q : Nat, H0.size ≤ q → A q)
    (t0 : Nat) {c0 : ClassId} (ht : tys[t0]? = some (c0, ty)) (hra : ∀ c1, va_RA s c1 ty → s.vm.findClass ("[" ++ ty.toString) = some c1) {n : Int32} {N' : Nat} {a0 : vp_A} (ha : ∀ cA : ClassId, vp_cell cA a0 = arrV cA N' (fun _ => defaultValue ty)) (hn : ¬ n < 0) (hN : n.toNatClampNeg = N') (hbytes : N' * componentBytes ty ≤ 536870912) (hcells : cells + 1 ≤ R.cells) (hslots : slots + N' ≤ R.slots) (hdg : decode cc pc = .ok (.newarray atype, 2))
    (kk : ∀ (q : Nat) (H1 : Heap), va_P D cl (ws ++ [(q, .inl (c0, a0))]) H1 → va_D A (ws ++ [(q, .inl (c0, a0))]) → va_S A H0 H1 locs →
      W p l e R s m args below meth c H1 locs (cells + 1) (slots + N') Q (F0 m (pc + 2) ls (.ref q :: rest))) : W p l e R s m args below meth c H locs cells slots Q (F0 m pc ls (.int n :: rest)) := by
  refine va_newa hexec hb harr hty hK hP hD hS hA ha hn hN hbytes hcells hslots hdg (fun q cA H1 hK1 hP1 hD1 hS1 => ?_)
  have h1 := (hK1.2 tys.length (cA, ty) (by simp)).2
  have h2 := (hK.2 t0 (c0, ty) ht).2
  have e9 : cA = c0 := Option.some.inj ((hra _ h1).symm.trans (hra _ h2))
  subst e9
  exact kk q H1 hP1 hD1 hS1
end Mk
end
section
abbrev R_R : String := "PlainLibrary$Row"
def T_R : u_T := fun k => match k with
  | 0 => ("PlainLibrary$Row", "sorts", "[I", true)
  | 1 => ("PlainLibrary$Row", "firsts", "[I", true)
  | 2 => ("PlainLibrary$Row", "seconds", "[I", true)
  | 3 => ("PlainLibrary$Row", "days", "[J", true)
  | _ => ("PlainLibrary$Row", "size", "I", false)
def ty_R : Nat → FieldType := fun k => match k with
  | 0 => .array .int
  | 1 => .array .int
  | 2 => .array .int
  | 3 => .array .long
  | _ => .int
theorem nm_R : ∀ a, a < 5 → ∀ b, b < 5 → a ≠ b → (T_R a).2.1 ≠ (T_R b).2.1 := by decide +kernel
theorem tk_R : ∀ k, k < 5 → parseFieldDescriptor (T_R k).2.2.1 = some (ty_R k) := by decide +kernel
abbrev R_S : String := "PlainLibrary$Shelves"
def T_S : u_T := fun k => match k with
  | 0 => ("PlainLibrary$Shelves", "headingBits", "[J", true)
  | 1 => ("PlainLibrary$Shelves", "records", "[I", true)
  | 2 => ("PlainLibrary$Shelves", "persons", "[I", true)
  | 3 => ("PlainLibrary$Shelves", "dueDays", "[J", true)
  | 4 => ("PlainLibrary$Shelves", "queued", "[I", true)
  | 5 => ("PlainLibrary$Shelves", "queueLengths", "[I", true)
  | 6 => ("PlainLibrary$Shelves", "classes", "[I", true)
  | 7 => ("PlainLibrary$Shelves", "loanDays", "[I", true)
  | _ => ("PlainLibrary$Shelves", "sums", "[I", true)
def ty_S : Nat → FieldType := fun k => match k with
  | 0 => .array .long
  | 1 => .array .int
  | 2 => .array .int
  | 3 => .array .long
  | 4 => .array .int
  | 5 => .array .int
  | 6 => .array .int
  | 7 => .array .int
  | _ => .array .int
theorem nm_S : ∀ a, a < 9 → ∀ b, b < 9 → a ≠ b → (T_S a).2.1 ≠ (T_S b).2.1 := by decide +kernel
theorem tk_S : ∀ k, k < 9 → parseFieldDescriptor (T_S k).2.2.1 = some (ty_S k) := by decide +kernel
abbrev R_L : String := "PlainLibrary"
def T_L : u_T := fun k => match k with
  | 0 => ("PlainLibrary", "row", "LPlainLibrary$Row;", true)
  | 1 => ("PlainLibrary", "shelves", "LPlainLibrary$Shelves;", true)
  | 2 => ("PlainLibrary", "hits", "[I", true)
  | _ => ("PlainLibrary", "hitCount", "I", false)
def ty_L : Nat → FieldType := fun k => match k with
  | 0 => .object "PlainLibrary$Row"
  | 1 => .object "PlainLibrary$Shelves"
  | 2 => .array .int
  | _ => .int
theorem nm_L : ∀ a, a < 4 → ∀ b, b < 4 → a ≠ b → (T_L a).2.1 ≠ (T_L b).2.1 := by decide +kernel
theorem tk_L : ∀ k, k < 4 → parseFieldDescriptor (T_L k).2.2.1 = some (ty_L k) := by decide +kernel
abbrev R_M : String := "PlainLibraryModel"
def T_M : u_T := fun k => match k with
  | 0 => ("PlainLibraryModel", "thrown", "I", false)
  | 1 => ("PlainLibraryModel", "sorts", "[I", true)
  | 2 => ("PlainLibraryModel", "as", "[I", true)
  | 3 => ("PlainLibraryModel", "bs", "[J", true)
  | 4 => ("PlainLibraryModel", "days", "[J", true)
  | 5 => ("PlainLibraryModel", "count", "I", false)
  | 6 => ("PlainLibraryModel", "headings", "[Z", true)
  | 7 => ("PlainLibraryModel", "recordOf", "[I", true)
  | 8 => ("PlainLibraryModel", "person", "[I", true)
  | 9 => ("PlainLibraryModel", "due", "[J", true)
  | 10 => ("PlainLibraryModel", "queues", "[I", true)
  | 11 => ("PlainLibraryModel", "queueSizes", "[I", true)
  | 12 => ("PlainLibraryModel", "sums", "[I", true)
  | 13 => ("PlainLibraryModel", "classes", "[I", true)
  | 14 => ("PlainLibraryModel", "lasts", "[I", true)
  | 15 => ("PlainLibraryModel", "isVoid", "[Z", true)
  | 16 => ("PlainLibraryModel", "backOf", "[I", true)
  | 17 => ("PlainLibraryModel", "voids", "I", false)
  | 18 => ("PlainLibraryModel", "peak", "I", false)
  | 19 => ("PlainLibraryModel", "hits", "[I", true)
  | _ => ("PlainLibraryModel", "hitCount", "I", false)
def ty_M : Nat → FieldType := fun k => match k with
  | 0 => .int
  | 1 => .array .int
  | 2 => .array .int
  | 3 => .array .long
  | 4 => .array .long
  | 5 => .int
  | 6 => .array .boolean
  | 7 => .array .int
  | 8 => .array .int
  | 9 => .array .long
  | 10 => .array .int
  | 11 => .array .int
  | 12 => .array .int
  | 13 => .array .int
  | 14 => .array .int
  | 15 => .array .boolean
  | 16 => .array .int
  | 17 => .int
  | 18 => .int
  | 19 => .array .int
  | _ => .int
theorem nm_M : ∀ a, a < 21 → ∀ b, b < 21 → a ≠ b → (T_M a).2.1 ≠ (T_M b).2.1 := by decide +kernel
theorem tk_M : ∀ k, k < 21 → parseFieldDescriptor (T_M k).2.2.1 = some (ty_M k) := by decide +kernel
abbrev cl9 : List vw_C := [(R_R, T_R, 5), (R_S, T_S, 9), (R_L, T_L, 4), (R_M, T_M, 21)]
/-! words of the tables -/
def tb : List Cond := lw_tbl.filter goodWord
theorem ms_ (k : Nat) {w : Cond} (h : lw_tbl[k]? = some w) (h2 : goodWord w = true) : w ∈ tb := List.mem_filter.mpr ⟨List.mem_of_getElem? h, h2⟩
theorem gsub {ws : List Cond} (h : ∀ w ∈ ws, w ∈ tb) : GoodIn tb ws := fun w hw => ⟨h w hw, good_of_word (List.mem_filter.mp (h w hw)).2⟩
theorem tb_in {P : Cond → Prop} (h : ∀ w ∈ lw_tbl, P w) : ∀ w ∈ tb, P w := fun w hw => h w (List.mem_filter.mp hw).1
theorem gV {own C : String} {idx : Nat} {y : MethodName} {bytes : ByteArray} {maxL : Nat} {rt : Option FieldType} (h1 : Cond.methodLink own idx y ∈ tb) (h2 : Cond.instanceMethod y ∈ tb) (h3 : Cond.selects C y y ∈ tb) (h4 : Cond.initialized C ∈ tb) (h5 : Cond.code y bytes maxL rt ∈ tb) : GoodIn tb (wsV own idx C y (Cond.code y bytes maxL rt :: tb)) := gsub (fun w hw => by
  unfold wsV at hw
  rcases List.mem_append.mp hw with h | h
  · simp only [List.mem_cons, List.not_mem_nil, or_false] at h
    rcases h with rfl | rfl | rfl | rfl <;> assumption
  · rcases List.mem_cons.mp h with rfl | h
    · exact h5
    · exact h)
theorem gS {own : String} {idx : Nat} {y : MethodName} {bytes : ByteArray} {maxL : Nat} {rt : Option FieldType} (h1 : Cond.methodLink own idx y ∈ tb) (h2 : Cond.static y ∈ tb) (h4 : Cond.initialized y.cls ∈ tb) (h5 : Cond.code y bytes maxL rt ∈ tb) : GoodIn tb (va_wsS own idx y (Cond.code y bytes maxL rt :: tb)) := gsub (fun w hw => by
  unfold va_wsS at hw
  rcases List.mem_append.mp hw with h | h
  · simp only [List.mem_cons, List.not_mem_nil, or_false] at h
    rcases h with rfl | rfl | rfl <;> assumption
  · rcases List.mem_cons.mp h with rfl | h
    · exact h5
    · exact h)
theorem gI {y : MethodName} {bytes : ByteArray} {maxL : Nat} {rt : Option FieldType} (h5 : Cond.code y bytes maxL rt ∈ tb) : GoodIn tb (Cond.code y bytes maxL rt :: tb) := gsub (fun w hw => by
  rcases List.mem_cons.mp hw with rfl | h
  · exact h5
  · exact h)
theorem in_R : ∀ w ∈ u_ws R_R T_R 5, w ∈ tb := fun w h => List.mem_filter.mpr ⟨(by decide +kernel : ∀ w ∈ u_ws R_R T_R 5, w ∈ lw_tbl) w h, List.all_eq_true.mp (by decide +kernel : (u_ws R_R T_R 5).all goodWord = true) w h⟩
theorem in_S : ∀ w ∈ u_ws R_S T_S 9, w ∈ tb := fun w h => List.mem_filter.mpr ⟨(by decide +kernel : ∀ w ∈ u_ws R_S T_S 9, w ∈ lw_tbl) w h, List.all_eq_true.mp (by decide +kernel : (u_ws R_S T_S 9).all goodWord = true) w h⟩
theorem in_L : ∀ w ∈ u_ws R_L T_L 4, w ∈ tb := fun w h => List.mem_filter.mpr ⟨(by decide +kernel : ∀ w ∈ u_ws R_L T_L 4, w ∈ lw_tbl) w h, List.all_eq_true.mp (by decide +kernel : (u_ws R_L T_L 4).all goodWord = true) w h⟩
theorem in_M : ∀ w ∈ u_ws R_M T_M 21, w ∈ tb := fun w h => List.mem_filter.mpr ⟨(by decide +kernel : ∀ w ∈ u_ws R_M T_M 21, w ∈ lw_tbl) w h, List.all_eq_true.mp (by decide +kernel : (u_ws R_M T_M 21).all goodWord = true) w h⟩
abbrev y_R_init : MethodName := ⟨"PlainLibrary$Row", "<init>", "()V"⟩
abbrev ws_R_init : List Cond := Cond.code y_R_init prog_2_method_1_code 1 (Option.none : Option FieldType) :: tb
theorem hs_R_init : y_R_init.cls ≠ "java/lang/invoke/MethodHandle" ∧ y_R_init.cls ≠ "java/lang/invoke/VarHandle" ∧ (parseMethodDescriptor y_R_init.desc).map (fun d => d.parameters.length) = some 0 := by decide +kernel
abbrev rm_R_init : Room := { frames := 1, cells := 4, slots := 800, locals := 12 }
abbrev y_S_init : MethodName := ⟨"PlainLibrary$Shelves", "<init>", "()V"⟩
abbrev ws_S_init : List Cond := Cond.code y_S_init prog_3_method_1_code 1 (Option.none : Option FieldType) :: tb
theorem hs_S_init : y_S_init.cls ≠ "java/lang/invoke/MethodHandle" ∧ y_S_init.cls ≠ "java/lang/invoke/VarHandle" ∧ (parseMethodDescriptor y_S_init.desc).map (fun d => d.parameters.length) = some 0 := by decide +kernel
abbrev rm_S_init : Room := { frames := 1, cells := 9, slots := 703, locals := 12 }
abbrev y_L_init : MethodName := ⟨"PlainLibrary", "<init>", "()V"⟩
abbrev ws_L_init : List Cond := Cond.code y_L_init prog_1_method_1_code 1 (Option.none : Option FieldType) :: tb
theorem hs_L_init : y_L_init.cls ≠ "java/lang/invoke/MethodHandle" ∧ y_L_init.cls ≠ "java/lang/invoke/VarHandle" ∧ (parseMethodDescriptor y_L_init.desc).map (fun d => d.parameters.length) = some 0 := by decide +kernel
abbrev rm_L_init : Room := { frames := 2, cells := 16, slots := 1537, locals := 32 }
abbrev y_L_isWithin : MethodName := ⟨"PlainLibrary", "isWithin", "(JJJ)Z"⟩
abbrev ws_L_isWithin : List Cond := Cond.code y_L_isWithin prog_1_method_16_code 6 (Option.some FieldType.boolean) :: tb
theorem hs_L_isWithin : y_L_isWithin.cls ≠ "java/lang/invoke/MethodHandle" ∧ y_L_isWithin.cls ≠ "java/lang/invoke/VarHandle" ∧ (parseMethodDescriptor y_L_isWithin.desc).map (fun d => d.parameters.length) = some 3 := by decide +kernel
abbrev rm_L_isWithin : Room := { frames := 0, cells := 0, slots := 0, locals := 0 }
abbrev y_L_isNumber : MethodName := ⟨"PlainLibrary", "isNumber", "(J)Z"⟩
abbrev ws_L_isNumber : List Cond := Cond.code y_L_isNumber prog_1_method_17_code 2 (Option.some FieldType.boolean) :: tb
theorem hs_L_isNumber : y_L_isNumber.cls ≠ "java/lang/invoke/MethodHandle" ∧ y_L_isNumber.cls ≠ "java/lang/invoke/VarHandle" ∧ (parseMethodDescriptor y_L_isNumber.desc).map (fun d => d.parameters.length) = some 1 := by decide +kernel
abbrev rm_L_isNumber : Room := { frames := 1, cells := 0, slots := 0, locals := 25 }
abbrev y_L_isAct : MethodName := ⟨"PlainLibrary", "isAct", "(IJJ)Z"⟩
abbrev ws_L_isAct : List Cond := Cond.code y_L_isAct prog_1_method_18_code 5 (Option.some FieldType.boolean) :: tb
theorem hs_L_isAct : y_L_isAct.cls ≠ "java/lang/invoke/MethodHandle" ∧ y_L_isAct.cls ≠ "java/lang/invoke/VarHandle" ∧ (parseMethodDescriptor y_L_isAct.desc).map (fun d => d.parameters.length) = some 3 := by decide +kernel
abbrev rm_L_isAct : Room := { frames := 2, cells := 0, slots := 0, locals := 46 }
abbrev y_R_placeFor : MethodName := ⟨"PlainLibrary$Row", "placeFor", "(J)I"⟩
abbrev ws_R_placeFor : List Cond := Cond.code y_R_placeFor prog_2_method_7_code 4 (Option.some FieldType.int) :: tb
theorem hs_R_placeFor : y_R_placeFor.cls ≠ "java/lang/invoke/MethodHandle" ∧ y_R_placeFor.cls ≠ "java/lang/invoke/VarHandle" ∧ (parseMethodDescriptor y_R_placeFor.desc).map (fun d => d.parameters.length) = some 1 := by decide +kernel
theorem hd_R_placeFor : y_R_placeFor.cls = R_R ∧ y_R_placeFor.cls ≠ "java/lang/invoke/MethodHandle" ∧ y_R_placeFor.cls ≠ "java/lang/invoke/VarHandle" ∧ (parseMethodDescriptor y_R_placeFor.desc).map (fun d => d.parameters.length) = some 1 := by decide +kernel
abbrev rm_R_placeFor : Room := { frames := 0, cells := 0, slots := 0, locals := 0 }
abbrev y_R_insert : MethodName := ⟨"PlainLibrary$Row", "insert", "(IIIJ)Z"⟩
abbrev ws_R_insert : List Cond := Cond.code y_R_insert prog_2_method_6_code 8 (Option.some FieldType.boolean) :: tb
theorem hs_R_insert : y_R_insert.cls ≠ "java/lang/invoke/MethodHandle" ∧ y_R_insert.cls ≠ "java/lang/invoke/VarHandle" ∧ (parseMethodDescriptor y_R_insert.desc).map (fun d => d.parameters.length) = some 4 := by decide +kernel
theorem hd_R_insert : y_R_insert.cls = R_R ∧ y_R_insert.cls ≠ "java/lang/invoke/MethodHandle" ∧ y_R_insert.cls ≠ "java/lang/invoke/VarHandle" ∧ (parseMethodDescriptor y_R_insert.desc).map (fun d => d.parameters.length) = some 4 := by decide +kernel
abbrev rm_R_insert : Room := { frames := 1, cells := 0, slots := 0, locals := 26 }
abbrev y_R_size : MethodName := ⟨"PlainLibrary$Row", "size", "()I"⟩
abbrev ws_R_size : List Cond := Cond.code y_R_size prog_2_method_2_code 1 (Option.some FieldType.int) :: tb
theorem hs_R_size : y_R_size.cls ≠ "java/lang/invoke/MethodHandle" ∧ y_R_size.cls ≠ "java/lang/invoke/VarHandle" ∧ (parseMethodDescriptor y_R_size.desc).map (fun d => d.parameters.length) = some 0 := by decide +kernel
theorem hd_R_size : y_R_size.cls = R_R ∧ y_R_size.cls ≠ "java/lang/invoke/MethodHandle" ∧ y_R_size.cls ≠ "java/lang/invoke/VarHandle" ∧ (parseMethodDescriptor y_R_size.desc).map (fun d => d.parameters.length) = some 0 := by decide +kernel
abbrev rm_R_size : Room := { frames := 0, cells := 0, slots := 0, locals := 0 }
abbrev y_L_event : MethodName := ⟨"PlainLibrary", "event", "(IJJJ)I"⟩
abbrev ws_L_event : List Cond := Cond.code y_L_event prog_1_method_2_code 9 (Option.some FieldType.int) :: tb
theorem hs_L_event : y_L_event.cls ≠ "java/lang/invoke/MethodHandle" ∧ y_L_event.cls ≠ "java/lang/invoke/VarHandle" ∧ (parseMethodDescriptor y_L_event.desc).map (fun d => d.parameters.length) = some 4 := by decide +kernel
theorem hd_L_event : y_L_event.cls = R_L ∧ y_L_event.cls ≠ "java/lang/invoke/MethodHandle" ∧ y_L_event.cls ≠ "java/lang/invoke/VarHandle" ∧ (parseMethodDescriptor y_L_event.desc).map (fun d => d.parameters.length) = some 4 := by decide +kernel
abbrev rm_L_event : Room := { frames := 3, cells := 0, slots := 0, locals := 70 }
abbrev y_J_fillJ : MethodName := ⟨"java/util/Arrays", "fill", "([JJ)V"⟩
abbrev ws_J_fillJ : List Cond := Cond.code y_J_fillJ prog_8_method_101_code 5 (Option.none : Option FieldType) :: tb
theorem hs_J_fillJ : y_J_fillJ.cls ≠ "java/lang/invoke/MethodHandle" ∧ y_J_fillJ.cls ≠ "java/lang/invoke/VarHandle" ∧ (parseMethodDescriptor y_J_fillJ.desc).map (fun d => d.parameters.length) = some 2 := by decide +kernel
abbrev rm_J_fillJ : Room := { frames := 0, cells := 0, slots := 0, locals := 0 }
abbrev y_J_fillI : MethodName := ⟨"java/util/Arrays", "fill", "([II)V"⟩
abbrev ws_J_fillI : List Cond := Cond.code y_J_fillI prog_8_method_103_code 4 (Option.none : Option FieldType) :: tb
theorem hs_J_fillI : y_J_fillI.cls ≠ "java/lang/invoke/MethodHandle" ∧ y_J_fillI.cls ≠ "java/lang/invoke/VarHandle" ∧ (parseMethodDescriptor y_J_fillI.desc).map (fun d => d.parameters.length) = some 2 := by decide +kernel
abbrev rm_J_fillI : Room := { frames := 0, cells := 0, slots := 0, locals := 0 }
abbrev y_S_clear : MethodName := ⟨"PlainLibrary$Shelves", "clear", "()V"⟩
abbrev ws_S_clear : List Cond := Cond.code y_S_clear prog_3_method_2_code 1 (Option.none : Option FieldType) :: tb
theorem hs_S_clear : y_S_clear.cls ≠ "java/lang/invoke/MethodHandle" ∧ y_S_clear.cls ≠ "java/lang/invoke/VarHandle" ∧ (parseMethodDescriptor y_S_clear.desc).map (fun d => d.parameters.length) = some 0 := by decide +kernel
theorem hd_S_clear : y_S_clear.cls = R_S ∧ y_S_clear.cls ≠ "java/lang/invoke/MethodHandle" ∧ y_S_clear.cls ≠ "java/lang/invoke/VarHandle" ∧ (parseMethodDescriptor y_S_clear.desc).map (fun d => d.parameters.length) = some 0 := by decide +kernel
abbrev rm_S_clear : Room := { frames := 1, cells := 0, slots := 0, locals := 24 }
abbrev y_S_wordIndex : MethodName := ⟨"PlainLibrary$Shelves", "wordIndex", "(II)I"⟩
abbrev ws_S_wordIndex : List Cond := Cond.code y_S_wordIndex prog_3_method_16_code 2 (Option.some FieldType.int) :: tb
theorem hs_S_wordIndex : y_S_wordIndex.cls ≠ "java/lang/invoke/MethodHandle" ∧ y_S_wordIndex.cls ≠ "java/lang/invoke/VarHandle" ∧ (parseMethodDescriptor y_S_wordIndex.desc).map (fun d => d.parameters.length) = some 2 := by decide +kernel
abbrev rm_S_wordIndex : Room := { frames := 0, cells := 0, slots := 0, locals := 0 }
abbrev y_S_bitOf : MethodName := ⟨"PlainLibrary$Shelves", "bitOf", "(I)J"⟩
abbrev ws_S_bitOf : List Cond := Cond.code y_S_bitOf prog_3_method_17_code 1 (Option.some FieldType.long) :: tb
theorem hs_S_bitOf : y_S_bitOf.cls ≠ "java/lang/invoke/MethodHandle" ∧ y_S_bitOf.cls ≠ "java/lang/invoke/VarHandle" ∧ (parseMethodDescriptor y_S_bitOf.desc).map (fun d => d.parameters.length) = some 1 := by decide +kernel
abbrev rm_S_bitOf : Room := { frames := 0, cells := 0, slots := 0, locals := 0 }
abbrev y_S_hasHeading : MethodName := ⟨"PlainLibrary$Shelves", "hasHeading", "(II)Z"⟩
abbrev ws_S_hasHeading : List Cond := Cond.code y_S_hasHeading prog_3_method_9_code 3 (Option.some FieldType.boolean) :: tb
theorem hs_S_hasHeading : y_S_hasHeading.cls ≠ "java/lang/invoke/MethodHandle" ∧ y_S_hasHeading.cls ≠ "java/lang/invoke/VarHandle" ∧ (parseMethodDescriptor y_S_hasHeading.desc).map (fun d => d.parameters.length) = some 2 := by decide +kernel
theorem hd_S_hasHeading : y_S_hasHeading.cls = R_S ∧ y_S_hasHeading.cls ≠ "java/lang/invoke/MethodHandle" ∧ y_S_hasHeading.cls ≠ "java/lang/invoke/VarHandle" ∧ (parseMethodDescriptor y_S_hasHeading.desc).map (fun d => d.parameters.length) = some 2 := by decide +kernel
abbrev rm_S_hasHeading : Room := { frames := 1, cells := 0, slots := 0, locals := 21 }
abbrev y_S_addHeading : MethodName := ⟨"PlainLibrary$Shelves", "addHeading", "(II)Z"⟩
abbrev ws_S_addHeading : List Cond := Cond.code y_S_addHeading prog_3_method_18_code 3 (Option.some FieldType.boolean) :: tb
theorem hs_S_addHeading : y_S_addHeading.cls ≠ "java/lang/invoke/MethodHandle" ∧ y_S_addHeading.cls ≠ "java/lang/invoke/VarHandle" ∧ (parseMethodDescriptor y_S_addHeading.desc).map (fun d => d.parameters.length) = some 2 := by decide +kernel
theorem hd_S_addHeading : y_S_addHeading.cls = R_S ∧ y_S_addHeading.cls ≠ "java/lang/invoke/MethodHandle" ∧ y_S_addHeading.cls ≠ "java/lang/invoke/VarHandle" ∧ (parseMethodDescriptor y_S_addHeading.desc).map (fun d => d.parameters.length) = some 2 := by decide +kernel
abbrev rm_S_addHeading : Room := { frames := 2, cells := 0, slots := 0, locals := 43 }
abbrev y_S_dropHeading : MethodName := ⟨"PlainLibrary$Shelves", "dropHeading", "(II)Z"⟩
abbrev ws_S_dropHeading : List Cond := Cond.code y_S_dropHeading prog_3_method_19_code 3 (Option.some FieldType.boolean) :: tb
theorem hs_S_dropHeading : y_S_dropHeading.cls ≠ "java/lang/invoke/MethodHandle" ∧ y_S_dropHeading.cls ≠ "java/lang/invoke/VarHandle" ∧ (parseMethodDescriptor y_S_dropHeading.desc).map (fun d => d.parameters.length) = some 2 := by decide +kernel
theorem hd_S_dropHeading : y_S_dropHeading.cls = R_S ∧ y_S_dropHeading.cls ≠ "java/lang/invoke/MethodHandle" ∧ y_S_dropHeading.cls ≠ "java/lang/invoke/VarHandle" ∧ (parseMethodDescriptor y_S_dropHeading.desc).map (fun d => d.parameters.length) = some 2 := by decide +kernel
abbrev rm_S_dropHeading : Room := { frames := 2, cells := 0, slots := 0, locals := 43 }
abbrev y_S_setRecord : MethodName := ⟨"PlainLibrary$Shelves", "setRecord", "(II)Z"⟩
abbrev ws_S_setRecord : List Cond := Cond.code y_S_setRecord prog_3_method_20_code 3 (Option.some FieldType.boolean) :: tb
theorem hs_S_setRecord : y_S_setRecord.cls ≠ "java/lang/invoke/MethodHandle" ∧ y_S_setRecord.cls ≠ "java/lang/invoke/VarHandle" ∧ (parseMethodDescriptor y_S_setRecord.desc).map (fun d => d.parameters.length) = some 2 := by decide +kernel
theorem hd_S_setRecord : y_S_setRecord.cls = R_S ∧ y_S_setRecord.cls ≠ "java/lang/invoke/MethodHandle" ∧ y_S_setRecord.cls ≠ "java/lang/invoke/VarHandle" ∧ (parseMethodDescriptor y_S_setRecord.desc).map (fun d => d.parameters.length) = some 2 := by decide +kernel
abbrev rm_S_setRecord : Room := { frames := 0, cells := 0, slots := 0, locals := 0 }
abbrev y_S_personAt : MethodName := ⟨"PlainLibrary$Shelves", "personAt", "(II)I"⟩
abbrev ws_S_personAt : List Cond := Cond.code y_S_personAt prog_3_method_12_code 3 (Option.some FieldType.int) :: tb
theorem hs_S_personAt : y_S_personAt.cls ≠ "java/lang/invoke/MethodHandle" ∧ y_S_personAt.cls ≠ "java/lang/invoke/VarHandle" ∧ (parseMethodDescriptor y_S_personAt.desc).map (fun d => d.parameters.length) = some 2 := by decide +kernel
theorem hd_S_personAt : y_S_personAt.cls = R_S ∧ y_S_personAt.cls ≠ "java/lang/invoke/MethodHandle" ∧ y_S_personAt.cls ≠ "java/lang/invoke/VarHandle" ∧ (parseMethodDescriptor y_S_personAt.desc).map (fun d => d.parameters.length) = some 2 := by decide +kernel
abbrev rm_S_personAt : Room := { frames := 0, cells := 0, slots := 0, locals := 0 }
abbrev y_S_placeInQueue : MethodName := ⟨"PlainLibrary$Shelves", "placeInQueue", "(II)I"⟩
abbrev ws_S_placeInQueue : List Cond := Cond.code y_S_placeInQueue prog_3_method_23_code 4 (Option.some FieldType.int) :: tb
theorem hs_S_placeInQueue : y_S_placeInQueue.cls ≠ "java/lang/invoke/MethodHandle" ∧ y_S_placeInQueue.cls ≠ "java/lang/invoke/VarHandle" ∧ (parseMethodDescriptor y_S_placeInQueue.desc).map (fun d => d.parameters.length) = some 2 := by decide +kernel
theorem hd_S_placeInQueue : y_S_placeInQueue.cls = R_S ∧ y_S_placeInQueue.cls ≠ "java/lang/invoke/MethodHandle" ∧ y_S_placeInQueue.cls ≠ "java/lang/invoke/VarHandle" ∧ (parseMethodDescriptor y_S_placeInQueue.desc).map (fun d => d.parameters.length) = some 2 := by decide +kernel
abbrev rm_S_placeInQueue : Room := { frames := 0, cells := 0, slots := 0, locals := 0 }
abbrev y_S_leaveQueue : MethodName := ⟨"PlainLibrary$Shelves", "leaveQueue", "(II)Z"⟩
abbrev ws_S_leaveQueue : List Cond := Cond.code y_S_leaveQueue prog_3_method_25_code 5 (Option.some FieldType.boolean) :: tb
theorem hs_S_leaveQueue : y_S_leaveQueue.cls ≠ "java/lang/invoke/MethodHandle" ∧ y_S_leaveQueue.cls ≠ "java/lang/invoke/VarHandle" ∧ (parseMethodDescriptor y_S_leaveQueue.desc).map (fun d => d.parameters.length) = some 2 := by decide +kernel
theorem hd_S_leaveQueue : y_S_leaveQueue.cls = R_S ∧ y_S_leaveQueue.cls ≠ "java/lang/invoke/MethodHandle" ∧ y_S_leaveQueue.cls ≠ "java/lang/invoke/VarHandle" ∧ (parseMethodDescriptor y_S_leaveQueue.desc).map (fun d => d.parameters.length) = some 2 := by decide +kernel
abbrev rm_S_leaveQueue : Room := { frames := 1, cells := 0, slots := 0, locals := 26 }
abbrev y_S_lend : MethodName := ⟨"PlainLibrary$Shelves", "lend", "(IIJ)Z"⟩
abbrev ws_S_lend : List Cond := Cond.code y_S_lend prog_3_method_21_code 7 (Option.some FieldType.boolean) :: tb
theorem hs_S_lend : y_S_lend.cls ≠ "java/lang/invoke/MethodHandle" ∧ y_S_lend.cls ≠ "java/lang/invoke/VarHandle" ∧ (parseMethodDescriptor y_S_lend.desc).map (fun d => d.parameters.length) = some 3 := by decide +kernel
theorem hd_S_lend : y_S_lend.cls = R_S ∧ y_S_lend.cls ≠ "java/lang/invoke/MethodHandle" ∧ y_S_lend.cls ≠ "java/lang/invoke/VarHandle" ∧ (parseMethodDescriptor y_S_lend.desc).map (fun d => d.parameters.length) = some 3 := by decide +kernel
abbrev rm_S_lend : Room := { frames := 2, cells := 0, slots := 0, locals := 50 }
abbrev y_S_giveBack : MethodName := ⟨"PlainLibrary$Shelves", "giveBack", "(I)Z"⟩
abbrev ws_S_giveBack : List Cond := Cond.code y_S_giveBack prog_3_method_22_code 2 (Option.some FieldType.boolean) :: tb
theorem hs_S_giveBack : y_S_giveBack.cls ≠ "java/lang/invoke/MethodHandle" ∧ y_S_giveBack.cls ≠ "java/lang/invoke/VarHandle" ∧ (parseMethodDescriptor y_S_giveBack.desc).map (fun d => d.parameters.length) = some 1 := by decide +kernel
theorem hd_S_giveBack : y_S_giveBack.cls = R_S ∧ y_S_giveBack.cls ≠ "java/lang/invoke/MethodHandle" ∧ y_S_giveBack.cls ≠ "java/lang/invoke/VarHandle" ∧ (parseMethodDescriptor y_S_giveBack.desc).map (fun d => d.parameters.length) = some 1 := by decide +kernel
abbrev rm_S_giveBack : Room := { frames := 0, cells := 0, slots := 0, locals := 0 }
abbrev y_S_joinQueue : MethodName := ⟨"PlainLibrary$Shelves", "joinQueue", "(II)Z"⟩
abbrev ws_S_joinQueue : List Cond := Cond.code y_S_joinQueue prog_3_method_24_code 4 (Option.some FieldType.boolean) :: tb
theorem hs_S_joinQueue : y_S_joinQueue.cls ≠ "java/lang/invoke/MethodHandle" ∧ y_S_joinQueue.cls ≠ "java/lang/invoke/VarHandle" ∧ (parseMethodDescriptor y_S_joinQueue.desc).map (fun d => d.parameters.length) = some 2 := by decide +kernel
theorem hd_S_joinQueue : y_S_joinQueue.cls = R_S ∧ y_S_joinQueue.cls ≠ "java/lang/invoke/MethodHandle" ∧ y_S_joinQueue.cls ≠ "java/lang/invoke/VarHandle" ∧ (parseMethodDescriptor y_S_joinQueue.desc).map (fun d => d.parameters.length) = some 2 := by decide +kernel
abbrev rm_S_joinQueue : Room := { frames := 1, cells := 0, slots := 0, locals := 23 }
abbrev y_S_sumIndex : MethodName := ⟨"PlainLibrary$Shelves", "sumIndex", "(II)I"⟩
abbrev ws_S_sumIndex : List Cond := Cond.code y_S_sumIndex prog_3_method_15_code 2 (Option.some FieldType.int) :: tb
theorem hs_S_sumIndex : y_S_sumIndex.cls ≠ "java/lang/invoke/MethodHandle" ∧ y_S_sumIndex.cls ≠ "java/lang/invoke/VarHandle" ∧ (parseMethodDescriptor y_S_sumIndex.desc).map (fun d => d.parameters.length) = some 2 := by decide +kernel
abbrev rm_S_sumIndex : Room := { frames := 0, cells := 0, slots := 0, locals := 0 }
abbrev y_S_loseFile : MethodName := ⟨"PlainLibrary$Shelves", "loseFile", "(II)Z"⟩
abbrev ws_S_loseFile : List Cond := Cond.code y_S_loseFile prog_3_method_26_code 4 (Option.some FieldType.boolean) :: tb
theorem hs_S_loseFile : y_S_loseFile.cls ≠ "java/lang/invoke/MethodHandle" ∧ y_S_loseFile.cls ≠ "java/lang/invoke/VarHandle" ∧ (parseMethodDescriptor y_S_loseFile.desc).map (fun d => d.parameters.length) = some 2 := by decide +kernel
theorem hd_S_loseFile : y_S_loseFile.cls = R_S ∧ y_S_loseFile.cls ≠ "java/lang/invoke/MethodHandle" ∧ y_S_loseFile.cls ≠ "java/lang/invoke/VarHandle" ∧ (parseMethodDescriptor y_S_loseFile.desc).map (fun d => d.parameters.length) = some 2 := by decide +kernel
abbrev rm_S_loseFile : Room := { frames := 1, cells := 0, slots := 0, locals := 21 }
abbrev y_S_perform : MethodName := ⟨"PlainLibrary$Shelves", "perform", "(IIIJ)Z"⟩
abbrev ws_S_perform : List Cond := Cond.code y_S_perform prog_3_method_3_code 6 (Option.some FieldType.boolean) :: tb
theorem hs_S_perform : y_S_perform.cls ≠ "java/lang/invoke/MethodHandle" ∧ y_S_perform.cls ≠ "java/lang/invoke/VarHandle" ∧ (parseMethodDescriptor y_S_perform.desc).map (fun d => d.parameters.length) = some 4 := by decide +kernel
theorem hd_S_perform : y_S_perform.cls = R_S ∧ y_S_perform.cls ≠ "java/lang/invoke/MethodHandle" ∧ y_S_perform.cls ≠ "java/lang/invoke/VarHandle" ∧ (parseMethodDescriptor y_S_perform.desc).map (fun d => d.parameters.length) = some 4 := by decide +kernel
abbrev rm_S_perform : Room := { frames := 3, cells := 0, slots := 0, locals := 76 }
abbrev y_R_perform : MethodName := ⟨"PlainLibrary$Row", "perform", "(ILPlainLibrary$Shelves;)Z"⟩
abbrev ws_R_perform : List Cond := Cond.code y_R_perform prog_2_method_5_code 3 (Option.some FieldType.boolean) :: tb
theorem hs_R_perform : y_R_perform.cls ≠ "java/lang/invoke/MethodHandle" ∧ y_R_perform.cls ≠ "java/lang/invoke/VarHandle" ∧ (parseMethodDescriptor y_R_perform.desc).map (fun d => d.parameters.length) = some 2 := by decide +kernel
theorem hd_R_perform : y_R_perform.cls = R_R ∧ y_R_perform.cls ≠ "java/lang/invoke/MethodHandle" ∧ y_R_perform.cls ≠ "java/lang/invoke/VarHandle" ∧ (parseMethodDescriptor y_R_perform.desc).map (fun d => d.parameters.length) = some 2 := by decide +kernel
abbrev rm_R_perform : Room := { frames := 4, cells := 0, slots := 0, locals := 101 }
abbrev y_L_counts : MethodName := ⟨"PlainLibrary", "counts", "(I)I"⟩
abbrev ws_L_counts : List Cond := Cond.code y_L_counts prog_1_method_3_code 3 (Option.some FieldType.int) :: tb
theorem hs_L_counts : y_L_counts.cls ≠ "java/lang/invoke/MethodHandle" ∧ y_L_counts.cls ≠ "java/lang/invoke/VarHandle" ∧ (parseMethodDescriptor y_L_counts.desc).map (fun d => d.parameters.length) = some 1 := by decide +kernel
theorem hd_L_counts : y_L_counts.cls = R_L ∧ y_L_counts.cls ≠ "java/lang/invoke/MethodHandle" ∧ y_L_counts.cls ≠ "java/lang/invoke/VarHandle" ∧ (parseMethodDescriptor y_L_counts.desc).map (fun d => d.parameters.length) = some 1 := by decide +kernel
abbrev rm_L_counts : Room := { frames := 5, cells := 0, slots := 0, locals := 123 }
abbrev y_L_events : MethodName := ⟨"PlainLibrary", "events", "()I"⟩
abbrev ws_L_events : List Cond := Cond.code y_L_events prog_1_method_4_code 1 (Option.some FieldType.int) :: tb
theorem hs_L_events : y_L_events.cls ≠ "java/lang/invoke/MethodHandle" ∧ y_L_events.cls ≠ "java/lang/invoke/VarHandle" ∧ (parseMethodDescriptor y_L_events.desc).map (fun d => d.parameters.length) = some 0 := by decide +kernel
theorem hd_L_events : y_L_events.cls = R_L ∧ y_L_events.cls ≠ "java/lang/invoke/MethodHandle" ∧ y_L_events.cls ≠ "java/lang/invoke/VarHandle" ∧ (parseMethodDescriptor y_L_events.desc).map (fun d => d.parameters.length) = some 0 := by decide +kernel
abbrev rm_L_events : Room := { frames := 1, cells := 0, slots := 0, locals := 20 }
abbrev y_L_refused : MethodName := ⟨"PlainLibrary", "refused", "()I"⟩
abbrev ws_L_refused : List Cond := Cond.code y_L_refused prog_1_method_5_code 3 (Option.some FieldType.int) :: tb
theorem hs_L_refused : y_L_refused.cls ≠ "java/lang/invoke/MethodHandle" ∧ y_L_refused.cls ≠ "java/lang/invoke/VarHandle" ∧ (parseMethodDescriptor y_L_refused.desc).map (fun d => d.parameters.length) = some 0 := by decide +kernel
theorem hd_L_refused : y_L_refused.cls = R_L ∧ y_L_refused.cls ≠ "java/lang/invoke/MethodHandle" ∧ y_L_refused.cls ≠ "java/lang/invoke/VarHandle" ∧ (parseMethodDescriptor y_L_refused.desc).map (fun d => d.parameters.length) = some 0 := by decide +kernel
abbrev rm_L_refused : Room := { frames := 5, cells := 0, slots := 0, locals := 123 }
abbrev y_R_dayOf : MethodName := ⟨"PlainLibrary$Row", "dayOf", "(I)J"⟩
abbrev ws_R_dayOf : List Cond := Cond.code y_R_dayOf prog_2_method_3_code 2 (Option.some FieldType.long) :: tb
theorem hs_R_dayOf : y_R_dayOf.cls ≠ "java/lang/invoke/MethodHandle" ∧ y_R_dayOf.cls ≠ "java/lang/invoke/VarHandle" ∧ (parseMethodDescriptor y_R_dayOf.desc).map (fun d => d.parameters.length) = some 1 := by decide +kernel
theorem hd_R_dayOf : y_R_dayOf.cls = R_R ∧ y_R_dayOf.cls ≠ "java/lang/invoke/MethodHandle" ∧ y_R_dayOf.cls ≠ "java/lang/invoke/VarHandle" ∧ (parseMethodDescriptor y_R_dayOf.desc).map (fun d => d.parameters.length) = some 1 := by decide +kernel
abbrev rm_R_dayOf : Room := { frames := 0, cells := 0, slots := 0, locals := 0 }
abbrev y_L_performUpTo : MethodName := ⟨"PlainLibrary", "performUpTo", "(J)V"⟩
abbrev ws_L_performUpTo : List Cond := Cond.code y_L_performUpTo prog_1_method_20_code 4 (Option.none : Option FieldType) :: tb
theorem hs_L_performUpTo : y_L_performUpTo.cls ≠ "java/lang/invoke/MethodHandle" ∧ y_L_performUpTo.cls ≠ "java/lang/invoke/VarHandle" ∧ (parseMethodDescriptor y_L_performUpTo.desc).map (fun d => d.parameters.length) = some 1 := by decide +kernel
theorem hd_L_performUpTo : y_L_performUpTo.cls = R_L ∧ y_L_performUpTo.cls ≠ "java/lang/invoke/MethodHandle" ∧ y_L_performUpTo.cls ≠ "java/lang/invoke/VarHandle" ∧ (parseMethodDescriptor y_L_performUpTo.desc).map (fun d => d.parameters.length) = some 1 := by decide +kernel
abbrev rm_L_performUpTo : Room := { frames := 5, cells := 0, slots := 0, locals := 123 }
abbrev y_S_recordOf : MethodName := ⟨"PlainLibrary$Shelves", "recordOf", "(I)I"⟩
abbrev ws_S_recordOf : List Cond := Cond.code y_S_recordOf prog_3_method_4_code 2 (Option.some FieldType.int) :: tb
theorem hs_S_recordOf : y_S_recordOf.cls ≠ "java/lang/invoke/MethodHandle" ∧ y_S_recordOf.cls ≠ "java/lang/invoke/VarHandle" ∧ (parseMethodDescriptor y_S_recordOf.desc).map (fun d => d.parameters.length) = some 1 := by decide +kernel
theorem hd_S_recordOf : y_S_recordOf.cls = R_S ∧ y_S_recordOf.cls ≠ "java/lang/invoke/MethodHandle" ∧ y_S_recordOf.cls ≠ "java/lang/invoke/VarHandle" ∧ (parseMethodDescriptor y_S_recordOf.desc).map (fun d => d.parameters.length) = some 1 := by decide +kernel
abbrev rm_S_recordOf : Room := { frames := 0, cells := 0, slots := 0, locals := 0 }
abbrev y_S_personWith : MethodName := ⟨"PlainLibrary$Shelves", "personWith", "(I)I"⟩
abbrev ws_S_personWith : List Cond := Cond.code y_S_personWith prog_3_method_5_code 2 (Option.some FieldType.int) :: tb
theorem hs_S_personWith : y_S_personWith.cls ≠ "java/lang/invoke/MethodHandle" ∧ y_S_personWith.cls ≠ "java/lang/invoke/VarHandle" ∧ (parseMethodDescriptor y_S_personWith.desc).map (fun d => d.parameters.length) = some 1 := by decide +kernel
theorem hd_S_personWith : y_S_personWith.cls = R_S ∧ y_S_personWith.cls ≠ "java/lang/invoke/MethodHandle" ∧ y_S_personWith.cls ≠ "java/lang/invoke/VarHandle" ∧ (parseMethodDescriptor y_S_personWith.desc).map (fun d => d.parameters.length) = some 1 := by decide +kernel
abbrev rm_S_personWith : Room := { frames := 0, cells := 0, slots := 0, locals := 0 }
abbrev y_S_classOf : MethodName := ⟨"PlainLibrary$Shelves", "classOf", "(I)I"⟩
abbrev ws_S_classOf : List Cond := Cond.code y_S_classOf prog_3_method_6_code 2 (Option.some FieldType.int) :: tb
theorem hs_S_classOf : y_S_classOf.cls ≠ "java/lang/invoke/MethodHandle" ∧ y_S_classOf.cls ≠ "java/lang/invoke/VarHandle" ∧ (parseMethodDescriptor y_S_classOf.desc).map (fun d => d.parameters.length) = some 1 := by decide +kernel
theorem hd_S_classOf : y_S_classOf.cls = R_S ∧ y_S_classOf.cls ≠ "java/lang/invoke/MethodHandle" ∧ y_S_classOf.cls ≠ "java/lang/invoke/VarHandle" ∧ (parseMethodDescriptor y_S_classOf.desc).map (fun d => d.parameters.length) = some 1 := by decide +kernel
abbrev rm_S_classOf : Room := { frames := 0, cells := 0, slots := 0, locals := 0 }
abbrev y_S_copiesThereOf : MethodName := ⟨"PlainLibrary$Shelves", "copiesThereOf", "(I)I"⟩
abbrev ws_S_copiesThereOf : List Cond := Cond.code y_S_copiesThereOf prog_3_method_7_code 4 (Option.some FieldType.int) :: tb
theorem hs_S_copiesThereOf : y_S_copiesThereOf.cls ≠ "java/lang/invoke/MethodHandle" ∧ y_S_copiesThereOf.cls ≠ "java/lang/invoke/VarHandle" ∧ (parseMethodDescriptor y_S_copiesThereOf.desc).map (fun d => d.parameters.length) = some 1 := by decide +kernel
theorem hd_S_copiesThereOf : y_S_copiesThereOf.cls = R_S ∧ y_S_copiesThereOf.cls ≠ "java/lang/invoke/MethodHandle" ∧ y_S_copiesThereOf.cls ≠ "java/lang/invoke/VarHandle" ∧ (parseMethodDescriptor y_S_copiesThereOf.desc).map (fun d => d.parameters.length) = some 1 := by decide +kernel
abbrev rm_S_copiesThereOf : Room := { frames := 0, cells := 0, slots := 0, locals := 0 }
abbrev y_L_state : MethodName := ⟨"PlainLibrary", "state", "(IIJ)I"⟩
abbrev ws_L_state : List Cond := Cond.code y_L_state prog_1_method_6_code 5 (Option.some FieldType.int) :: tb
theorem hs_L_state : y_L_state.cls ≠ "java/lang/invoke/MethodHandle" ∧ y_L_state.cls ≠ "java/lang/invoke/VarHandle" ∧ (parseMethodDescriptor y_L_state.desc).map (fun d => d.parameters.length) = some 3 := by decide +kernel
theorem hd_L_state : y_L_state.cls = R_L ∧ y_L_state.cls ≠ "java/lang/invoke/MethodHandle" ∧ y_L_state.cls ≠ "java/lang/invoke/VarHandle" ∧ (parseMethodDescriptor y_L_state.desc).map (fun d => d.parameters.length) = some 3 := by decide +kernel
abbrev rm_L_state : Room := { frames := 6, cells := 0, slots := 0, locals := 146 }
abbrev y_L_performAll : MethodName := ⟨"PlainLibrary", "performAll", "()V"⟩
abbrev ws_L_performAll : List Cond := Cond.code y_L_performAll prog_1_method_19_code 1 (Option.none : Option FieldType) :: tb
theorem hs_L_performAll : y_L_performAll.cls ≠ "java/lang/invoke/MethodHandle" ∧ y_L_performAll.cls ≠ "java/lang/invoke/VarHandle" ∧ (parseMethodDescriptor y_L_performAll.desc).map (fun d => d.parameters.length) = some 0 := by decide +kernel
theorem hd_L_performAll : y_L_performAll.cls = R_L ∧ y_L_performAll.cls ≠ "java/lang/invoke/MethodHandle" ∧ y_L_performAll.cls ≠ "java/lang/invoke/VarHandle" ∧ (parseMethodDescriptor y_L_performAll.desc).map (fun d => d.parameters.length) = some 0 := by decide +kernel
abbrev rm_L_performAll : Room := { frames := 6, cells := 0, slots := 0, locals := 146 }
abbrev y_S_headingAt : MethodName := ⟨"PlainLibrary$Shelves", "headingAt", "(II)I"⟩
abbrev ws_S_headingAt : List Cond := Cond.code y_S_headingAt prog_3_method_10_code 5 (Option.some FieldType.int) :: tb
theorem hs_S_headingAt : y_S_headingAt.cls ≠ "java/lang/invoke/MethodHandle" ∧ y_S_headingAt.cls ≠ "java/lang/invoke/VarHandle" ∧ (parseMethodDescriptor y_S_headingAt.desc).map (fun d => d.parameters.length) = some 2 := by decide +kernel
theorem hd_S_headingAt : y_S_headingAt.cls = R_S ∧ y_S_headingAt.cls ≠ "java/lang/invoke/MethodHandle" ∧ y_S_headingAt.cls ≠ "java/lang/invoke/VarHandle" ∧ (parseMethodDescriptor y_S_headingAt.desc).map (fun d => d.parameters.length) = some 2 := by decide +kernel
abbrev rm_S_headingAt : Room := { frames := 2, cells := 0, slots := 0, locals := 43 }
abbrev y_L_heading : MethodName := ⟨"PlainLibrary", "heading", "(II)I"⟩
abbrev ws_L_heading : List Cond := Cond.code y_L_heading prog_1_method_7_code 3 (Option.some FieldType.int) :: tb
theorem hs_L_heading : y_L_heading.cls ≠ "java/lang/invoke/MethodHandle" ∧ y_L_heading.cls ≠ "java/lang/invoke/VarHandle" ∧ (parseMethodDescriptor y_L_heading.desc).map (fun d => d.parameters.length) = some 2 := by decide +kernel
theorem hd_L_heading : y_L_heading.cls = R_L ∧ y_L_heading.cls ≠ "java/lang/invoke/MethodHandle" ∧ y_L_heading.cls ≠ "java/lang/invoke/VarHandle" ∧ (parseMethodDescriptor y_L_heading.desc).map (fun d => d.parameters.length) = some 2 := by decide +kernel
abbrev rm_L_heading : Room := { frames := 7, cells := 0, slots := 0, locals := 166 }
abbrev y_L_question : MethodName := ⟨"PlainLibrary", "question", "(II)I"⟩
abbrev ws_L_question : List Cond := Cond.code y_L_question prog_1_method_8_code 4 (Option.some FieldType.int) :: tb
theorem hs_L_question : y_L_question.cls ≠ "java/lang/invoke/MethodHandle" ∧ y_L_question.cls ≠ "java/lang/invoke/VarHandle" ∧ (parseMethodDescriptor y_L_question.desc).map (fun d => d.parameters.length) = some 2 := by decide +kernel
theorem hd_L_question : y_L_question.cls = R_L ∧ y_L_question.cls ≠ "java/lang/invoke/MethodHandle" ∧ y_L_question.cls ≠ "java/lang/invoke/VarHandle" ∧ (parseMethodDescriptor y_L_question.desc).map (fun d => d.parameters.length) = some 2 := by decide +kernel
abbrev rm_L_question : Room := { frames := 7, cells := 0, slots := 0, locals := 166 }
abbrev y_L_hit : MethodName := ⟨"PlainLibrary", "hit", "(I)I"⟩
abbrev ws_L_hit : List Cond := Cond.code y_L_hit prog_1_method_9_code 2 (Option.some FieldType.int) :: tb
theorem hs_L_hit : y_L_hit.cls ≠ "java/lang/invoke/MethodHandle" ∧ y_L_hit.cls ≠ "java/lang/invoke/VarHandle" ∧ (parseMethodDescriptor y_L_hit.desc).map (fun d => d.parameters.length) = some 1 := by decide +kernel
theorem hd_L_hit : y_L_hit.cls = R_L ∧ y_L_hit.cls ≠ "java/lang/invoke/MethodHandle" ∧ y_L_hit.cls ≠ "java/lang/invoke/VarHandle" ∧ (parseMethodDescriptor y_L_hit.desc).map (fun d => d.parameters.length) = some 1 := by decide +kernel
abbrev rm_L_hit : Room := { frames := 0, cells := 0, slots := 0, locals := 0 }
abbrev y_S_dueDayOf : MethodName := ⟨"PlainLibrary$Shelves", "dueDayOf", "(I)J"⟩
abbrev ws_S_dueDayOf : List Cond := Cond.code y_S_dueDayOf prog_3_method_11_code 2 (Option.some FieldType.long) :: tb
theorem hs_S_dueDayOf : y_S_dueDayOf.cls ≠ "java/lang/invoke/MethodHandle" ∧ y_S_dueDayOf.cls ≠ "java/lang/invoke/VarHandle" ∧ (parseMethodDescriptor y_S_dueDayOf.desc).map (fun d => d.parameters.length) = some 1 := by decide +kernel
theorem hd_S_dueDayOf : y_S_dueDayOf.cls = R_S ∧ y_S_dueDayOf.cls ≠ "java/lang/invoke/MethodHandle" ∧ y_S_dueDayOf.cls ≠ "java/lang/invoke/VarHandle" ∧ (parseMethodDescriptor y_S_dueDayOf.desc).map (fun d => d.parameters.length) = some 1 := by decide +kernel
abbrev rm_S_dueDayOf : Room := { frames := 0, cells := 0, slots := 0, locals := 0 }
abbrev y_L_due : MethodName := ⟨"PlainLibrary", "due", "(I)J"⟩
abbrev ws_L_due : List Cond := Cond.code y_L_due prog_1_method_10_code 2 (Option.some FieldType.long) :: tb
theorem hs_L_due : y_L_due.cls ≠ "java/lang/invoke/MethodHandle" ∧ y_L_due.cls ≠ "java/lang/invoke/VarHandle" ∧ (parseMethodDescriptor y_L_due.desc).map (fun d => d.parameters.length) = some 1 := by decide +kernel
theorem hd_L_due : y_L_due.cls = R_L ∧ y_L_due.cls ≠ "java/lang/invoke/MethodHandle" ∧ y_L_due.cls ≠ "java/lang/invoke/VarHandle" ∧ (parseMethodDescriptor y_L_due.desc).map (fun d => d.parameters.length) = some 1 := by decide +kernel
abbrev rm_L_due : Room := { frames := 7, cells := 0, slots := 0, locals := 166 }
abbrev y_L_queue : MethodName := ⟨"PlainLibrary", "queue", "(II)I"⟩
abbrev ws_L_queue : List Cond := Cond.code y_L_queue prog_1_method_11_code 3 (Option.some FieldType.int) :: tb
theorem hs_L_queue : y_L_queue.cls ≠ "java/lang/invoke/MethodHandle" ∧ y_L_queue.cls ≠ "java/lang/invoke/VarHandle" ∧ (parseMethodDescriptor y_L_queue.desc).map (fun d => d.parameters.length) = some 2 := by decide +kernel
theorem hd_L_queue : y_L_queue.cls = R_L ∧ y_L_queue.cls ≠ "java/lang/invoke/MethodHandle" ∧ y_L_queue.cls ≠ "java/lang/invoke/VarHandle" ∧ (parseMethodDescriptor y_L_queue.desc).map (fun d => d.parameters.length) = some 2 := by decide +kernel
abbrev rm_L_queue : Room := { frames := 7, cells := 0, slots := 0, locals := 166 }
abbrev y_S_storesWith : MethodName := ⟨"PlainLibrary$Shelves", "storesWith", "(II)I"⟩
abbrev ws_S_storesWith : List Cond := Cond.code y_S_storesWith prog_3_method_14_code 5 (Option.some FieldType.int) :: tb
theorem hs_S_storesWith : y_S_storesWith.cls ≠ "java/lang/invoke/MethodHandle" ∧ y_S_storesWith.cls ≠ "java/lang/invoke/VarHandle" ∧ (parseMethodDescriptor y_S_storesWith.desc).map (fun d => d.parameters.length) = some 2 := by decide +kernel
theorem hd_S_storesWith : y_S_storesWith.cls = R_S ∧ y_S_storesWith.cls ≠ "java/lang/invoke/MethodHandle" ∧ y_S_storesWith.cls ≠ "java/lang/invoke/VarHandle" ∧ (parseMethodDescriptor y_S_storesWith.desc).map (fun d => d.parameters.length) = some 2 := by decide +kernel
abbrev rm_S_storesWith : Room := { frames := 1, cells := 0, slots := 0, locals := 21 }
abbrev y_S_commonSumOf : MethodName := ⟨"PlainLibrary$Shelves", "commonSumOf", "(I)I"⟩
abbrev ws_S_commonSumOf : List Cond := Cond.code y_S_commonSumOf prog_3_method_13_code 4 (Option.some FieldType.int) :: tb
theorem hs_S_commonSumOf : y_S_commonSumOf.cls ≠ "java/lang/invoke/MethodHandle" ∧ y_S_commonSumOf.cls ≠ "java/lang/invoke/VarHandle" ∧ (parseMethodDescriptor y_S_commonSumOf.desc).map (fun d => d.parameters.length) = some 1 := by decide +kernel
theorem hd_S_commonSumOf : y_S_commonSumOf.cls = R_S ∧ y_S_commonSumOf.cls ≠ "java/lang/invoke/MethodHandle" ∧ y_S_commonSumOf.cls ≠ "java/lang/invoke/VarHandle" ∧ (parseMethodDescriptor y_S_commonSumOf.desc).map (fun d => d.parameters.length) = some 1 := by decide +kernel
abbrev rm_S_commonSumOf : Room := { frames := 2, cells := 0, slots := 0, locals := 45 }
abbrev y_L_poll : MethodName := ⟨"PlainLibrary", "poll", "(I)I"⟩
abbrev ws_L_poll : List Cond := Cond.code y_L_poll prog_1_method_12_code 2 (Option.some FieldType.int) :: tb
theorem hs_L_poll : y_L_poll.cls ≠ "java/lang/invoke/MethodHandle" ∧ y_L_poll.cls ≠ "java/lang/invoke/VarHandle" ∧ (parseMethodDescriptor y_L_poll.desc).map (fun d => d.parameters.length) = some 1 := by decide +kernel
theorem hd_L_poll : y_L_poll.cls = R_L ∧ y_L_poll.cls ≠ "java/lang/invoke/MethodHandle" ∧ y_L_poll.cls ≠ "java/lang/invoke/VarHandle" ∧ (parseMethodDescriptor y_L_poll.desc).map (fun d => d.parameters.length) = some 1 := by decide +kernel
abbrev rm_L_poll : Room := { frames := 7, cells := 0, slots := 0, locals := 166 }
abbrev y_R_copyGivenBackBy : MethodName := ⟨"PlainLibrary$Row", "copyGivenBackBy", "(I)I"⟩
abbrev ws_R_copyGivenBackBy : List Cond := Cond.code y_R_copyGivenBackBy prog_2_method_4_code 2 (Option.some FieldType.int) :: tb
theorem hs_R_copyGivenBackBy : y_R_copyGivenBackBy.cls ≠ "java/lang/invoke/MethodHandle" ∧ y_R_copyGivenBackBy.cls ≠ "java/lang/invoke/VarHandle" ∧ (parseMethodDescriptor y_R_copyGivenBackBy.desc).map (fun d => d.parameters.length) = some 1 := by decide +kernel
theorem hd_R_copyGivenBackBy : y_R_copyGivenBackBy.cls = R_R ∧ y_R_copyGivenBackBy.cls ≠ "java/lang/invoke/MethodHandle" ∧ y_R_copyGivenBackBy.cls ≠ "java/lang/invoke/VarHandle" ∧ (parseMethodDescriptor y_R_copyGivenBackBy.desc).map (fun d => d.parameters.length) = some 1 := by decide +kernel
abbrev rm_R_copyGivenBackBy : Room := { frames := 0, cells := 0, slots := 0, locals := 0 }
abbrev y_L_kept : MethodName := ⟨"PlainLibrary", "kept", "(IIJI)I"⟩
abbrev ws_L_kept : List Cond := Cond.code y_L_kept prog_1_method_13_code 11 (Option.some FieldType.int) :: tb
theorem hs_L_kept : y_L_kept.cls ≠ "java/lang/invoke/MethodHandle" ∧ y_L_kept.cls ≠ "java/lang/invoke/VarHandle" ∧ (parseMethodDescriptor y_L_kept.desc).map (fun d => d.parameters.length) = some 4 := by decide +kernel
theorem hd_L_kept : y_L_kept.cls = R_L ∧ y_L_kept.cls ≠ "java/lang/invoke/MethodHandle" ∧ y_L_kept.cls ≠ "java/lang/invoke/VarHandle" ∧ (parseMethodDescriptor y_L_kept.desc).map (fun d => d.parameters.length) = some 4 := by decide +kernel
abbrev rm_L_kept : Room := { frames := 5, cells := 0, slots := 0, locals := 123 }
abbrev y_S_copiesWith : MethodName := ⟨"PlainLibrary$Shelves", "copiesWith", "(I)I"⟩
abbrev ws_S_copiesWith : List Cond := Cond.code y_S_copiesWith prog_3_method_8_code 4 (Option.some FieldType.int) :: tb
theorem hs_S_copiesWith : y_S_copiesWith.cls ≠ "java/lang/invoke/MethodHandle" ∧ y_S_copiesWith.cls ≠ "java/lang/invoke/VarHandle" ∧ (parseMethodDescriptor y_S_copiesWith.desc).map (fun d => d.parameters.length) = some 1 := by decide +kernel
theorem hd_S_copiesWith : y_S_copiesWith.cls = R_S ∧ y_S_copiesWith.cls ≠ "java/lang/invoke/MethodHandle" ∧ y_S_copiesWith.cls ≠ "java/lang/invoke/VarHandle" ∧ (parseMethodDescriptor y_S_copiesWith.desc).map (fun d => d.parameters.length) = some 1 := by decide +kernel
abbrev rm_S_copiesWith : Room := { frames := 0, cells := 0, slots := 0, locals := 0 }
abbrev y_L_most : MethodName := ⟨"PlainLibrary", "most", "(I)I"⟩
abbrev ws_L_most : List Cond := Cond.code y_L_most prog_1_method_14_code 4 (Option.some FieldType.int) :: tb
theorem hs_L_most : y_L_most.cls ≠ "java/lang/invoke/MethodHandle" ∧ y_L_most.cls ≠ "java/lang/invoke/VarHandle" ∧ (parseMethodDescriptor y_L_most.desc).map (fun d => d.parameters.length) = some 1 := by decide +kernel
theorem hd_L_most : y_L_most.cls = R_L ∧ y_L_most.cls ≠ "java/lang/invoke/MethodHandle" ∧ y_L_most.cls ≠ "java/lang/invoke/VarHandle" ∧ (parseMethodDescriptor y_L_most.desc).map (fun d => d.parameters.length) = some 1 := by decide +kernel
abbrev rm_L_most : Room := { frames := 5, cells := 0, slots := 0, locals := 123 }
abbrev y_L_firstVoidWithout : MethodName := ⟨"PlainLibrary", "firstVoidWithout", "(II)I"⟩
abbrev ws_L_firstVoidWithout : List Cond := Cond.code y_L_firstVoidWithout prog_1_method_21_code 4 (Option.some FieldType.int) :: tb
theorem hs_L_firstVoidWithout : y_L_firstVoidWithout.cls ≠ "java/lang/invoke/MethodHandle" ∧ y_L_firstVoidWithout.cls ≠ "java/lang/invoke/VarHandle" ∧ (parseMethodDescriptor y_L_firstVoidWithout.desc).map (fun d => d.parameters.length) = some 2 := by decide +kernel
theorem hd_L_firstVoidWithout : y_L_firstVoidWithout.cls = R_L ∧ y_L_firstVoidWithout.cls ≠ "java/lang/invoke/MethodHandle" ∧ y_L_firstVoidWithout.cls ≠ "java/lang/invoke/VarHandle" ∧ (parseMethodDescriptor y_L_firstVoidWithout.desc).map (fun d => d.parameters.length) = some 2 := by decide +kernel
abbrev rm_L_firstVoidWithout : Room := { frames := 5, cells := 0, slots := 0, locals := 123 }
abbrev y_L_oneLessIsEnough : MethodName := ⟨"PlainLibrary", "oneLessIsEnough", "(I)Z"⟩
abbrev ws_L_oneLessIsEnough : List Cond := Cond.code y_L_oneLessIsEnough prog_1_method_22_code 3 (Option.some FieldType.boolean) :: tb
theorem hs_L_oneLessIsEnough : y_L_oneLessIsEnough.cls ≠ "java/lang/invoke/MethodHandle" ∧ y_L_oneLessIsEnough.cls ≠ "java/lang/invoke/VarHandle" ∧ (parseMethodDescriptor y_L_oneLessIsEnough.desc).map (fun d => d.parameters.length) = some 1 := by decide +kernel
theorem hd_L_oneLessIsEnough : y_L_oneLessIsEnough.cls = R_L ∧ y_L_oneLessIsEnough.cls ≠ "java/lang/invoke/MethodHandle" ∧ y_L_oneLessIsEnough.cls ≠ "java/lang/invoke/VarHandle" ∧ (parseMethodDescriptor y_L_oneLessIsEnough.desc).map (fun d => d.parameters.length) = some 1 := by decide +kernel
abbrev rm_L_oneLessIsEnough : Room := { frames := 6, cells := 0, slots := 0, locals := 146 }
abbrev y_L_twoLessAreEnough : MethodName := ⟨"PlainLibrary", "twoLessAreEnough", "(I)Z"⟩
abbrev ws_L_twoLessAreEnough : List Cond := Cond.code y_L_twoLessAreEnough prog_1_method_23_code 5 (Option.some FieldType.boolean) :: tb
theorem hs_L_twoLessAreEnough : y_L_twoLessAreEnough.cls ≠ "java/lang/invoke/MethodHandle" ∧ y_L_twoLessAreEnough.cls ≠ "java/lang/invoke/VarHandle" ∧ (parseMethodDescriptor y_L_twoLessAreEnough.desc).map (fun d => d.parameters.length) = some 1 := by decide +kernel
theorem hd_L_twoLessAreEnough : y_L_twoLessAreEnough.cls = R_L ∧ y_L_twoLessAreEnough.cls ≠ "java/lang/invoke/MethodHandle" ∧ y_L_twoLessAreEnough.cls ≠ "java/lang/invoke/VarHandle" ∧ (parseMethodDescriptor y_L_twoLessAreEnough.desc).map (fun d => d.parameters.length) = some 1 := by decide +kernel
abbrev rm_L_twoLessAreEnough : Room := { frames := 6, cells := 0, slots := 0, locals := 146 }
abbrev y_L_least : MethodName := ⟨"PlainLibrary", "least", "()I"⟩
abbrev ws_L_least : List Cond := Cond.code y_L_least prog_1_method_15_code 2 (Option.some FieldType.int) :: tb
theorem hs_L_least : y_L_least.cls ≠ "java/lang/invoke/MethodHandle" ∧ y_L_least.cls ≠ "java/lang/invoke/VarHandle" ∧ (parseMethodDescriptor y_L_least.desc).map (fun d => d.parameters.length) = some 0 := by decide +kernel
theorem hd_L_least : y_L_least.cls = R_L ∧ y_L_least.cls ≠ "java/lang/invoke/MethodHandle" ∧ y_L_least.cls ≠ "java/lang/invoke/VarHandle" ∧ (parseMethodDescriptor y_L_least.desc).map (fun d => d.parameters.length) = some 0 := by decide +kernel
abbrev rm_L_least : Room := { frames := 7, cells := 0, slots := 0, locals := 170 }
abbrev y_M_init : MethodName := ⟨"PlainLibraryModel", "<init>", "()V"⟩
abbrev ws_M_init : List Cond := Cond.code y_M_init prog_5_method_1_code 1 (Option.none : Option FieldType) :: tb
theorem hs_M_init : y_M_init.cls ≠ "java/lang/invoke/MethodHandle" ∧ y_M_init.cls ≠ "java/lang/invoke/VarHandle" ∧ (parseMethodDescriptor y_M_init.desc).map (fun d => d.parameters.length) = some 0 := by decide +kernel
abbrev rm_M_init : Room := { frames := 1, cells := 16, slots := 3981, locals := 12 }
abbrev y_M_in : MethodName := ⟨"PlainLibraryModel", "in", "(JJJ)Z"⟩
abbrev ws_M_in : List Cond := Cond.code y_M_in prog_5_method_3_code 6 (Option.some FieldType.boolean) :: tb
theorem hs_M_in : y_M_in.cls ≠ "java/lang/invoke/MethodHandle" ∧ y_M_in.cls ≠ "java/lang/invoke/VarHandle" ∧ (parseMethodDescriptor y_M_in.desc).map (fun d => d.parameters.length) = some 3 := by decide +kernel
abbrev rm_M_in : Room := { frames := 0, cells := 0, slots := 0, locals := 0 }
abbrev y_M_can : MethodName := ⟨"PlainLibraryModel", "can", "(IJJ)Z"⟩
abbrev ws_M_can : List Cond := Cond.code y_M_can prog_5_method_4_code 5 (Option.some FieldType.boolean) :: tb
theorem hs_M_can : y_M_can.cls ≠ "java/lang/invoke/MethodHandle" ∧ y_M_can.cls ≠ "java/lang/invoke/VarHandle" ∧ (parseMethodDescriptor y_M_can.desc).map (fun d => d.parameters.length) = some 3 := by decide +kernel
abbrev rm_M_can : Room := { frames := 1, cells := 0, slots := 0, locals := 25 }
abbrev y_M_event : MethodName := ⟨"PlainLibraryModel", "event", "(IJJJ)I"⟩
abbrev ws_M_event : List Cond := Cond.code y_M_event prog_5_method_5_code 9 (Option.some FieldType.int) :: tb
theorem hs_M_event : y_M_event.cls ≠ "java/lang/invoke/MethodHandle" ∧ y_M_event.cls ≠ "java/lang/invoke/VarHandle" ∧ (parseMethodDescriptor y_M_event.desc).map (fun d => d.parameters.length) = some 4 := by decide +kernel
theorem hd_M_event : y_M_event.cls = R_M ∧ y_M_event.cls ≠ "java/lang/invoke/MethodHandle" ∧ y_M_event.cls ≠ "java/lang/invoke/VarHandle" ∧ (parseMethodDescriptor y_M_event.desc).map (fun d => d.parameters.length) = some 4 := by decide +kernel
abbrev rm_M_event : Room := { frames := 2, cells := 0, slots := 0, locals := 49 }
abbrev y_M_clear : MethodName := ⟨"PlainLibraryModel", "clear", "()V"⟩
abbrev ws_M_clear : List Cond := Cond.code y_M_clear prog_5_method_6_code 2 (Option.none : Option FieldType) :: tb
theorem hs_M_clear : y_M_clear.cls ≠ "java/lang/invoke/MethodHandle" ∧ y_M_clear.cls ≠ "java/lang/invoke/VarHandle" ∧ (parseMethodDescriptor y_M_clear.desc).map (fun d => d.parameters.length) = some 0 := by decide +kernel
theorem hd_M_clear : y_M_clear.cls = R_M ∧ y_M_clear.cls ≠ "java/lang/invoke/MethodHandle" ∧ y_M_clear.cls ≠ "java/lang/invoke/VarHandle" ∧ (parseMethodDescriptor y_M_clear.desc).map (fun d => d.parameters.length) = some 0 := by decide +kernel
abbrev rm_M_clear : Room := { frames := 0, cells := 0, slots := 0, locals := 0 }
abbrev y_M_placeOf : MethodName := ⟨"PlainLibraryModel", "placeOf", "(II)I"⟩
abbrev ws_M_placeOf : List Cond := Cond.code y_M_placeOf prog_5_method_7_code 4 (Option.some FieldType.int) :: tb
theorem hs_M_placeOf : y_M_placeOf.cls ≠ "java/lang/invoke/MethodHandle" ∧ y_M_placeOf.cls ≠ "java/lang/invoke/VarHandle" ∧ (parseMethodDescriptor y_M_placeOf.desc).map (fun d => d.parameters.length) = some 2 := by decide +kernel
theorem hd_M_placeOf : y_M_placeOf.cls = R_M ∧ y_M_placeOf.cls ≠ "java/lang/invoke/MethodHandle" ∧ y_M_placeOf.cls ≠ "java/lang/invoke/VarHandle" ∧ (parseMethodDescriptor y_M_placeOf.desc).map (fun d => d.parameters.length) = some 2 := by decide +kernel
abbrev rm_M_placeOf : Room := { frames := 0, cells := 0, slots := 0, locals := 0 }
abbrev y_M_leave : MethodName := ⟨"PlainLibraryModel", "leave", "(II)Z"⟩
abbrev ws_M_leave : List Cond := Cond.code y_M_leave prog_5_method_8_code 5 (Option.some FieldType.boolean) :: tb
theorem hs_M_leave : y_M_leave.cls ≠ "java/lang/invoke/MethodHandle" ∧ y_M_leave.cls ≠ "java/lang/invoke/VarHandle" ∧ (parseMethodDescriptor y_M_leave.desc).map (fun d => d.parameters.length) = some 2 := by decide +kernel
theorem hd_M_leave : y_M_leave.cls = R_M ∧ y_M_leave.cls ≠ "java/lang/invoke/MethodHandle" ∧ y_M_leave.cls ≠ "java/lang/invoke/VarHandle" ∧ (parseMethodDescriptor y_M_leave.desc).map (fun d => d.parameters.length) = some 2 := by decide +kernel
abbrev rm_M_leave : Room := { frames := 1, cells := 0, slots := 0, locals := 23 }
abbrev y_M_stand : MethodName := ⟨"PlainLibraryModel", "stand", "(II)Z"⟩
abbrev ws_M_stand : List Cond := Cond.code y_M_stand prog_5_method_9_code 3 (Option.some FieldType.boolean) :: tb
theorem hs_M_stand : y_M_stand.cls ≠ "java/lang/invoke/MethodHandle" ∧ y_M_stand.cls ≠ "java/lang/invoke/VarHandle" ∧ (parseMethodDescriptor y_M_stand.desc).map (fun d => d.parameters.length) = some 2 := by decide +kernel
theorem hd_M_stand : y_M_stand.cls = R_M ∧ y_M_stand.cls ≠ "java/lang/invoke/MethodHandle" ∧ y_M_stand.cls ≠ "java/lang/invoke/VarHandle" ∧ (parseMethodDescriptor y_M_stand.desc).map (fun d => d.parameters.length) = some 2 := by decide +kernel
abbrev rm_M_stand : Room := { frames := 1, cells := 0, slots := 0, locals := 23 }
abbrev y_M_lend : MethodName := ⟨"PlainLibraryModel", "lend", "(IIJ)Z"⟩
abbrev ws_M_lend : List Cond := Cond.code y_M_lend prog_5_method_10_code 7 (Option.some FieldType.boolean) :: tb
theorem hs_M_lend : y_M_lend.cls ≠ "java/lang/invoke/MethodHandle" ∧ y_M_lend.cls ≠ "java/lang/invoke/VarHandle" ∧ (parseMethodDescriptor y_M_lend.desc).map (fun d => d.parameters.length) = some 3 := by decide +kernel
theorem hd_M_lend : y_M_lend.cls = R_M ∧ y_M_lend.cls ≠ "java/lang/invoke/MethodHandle" ∧ y_M_lend.cls ≠ "java/lang/invoke/VarHandle" ∧ (parseMethodDescriptor y_M_lend.desc).map (fun d => d.parameters.length) = some 3 := by decide +kernel
abbrev rm_M_lend : Room := { frames := 2, cells := 0, slots := 0, locals := 47 }
abbrev y_M_sets : MethodName := ⟨"PlainLibraryModel", "sets", "(IZ)Z"⟩
abbrev ws_M_sets : List Cond := Cond.code y_M_sets prog_5_method_11_code 4 (Option.some FieldType.boolean) :: tb
theorem hs_M_sets : y_M_sets.cls ≠ "java/lang/invoke/MethodHandle" ∧ y_M_sets.cls ≠ "java/lang/invoke/VarHandle" ∧ (parseMethodDescriptor y_M_sets.desc).map (fun d => d.parameters.length) = some 2 := by decide +kernel
theorem hd_M_sets : y_M_sets.cls = R_M ∧ y_M_sets.cls ≠ "java/lang/invoke/MethodHandle" ∧ y_M_sets.cls ≠ "java/lang/invoke/VarHandle" ∧ (parseMethodDescriptor y_M_sets.desc).map (fun d => d.parameters.length) = some 2 := by decide +kernel
abbrev rm_M_sets : Room := { frames := 0, cells := 0, slots := 0, locals := 0 }
abbrev y_M_stores : MethodName := ⟨"PlainLibraryModel", "stores", "(II)Z"⟩
abbrev ws_M_stores : List Cond := Cond.code y_M_stores prog_5_method_12_code 4 (Option.some FieldType.boolean) :: tb
theorem hs_M_stores : y_M_stores.cls ≠ "java/lang/invoke/MethodHandle" ∧ y_M_stores.cls ≠ "java/lang/invoke/VarHandle" ∧ (parseMethodDescriptor y_M_stores.desc).map (fun d => d.parameters.length) = some 2 := by decide +kernel
theorem hd_M_stores : y_M_stores.cls = R_M ∧ y_M_stores.cls ≠ "java/lang/invoke/MethodHandle" ∧ y_M_stores.cls ≠ "java/lang/invoke/VarHandle" ∧ (parseMethodDescriptor y_M_stores.desc).map (fun d => d.parameters.length) = some 2 := by decide +kernel
abbrev rm_M_stores : Room := { frames := 0, cells := 0, slots := 0, locals := 0 }
abbrev y_M_does : MethodName := ⟨"PlainLibraryModel", "does", "(I)Z"⟩
abbrev ws_M_does : List Cond := Cond.code y_M_does prog_5_method_13_code 4 (Option.some FieldType.boolean) :: tb
theorem hs_M_does : y_M_does.cls ≠ "java/lang/invoke/MethodHandle" ∧ y_M_does.cls ≠ "java/lang/invoke/VarHandle" ∧ (parseMethodDescriptor y_M_does.desc).map (fun d => d.parameters.length) = some 1 := by decide +kernel
theorem hd_M_does : y_M_does.cls = R_M ∧ y_M_does.cls ≠ "java/lang/invoke/MethodHandle" ∧ y_M_does.cls ≠ "java/lang/invoke/VarHandle" ∧ (parseMethodDescriptor y_M_does.desc).map (fun d => d.parameters.length) = some 1 := by decide +kernel
abbrev rm_M_does : Room := { frames := 3, cells := 0, slots := 0, locals := 73 }
abbrev y_M_go : MethodName := ⟨"PlainLibraryModel", "go", "(JIII)V"⟩
abbrev ws_M_go : List Cond := Cond.code y_M_go prog_5_method_14_code 9 (Option.none : Option FieldType) :: tb
theorem hs_M_go : y_M_go.cls ≠ "java/lang/invoke/MethodHandle" ∧ y_M_go.cls ≠ "java/lang/invoke/VarHandle" ∧ (parseMethodDescriptor y_M_go.desc).map (fun d => d.parameters.length) = some 4 := by decide +kernel
theorem hd_M_go : y_M_go.cls = R_M ∧ y_M_go.cls ≠ "java/lang/invoke/MethodHandle" ∧ y_M_go.cls ≠ "java/lang/invoke/VarHandle" ∧ (parseMethodDescriptor y_M_go.desc).map (fun d => d.parameters.length) = some 4 := by decide +kernel
abbrev rm_M_go : Room := { frames := 4, cells := 0, slots := 0, locals := 96 }
abbrev y_M_all : MethodName := ⟨"PlainLibraryModel", "all", "()V"⟩
abbrev ws_M_all : List Cond := Cond.code y_M_all prog_5_method_15_code 1 (Option.none : Option FieldType) :: tb
theorem hs_M_all : y_M_all.cls ≠ "java/lang/invoke/MethodHandle" ∧ y_M_all.cls ≠ "java/lang/invoke/VarHandle" ∧ (parseMethodDescriptor y_M_all.desc).map (fun d => d.parameters.length) = some 0 := by decide +kernel
theorem hd_M_all : y_M_all.cls = R_M ∧ y_M_all.cls ≠ "java/lang/invoke/MethodHandle" ∧ y_M_all.cls ≠ "java/lang/invoke/VarHandle" ∧ (parseMethodDescriptor y_M_all.desc).map (fun d => d.parameters.length) = some 0 := by decide +kernel
abbrev rm_M_all : Room := { frames := 5, cells := 0, slots := 0, locals := 124 }
abbrev y_M_isNumber : MethodName := ⟨"PlainLibraryModel", "isNumber", "(I)Z"⟩
abbrev ws_M_isNumber : List Cond := Cond.code y_M_isNumber prog_5_method_16_code 1 (Option.some FieldType.boolean) :: tb
theorem hs_M_isNumber : y_M_isNumber.cls ≠ "java/lang/invoke/MethodHandle" ∧ y_M_isNumber.cls ≠ "java/lang/invoke/VarHandle" ∧ (parseMethodDescriptor y_M_isNumber.desc).map (fun d => d.parameters.length) = some 1 := by decide +kernel
abbrev rm_M_isNumber : Room := { frames := 0, cells := 0, slots := 0, locals := 0 }
abbrev y_M_counts : MethodName := ⟨"PlainLibraryModel", "counts", "(I)I"⟩
abbrev ws_M_counts : List Cond := Cond.code y_M_counts prog_5_method_17_code 2 (Option.some FieldType.int) :: tb
theorem hs_M_counts : y_M_counts.cls ≠ "java/lang/invoke/MethodHandle" ∧ y_M_counts.cls ≠ "java/lang/invoke/VarHandle" ∧ (parseMethodDescriptor y_M_counts.desc).map (fun d => d.parameters.length) = some 1 := by decide +kernel
theorem hd_M_counts : y_M_counts.cls = R_M ∧ y_M_counts.cls ≠ "java/lang/invoke/MethodHandle" ∧ y_M_counts.cls ≠ "java/lang/invoke/VarHandle" ∧ (parseMethodDescriptor y_M_counts.desc).map (fun d => d.parameters.length) = some 1 := by decide +kernel
abbrev rm_M_counts : Room := { frames := 6, cells := 0, slots := 0, locals := 144 }
abbrev y_M_events : MethodName := ⟨"PlainLibraryModel", "events", "()I"⟩
abbrev ws_M_events : List Cond := Cond.code y_M_events prog_5_method_18_code 1 (Option.some FieldType.int) :: tb
theorem hs_M_events : y_M_events.cls ≠ "java/lang/invoke/MethodHandle" ∧ y_M_events.cls ≠ "java/lang/invoke/VarHandle" ∧ (parseMethodDescriptor y_M_events.desc).map (fun d => d.parameters.length) = some 0 := by decide +kernel
theorem hd_M_events : y_M_events.cls = R_M ∧ y_M_events.cls ≠ "java/lang/invoke/MethodHandle" ∧ y_M_events.cls ≠ "java/lang/invoke/VarHandle" ∧ (parseMethodDescriptor y_M_events.desc).map (fun d => d.parameters.length) = some 0 := by decide +kernel
abbrev rm_M_events : Room := { frames := 0, cells := 0, slots := 0, locals := 0 }
abbrev y_M_refused : MethodName := ⟨"PlainLibraryModel", "refused", "()I"⟩
abbrev ws_M_refused : List Cond := Cond.code y_M_refused prog_5_method_19_code 1 (Option.some FieldType.int) :: tb
theorem hs_M_refused : y_M_refused.cls ≠ "java/lang/invoke/MethodHandle" ∧ y_M_refused.cls ≠ "java/lang/invoke/VarHandle" ∧ (parseMethodDescriptor y_M_refused.desc).map (fun d => d.parameters.length) = some 0 := by decide +kernel
theorem hd_M_refused : y_M_refused.cls = R_M ∧ y_M_refused.cls ≠ "java/lang/invoke/MethodHandle" ∧ y_M_refused.cls ≠ "java/lang/invoke/VarHandle" ∧ (parseMethodDescriptor y_M_refused.desc).map (fun d => d.parameters.length) = some 0 := by decide +kernel
abbrev rm_M_refused : Room := { frames := 6, cells := 0, slots := 0, locals := 144 }
abbrev y_M_state : MethodName := ⟨"PlainLibraryModel", "state", "(IIJ)I"⟩
abbrev ws_M_state : List Cond := Cond.code y_M_state prog_5_method_20_code 7 (Option.some FieldType.int) :: tb
theorem hs_M_state : y_M_state.cls ≠ "java/lang/invoke/MethodHandle" ∧ y_M_state.cls ≠ "java/lang/invoke/VarHandle" ∧ (parseMethodDescriptor y_M_state.desc).map (fun d => d.parameters.length) = some 3 := by decide +kernel
theorem hd_M_state : y_M_state.cls = R_M ∧ y_M_state.cls ≠ "java/lang/invoke/MethodHandle" ∧ y_M_state.cls ≠ "java/lang/invoke/VarHandle" ∧ (parseMethodDescriptor y_M_state.desc).map (fun d => d.parameters.length) = some 3 := by decide +kernel
abbrev rm_M_state : Room := { frames := 5, cells := 0, slots := 0, locals := 124 }
abbrev y_M_heading : MethodName := ⟨"PlainLibraryModel", "heading", "(II)I"⟩
abbrev ws_M_heading : List Cond := Cond.code y_M_heading prog_5_method_21_code 5 (Option.some FieldType.int) :: tb
theorem hs_M_heading : y_M_heading.cls ≠ "java/lang/invoke/MethodHandle" ∧ y_M_heading.cls ≠ "java/lang/invoke/VarHandle" ∧ (parseMethodDescriptor y_M_heading.desc).map (fun d => d.parameters.length) = some 2 := by decide +kernel
theorem hd_M_heading : y_M_heading.cls = R_M ∧ y_M_heading.cls ≠ "java/lang/invoke/MethodHandle" ∧ y_M_heading.cls ≠ "java/lang/invoke/VarHandle" ∧ (parseMethodDescriptor y_M_heading.desc).map (fun d => d.parameters.length) = some 2 := by decide +kernel
abbrev rm_M_heading : Room := { frames := 6, cells := 0, slots := 0, locals := 144 }
abbrev y_M_question : MethodName := ⟨"PlainLibraryModel", "question", "(II)I"⟩
abbrev ws_M_question : List Cond := Cond.code y_M_question prog_5_method_22_code 4 (Option.some FieldType.int) :: tb
theorem hs_M_question : y_M_question.cls ≠ "java/lang/invoke/MethodHandle" ∧ y_M_question.cls ≠ "java/lang/invoke/VarHandle" ∧ (parseMethodDescriptor y_M_question.desc).map (fun d => d.parameters.length) = some 2 := by decide +kernel
theorem hd_M_question : y_M_question.cls = R_M ∧ y_M_question.cls ≠ "java/lang/invoke/MethodHandle" ∧ y_M_question.cls ≠ "java/lang/invoke/VarHandle" ∧ (parseMethodDescriptor y_M_question.desc).map (fun d => d.parameters.length) = some 2 := by decide +kernel
abbrev rm_M_question : Room := { frames := 6, cells := 0, slots := 0, locals := 144 }
abbrev y_M_hit : MethodName := ⟨"PlainLibraryModel", "hit", "(I)I"⟩
abbrev ws_M_hit : List Cond := Cond.code y_M_hit prog_5_method_23_code 2 (Option.some FieldType.int) :: tb
theorem hs_M_hit : y_M_hit.cls ≠ "java/lang/invoke/MethodHandle" ∧ y_M_hit.cls ≠ "java/lang/invoke/VarHandle" ∧ (parseMethodDescriptor y_M_hit.desc).map (fun d => d.parameters.length) = some 1 := by decide +kernel
theorem hd_M_hit : y_M_hit.cls = R_M ∧ y_M_hit.cls ≠ "java/lang/invoke/MethodHandle" ∧ y_M_hit.cls ≠ "java/lang/invoke/VarHandle" ∧ (parseMethodDescriptor y_M_hit.desc).map (fun d => d.parameters.length) = some 1 := by decide +kernel
abbrev rm_M_hit : Room := { frames := 0, cells := 0, slots := 0, locals := 0 }
abbrev y_M_due : MethodName := ⟨"PlainLibraryModel", "due", "(I)J"⟩
abbrev ws_M_due : List Cond := Cond.code y_M_due prog_5_method_24_code 2 (Option.some FieldType.long) :: tb
theorem hs_M_due : y_M_due.cls ≠ "java/lang/invoke/MethodHandle" ∧ y_M_due.cls ≠ "java/lang/invoke/VarHandle" ∧ (parseMethodDescriptor y_M_due.desc).map (fun d => d.parameters.length) = some 1 := by decide +kernel
theorem hd_M_due : y_M_due.cls = R_M ∧ y_M_due.cls ≠ "java/lang/invoke/MethodHandle" ∧ y_M_due.cls ≠ "java/lang/invoke/VarHandle" ∧ (parseMethodDescriptor y_M_due.desc).map (fun d => d.parameters.length) = some 1 := by decide +kernel
abbrev rm_M_due : Room := { frames := 6, cells := 0, slots := 0, locals := 144 }
abbrev y_M_queue : MethodName := ⟨"PlainLibraryModel", "queue", "(II)I"⟩
abbrev ws_M_queue : List Cond := Cond.code y_M_queue prog_5_method_25_code 3 (Option.some FieldType.int) :: tb
theorem hs_M_queue : y_M_queue.cls ≠ "java/lang/invoke/MethodHandle" ∧ y_M_queue.cls ≠ "java/lang/invoke/VarHandle" ∧ (parseMethodDescriptor y_M_queue.desc).map (fun d => d.parameters.length) = some 2 := by decide +kernel
theorem hd_M_queue : y_M_queue.cls = R_M ∧ y_M_queue.cls ≠ "java/lang/invoke/MethodHandle" ∧ y_M_queue.cls ≠ "java/lang/invoke/VarHandle" ∧ (parseMethodDescriptor y_M_queue.desc).map (fun d => d.parameters.length) = some 2 := by decide +kernel
abbrev rm_M_queue : Room := { frames := 6, cells := 0, slots := 0, locals := 144 }
abbrev y_M_poll : MethodName := ⟨"PlainLibraryModel", "poll", "(I)I"⟩
abbrev ws_M_poll : List Cond := Cond.code y_M_poll prog_5_method_26_code 7 (Option.some FieldType.int) :: tb
theorem hs_M_poll : y_M_poll.cls ≠ "java/lang/invoke/MethodHandle" ∧ y_M_poll.cls ≠ "java/lang/invoke/VarHandle" ∧ (parseMethodDescriptor y_M_poll.desc).map (fun d => d.parameters.length) = some 1 := by decide +kernel
theorem hd_M_poll : y_M_poll.cls = R_M ∧ y_M_poll.cls ≠ "java/lang/invoke/MethodHandle" ∧ y_M_poll.cls ≠ "java/lang/invoke/VarHandle" ∧ (parseMethodDescriptor y_M_poll.desc).map (fun d => d.parameters.length) = some 1 := by decide +kernel
abbrev rm_M_poll : Room := { frames := 6, cells := 0, slots := 0, locals := 144 }
abbrev y_M_kept : MethodName := ⟨"PlainLibraryModel", "kept", "(IIJI)I"⟩
abbrev ws_M_kept : List Cond := Cond.code y_M_kept prog_5_method_27_code 8 (Option.some FieldType.int) :: tb
theorem hs_M_kept : y_M_kept.cls ≠ "java/lang/invoke/MethodHandle" ∧ y_M_kept.cls ≠ "java/lang/invoke/VarHandle" ∧ (parseMethodDescriptor y_M_kept.desc).map (fun d => d.parameters.length) = some 4 := by decide +kernel
theorem hd_M_kept : y_M_kept.cls = R_M ∧ y_M_kept.cls ≠ "java/lang/invoke/MethodHandle" ∧ y_M_kept.cls ≠ "java/lang/invoke/VarHandle" ∧ (parseMethodDescriptor y_M_kept.desc).map (fun d => d.parameters.length) = some 4 := by decide +kernel
abbrev rm_M_kept : Room := { frames := 6, cells := 0, slots := 0, locals := 144 }
abbrev y_M_most : MethodName := ⟨"PlainLibraryModel", "most", "(I)I"⟩
abbrev ws_M_most : List Cond := Cond.code y_M_most prog_5_method_28_code 2 (Option.some FieldType.int) :: tb
theorem hs_M_most : y_M_most.cls ≠ "java/lang/invoke/MethodHandle" ∧ y_M_most.cls ≠ "java/lang/invoke/VarHandle" ∧ (parseMethodDescriptor y_M_most.desc).map (fun d => d.parameters.length) = some 1 := by decide +kernel
theorem hd_M_most : y_M_most.cls = R_M ∧ y_M_most.cls ≠ "java/lang/invoke/MethodHandle" ∧ y_M_most.cls ≠ "java/lang/invoke/VarHandle" ∧ (parseMethodDescriptor y_M_most.desc).map (fun d => d.parameters.length) = some 1 := by decide +kernel
abbrev rm_M_most : Room := { frames := 5, cells := 0, slots := 0, locals := 124 }
abbrev y_M_least : MethodName := ⟨"PlainLibraryModel", "least", "()I"⟩
abbrev ws_M_least : List Cond := Cond.code y_M_least prog_5_method_29_code 5 (Option.some FieldType.int) :: tb
theorem hs_M_least : y_M_least.cls ≠ "java/lang/invoke/MethodHandle" ∧ y_M_least.cls ≠ "java/lang/invoke/VarHandle" ∧ (parseMethodDescriptor y_M_least.desc).map (fun d => d.parameters.length) = some 0 := by decide +kernel
theorem hd_M_least : y_M_least.cls = R_M ∧ y_M_least.cls ≠ "java/lang/invoke/MethodHandle" ∧ y_M_least.cls ≠ "java/lang/invoke/VarHandle" ∧ (parseMethodDescriptor y_M_least.desc).map (fun d => d.parameters.length) = some 0 := by decide +kernel
abbrev rm_M_least : Room := { frames := 5, cells := 0, slots := 0, locals := 124 }
set_option maxRecDepth 100000 in
theorem mm_27 : Cond.initialized "PlainLibrary" ∈ tb := ms_ 27 rfl rfl
set_option maxRecDepth 100000 in
theorem mm_28 : Cond.initialized "PlainLibrary$Row" ∈ tb := ms_ 28 rfl rfl
set_option maxRecDepth 100000 in
theorem mm_29 : Cond.initialized "PlainLibrary$Shelves" ∈ tb := ms_ 29 rfl rfl
set_option maxRecDepth 100000 in
theorem mm_30 : Cond.initialized "PlainLibraryModel" ∈ tb := ms_ 30 rfl rfl
set_option maxRecDepth 100000 in
theorem mm_31 : Cond.initialized "java/lang/System" ∈ tb := ms_ 31 rfl rfl
set_option maxRecDepth 100000 in
theorem mm_32 : Cond.initialized "java/util/Arrays" ∈ tb := ms_ 32 rfl rfl
set_option maxRecDepth 100000 in
theorem mm_33 : Cond.initialized "java/lang/Math" ∈ tb := ms_ 33 rfl rfl
set_option maxRecDepth 100000 in
theorem mm_34 : Cond.classLink "PlainLibraryLaw" 7 "PlainLibrary" ∈ tb := ms_ 34 rfl rfl
set_option maxRecDepth 100000 in
theorem mm_35 : Cond.instantiable "PlainLibrary" 4 ∈ tb := ms_ 35 rfl rfl
set_option maxRecDepth 100000 in
theorem mm_36 : Cond.methodLink "PlainLibraryLaw" 9 ({ cls := "PlainLibrary", name := "<init>", desc := "()V" } : MethodName) ∈ tb := ms_ 36 rfl rfl
set_option maxRecDepth 100000 in
theorem mm_37 : Cond.instanceMethod ({ cls := "PlainLibrary", name := "<init>", desc := "()V" } : MethodName) ∈ tb := ms_ 37 rfl rfl
set_option maxRecDepth 100000 in
theorem mm_38 : Cond.code ({ cls := "PlainLibrary", name := "<init>", desc := "()V" } : MethodName) prog_1_method_1_code 1 (Option.none : Option FieldType) ∈ tb := ms_ 38 rfl rfl
set_option maxRecDepth 100000 in
theorem mm_39 : Cond.methodLink "PlainLibrary" 1 ({ cls := "java/lang/Object", name := "<init>", desc := "()V" } : MethodName) ∈ tb := ms_ 39 rfl rfl
set_option maxRecDepth 100000 in
theorem mm_40 : Cond.instanceMethod ({ cls := "java/lang/Object", name := "<init>", desc := "()V" } : MethodName) ∈ tb := ms_ 40 rfl rfl
set_option maxRecDepth 100000 in
theorem mm_41 : Cond.code ({ cls := "java/lang/Object", name := "<init>", desc := "()V" } : MethodName) object_method_1_code 1 (Option.none : Option FieldType) ∈ tb := ms_ 41 rfl rfl
set_option maxRecDepth 100000 in
theorem mm_42 : Cond.classLink "PlainLibrary" 7 "PlainLibrary$Row" ∈ tb := ms_ 42 rfl rfl
set_option maxRecDepth 100000 in
theorem mm_43 : Cond.instantiable "PlainLibrary$Row" 5 ∈ tb := ms_ 43 rfl rfl
set_option maxRecDepth 100000 in
theorem mm_44 : Cond.methodLink "PlainLibrary" 9 ({ cls := "PlainLibrary$Row", name := "<init>", desc := "()V" } : MethodName) ∈ tb := ms_ 44 rfl rfl
set_option maxRecDepth 100000 in
theorem mm_45 : Cond.instanceMethod ({ cls := "PlainLibrary$Row", name := "<init>", desc := "()V" } : MethodName) ∈ tb := ms_ 45 rfl rfl
set_option maxRecDepth 100000 in
theorem mm_46 : Cond.code ({ cls := "PlainLibrary$Row", name := "<init>", desc := "()V" } : MethodName) prog_2_method_1_code 1 (Option.none : Option FieldType) ∈ tb := ms_ 46 rfl rfl
set_option maxRecDepth 100000 in
theorem mm_47 : Cond.methodLink "PlainLibrary$Row" 3 ({ cls := "java/lang/Object", name := "<init>", desc := "()V" } : MethodName) ∈ tb := ms_ 47 rfl rfl
set_option maxRecDepth 100000 in
theorem mm_48 : Cond.fieldLink "PlainLibrary$Row" 9 "PlainLibrary$Row" "sorts" "[I" ∈ tb := ms_ 48 rfl rfl
set_option maxRecDepth 100000 in
theorem mm_49 : Cond.fieldLink "PlainLibrary$Row" 15 "PlainLibrary$Row" "firsts" "[I" ∈ tb := ms_ 49 rfl rfl
set_option maxRecDepth 100000 in
theorem mm_50 : Cond.fieldLink "PlainLibrary$Row" 18 "PlainLibrary$Row" "seconds" "[I" ∈ tb := ms_ 50 rfl rfl
set_option maxRecDepth 100000 in
theorem mm_51 : Cond.fieldLink "PlainLibrary$Row" 21 "PlainLibrary$Row" "days" "[J" ∈ tb := ms_ 51 rfl rfl
set_option maxRecDepth 100000 in
theorem mm_52 : Cond.fieldLink "PlainLibrary$Row" 25 "PlainLibrary$Row" "size" "I" ∈ tb := ms_ 52 rfl rfl
set_option maxRecDepth 100000 in
theorem mm_64 : Cond.arrayClass FieldType.int ∈ tb := ms_ 64 rfl rfl
set_option maxRecDepth 100000 in
theorem mm_65 : Cond.arrayClass FieldType.long ∈ tb := ms_ 65 rfl rfl
set_option maxRecDepth 100000 in
theorem mm_66 : Cond.classLink "PlainLibrary" 16 "PlainLibrary$Shelves" ∈ tb := ms_ 66 rfl rfl
set_option maxRecDepth 100000 in
theorem mm_67 : Cond.instantiable "PlainLibrary$Shelves" 9 ∈ tb := ms_ 67 rfl rfl
set_option maxRecDepth 100000 in
theorem mm_68 : Cond.methodLink "PlainLibrary" 18 ({ cls := "PlainLibrary$Shelves", name := "<init>", desc := "()V" } : MethodName) ∈ tb := ms_ 68 rfl rfl
set_option maxRecDepth 100000 in
theorem mm_69 : Cond.instanceMethod ({ cls := "PlainLibrary$Shelves", name := "<init>", desc := "()V" } : MethodName) ∈ tb := ms_ 69 rfl rfl
set_option maxRecDepth 100000 in
theorem mm_70 : Cond.code ({ cls := "PlainLibrary$Shelves", name := "<init>", desc := "()V" } : MethodName) prog_3_method_1_code 1 (Option.none : Option FieldType) ∈ tb := ms_ 70 rfl rfl
set_option maxRecDepth 100000 in
theorem mm_71 : Cond.methodLink "PlainLibrary$Shelves" 3 ({ cls := "java/lang/Object", name := "<init>", desc := "()V" } : MethodName) ∈ tb := ms_ 71 rfl rfl
set_option maxRecDepth 100000 in
theorem mm_72 : Cond.fieldLink "PlainLibrary$Shelves" 11 "PlainLibrary$Shelves" "headingBits" "[J" ∈ tb := ms_ 72 rfl rfl
set_option maxRecDepth 100000 in
theorem mm_73 : Cond.fieldLink "PlainLibrary$Shelves" 15 "PlainLibrary$Shelves" "records" "[I" ∈ tb := ms_ 73 rfl rfl
set_option maxRecDepth 100000 in
theorem mm_74 : Cond.fieldLink "PlainLibrary$Shelves" 19 "PlainLibrary$Shelves" "persons" "[I" ∈ tb := ms_ 74 rfl rfl
set_option maxRecDepth 100000 in
theorem mm_75 : Cond.fieldLink "PlainLibrary$Shelves" 22 "PlainLibrary$Shelves" "dueDays" "[J" ∈ tb := ms_ 75 rfl rfl
set_option maxRecDepth 100000 in
theorem mm_76 : Cond.fieldLink "PlainLibrary$Shelves" 25 "PlainLibrary$Shelves" "queued" "[I" ∈ tb := ms_ 76 rfl rfl
set_option maxRecDepth 100000 in
theorem mm_77 : Cond.fieldLink "PlainLibrary$Shelves" 28 "PlainLibrary$Shelves" "queueLengths" "[I" ∈ tb := ms_ 77 rfl rfl
set_option maxRecDepth 100000 in
theorem mm_78 : Cond.fieldLink "PlainLibrary$Shelves" 31 "PlainLibrary$Shelves" "classes" "[I" ∈ tb := ms_ 78 rfl rfl
set_option maxRecDepth 100000 in
theorem mm_79 : Cond.fieldLink "PlainLibrary$Shelves" 34 "PlainLibrary$Shelves" "loanDays" "[I" ∈ tb := ms_ 79 rfl rfl
set_option maxRecDepth 100000 in
theorem mm_80 : Cond.fieldLink "PlainLibrary$Shelves" 37 "PlainLibrary$Shelves" "sums" "[I" ∈ tb := ms_ 80 rfl rfl
set_option maxRecDepth 100000 in
theorem mm_100 : Cond.fieldLink "PlainLibrary" 10 "PlainLibrary" "row" "LPlainLibrary$Row;" ∈ tb := ms_ 100 rfl rfl
set_option maxRecDepth 100000 in
theorem mm_101 : Cond.fieldLink "PlainLibrary" 19 "PlainLibrary" "shelves" "LPlainLibrary$Shelves;" ∈ tb := ms_ 101 rfl rfl
set_option maxRecDepth 100000 in
theorem mm_102 : Cond.fieldLink "PlainLibrary" 23 "PlainLibrary" "hits" "[I" ∈ tb := ms_ 102 rfl rfl
set_option maxRecDepth 100000 in
theorem mm_103 : Cond.fieldLink "PlainLibrary" 27 "PlainLibrary" "hitCount" "I" ∈ tb := ms_ 103 rfl rfl
set_option maxRecDepth 100000 in
theorem mm_113 : Cond.methodLink "PlainLibraryLaw" 15 ({ cls := "PlainLibrary", name := "event", desc := "(IJJJ)I" } : MethodName) ∈ tb := ms_ 113 rfl rfl
set_option maxRecDepth 100000 in
theorem mm_114 : Cond.instanceMethod ({ cls := "PlainLibrary", name := "event", desc := "(IJJJ)I" } : MethodName) ∈ tb := ms_ 114 rfl rfl
set_option maxRecDepth 100000 in
theorem mm_115 : Cond.selects "PlainLibrary" ({ cls := "PlainLibrary", name := "event", desc := "(IJJJ)I" } : MethodName) ({ cls := "PlainLibrary", name := "event", desc := "(IJJJ)I" } : MethodName) ∈ tb := ms_ 115 rfl rfl
set_option maxRecDepth 100000 in
theorem mm_116 : Cond.code ({ cls := "PlainLibrary", name := "event", desc := "(IJJJ)I" } : MethodName) prog_1_method_2_code 9 (Option.some FieldType.int) ∈ tb := ms_ 116 rfl rfl
set_option maxRecDepth 100000 in
theorem mm_117 : Cond.constantLong "PlainLibrary" 31 1000000 ∈ tb := ms_ 117 rfl rfl
set_option maxRecDepth 100000 in
theorem mm_118 : Cond.methodLink "PlainLibrary" 33 ({ cls := "PlainLibrary", name := "isWithin", desc := "(JJJ)Z" } : MethodName) ∈ tb := ms_ 118 rfl rfl
set_option maxRecDepth 100000 in
theorem mm_119 : Cond.static ({ cls := "PlainLibrary", name := "isWithin", desc := "(JJJ)Z" } : MethodName) ∈ tb := ms_ 119 rfl rfl
set_option maxRecDepth 100000 in
theorem mm_120 : Cond.code ({ cls := "PlainLibrary", name := "isWithin", desc := "(JJJ)Z" } : MethodName) prog_1_method_16_code 6 (Option.some FieldType.boolean) ∈ tb := ms_ 120 rfl rfl
set_option maxRecDepth 100000 in
theorem mm_121 : Cond.methodLink "PlainLibrary" 37 ({ cls := "PlainLibrary", name := "isAct", desc := "(IJJ)Z" } : MethodName) ∈ tb := ms_ 121 rfl rfl
set_option maxRecDepth 100000 in
theorem mm_122 : Cond.static ({ cls := "PlainLibrary", name := "isAct", desc := "(IJJ)Z" } : MethodName) ∈ tb := ms_ 122 rfl rfl
set_option maxRecDepth 100000 in
theorem mm_123 : Cond.code ({ cls := "PlainLibrary", name := "isAct", desc := "(IJJ)Z" } : MethodName) prog_1_method_18_code 5 (Option.some FieldType.boolean) ∈ tb := ms_ 123 rfl rfl
set_option maxRecDepth 100000 in
theorem mm_124 : Cond.methodLink "PlainLibrary" 56 ({ cls := "PlainLibrary", name := "isNumber", desc := "(J)Z" } : MethodName) ∈ tb := ms_ 124 rfl rfl
set_option maxRecDepth 100000 in
theorem mm_125 : Cond.static ({ cls := "PlainLibrary", name := "isNumber", desc := "(J)Z" } : MethodName) ∈ tb := ms_ 125 rfl rfl
set_option maxRecDepth 100000 in
theorem mm_126 : Cond.code ({ cls := "PlainLibrary", name := "isNumber", desc := "(J)Z" } : MethodName) prog_1_method_17_code 2 (Option.some FieldType.boolean) ∈ tb := ms_ 126 rfl rfl
set_option maxRecDepth 100000 in
theorem mm_127 : Cond.constantLong "PlainLibrary" 126 20 ∈ tb := ms_ 127 rfl rfl
set_option maxRecDepth 100000 in
theorem mm_128 : Cond.constantLong "PlainLibrary" 84 99 ∈ tb := ms_ 128 rfl rfl
set_option maxRecDepth 100000 in
theorem mm_129 : Cond.constantLong "PlainLibrary" 128 5 ∈ tb := ms_ 129 rfl rfl
set_option maxRecDepth 100000 in
theorem mm_130 : Cond.constantLong "PlainLibrary" 130 9 ∈ tb := ms_ 130 rfl rfl
set_option maxRecDepth 100000 in
theorem mm_131 : Cond.constantLong "PlainLibrary" 132 365 ∈ tb := ms_ 131 rfl rfl
set_option maxRecDepth 100000 in
theorem mm_132 : Cond.methodLink "PlainLibrary" 41 ({ cls := "PlainLibrary$Row", name := "insert", desc := "(IIIJ)Z" } : MethodName) ∈ tb := ms_ 132 rfl rfl
set_option maxRecDepth 100000 in
theorem mm_133 : Cond.instanceMethod ({ cls := "PlainLibrary$Row", name := "insert", desc := "(IIIJ)Z" } : MethodName) ∈ tb := ms_ 133 rfl rfl
set_option maxRecDepth 100000 in
theorem mm_134 : Cond.selects "PlainLibrary$Row" ({ cls := "PlainLibrary$Row", name := "insert", desc := "(IIIJ)Z" } : MethodName) ({ cls := "PlainLibrary$Row", name := "insert", desc := "(IIIJ)Z" } : MethodName) ∈ tb := ms_ 134 rfl rfl
set_option maxRecDepth 100000 in
theorem mm_135 : Cond.code ({ cls := "PlainLibrary$Row", name := "insert", desc := "(IIIJ)Z" } : MethodName) prog_2_method_6_code 8 (Option.some FieldType.boolean) ∈ tb := ms_ 135 rfl rfl
set_option maxRecDepth 100000 in
theorem mm_136 : Cond.methodLink "PlainLibrary$Row" 35 ({ cls := "PlainLibrary$Row", name := "placeFor", desc := "(J)I" } : MethodName) ∈ tb := ms_ 136 rfl rfl
set_option maxRecDepth 100000 in
theorem mm_138 : Cond.instanceMethod ({ cls := "PlainLibrary$Row", name := "placeFor", desc := "(J)I" } : MethodName) ∈ tb := ms_ 138 rfl rfl
set_option maxRecDepth 100000 in
theorem mm_139 : Cond.code ({ cls := "PlainLibrary$Row", name := "placeFor", desc := "(J)I" } : MethodName) prog_2_method_7_code 4 (Option.some FieldType.int) ∈ tb := ms_ 139 rfl rfl
set_option maxRecDepth 100000 in
theorem mm_140 : Cond.methodLink "PlainLibrary$Row" 39 ({ cls := "java/lang/System", name := "arraycopy", desc := "(Ljava/lang/Object;ILjava/lang/Object;II)V" } : MethodName) ∈ tb := ms_ 140 rfl rfl
set_option maxRecDepth 100000 in
theorem mm_141 : Cond.static ({ cls := "java/lang/System", name := "arraycopy", desc := "(Ljava/lang/Object;ILjava/lang/Object;II)V" } : MethodName) ∈ tb := ms_ 141 rfl rfl
set_option maxRecDepth 100000 in
theorem mm_142 : Cond.native ({ cls := "java/lang/System", name := "arraycopy", desc := "(Ljava/lang/Object;ILjava/lang/Object;II)V" } : MethodName) ∈ tb := ms_ 142 rfl rfl
set_option maxRecDepth 100000 in
theorem mm_143 : Cond.methodLink "PlainLibrary" 45 ({ cls := "PlainLibrary$Row", name := "size", desc := "()I" } : MethodName) ∈ tb := ms_ 143 rfl rfl
set_option maxRecDepth 100000 in
theorem mm_144 : Cond.instanceMethod ({ cls := "PlainLibrary$Row", name := "size", desc := "()I" } : MethodName) ∈ tb := ms_ 144 rfl rfl
set_option maxRecDepth 100000 in
theorem mm_145 : Cond.selects "PlainLibrary$Row" ({ cls := "PlainLibrary$Row", name := "size", desc := "()I" } : MethodName) ({ cls := "PlainLibrary$Row", name := "size", desc := "()I" } : MethodName) ∈ tb := ms_ 145 rfl rfl
set_option maxRecDepth 100000 in
theorem mm_146 : Cond.code ({ cls := "PlainLibrary$Row", name := "size", desc := "()I" } : MethodName) prog_2_method_2_code 1 (Option.some FieldType.int) ∈ tb := ms_ 146 rfl rfl
set_option maxRecDepth 100000 in
theorem mm_147 : Cond.methodLink "PlainLibraryLaw" 20 ({ cls := "PlainLibrary", name := "counts", desc := "(I)I" } : MethodName) ∈ tb := ms_ 147 rfl rfl
set_option maxRecDepth 100000 in
theorem mm_148 : Cond.instanceMethod ({ cls := "PlainLibrary", name := "counts", desc := "(I)I" } : MethodName) ∈ tb := ms_ 148 rfl rfl
set_option maxRecDepth 100000 in
theorem mm_149 : Cond.selects "PlainLibrary" ({ cls := "PlainLibrary", name := "counts", desc := "(I)I" } : MethodName) ({ cls := "PlainLibrary", name := "counts", desc := "(I)I" } : MethodName) ∈ tb := ms_ 149 rfl rfl
set_option maxRecDepth 100000 in
theorem mm_150 : Cond.code ({ cls := "PlainLibrary", name := "counts", desc := "(I)I" } : MethodName) prog_1_method_3_code 3 (Option.some FieldType.int) ∈ tb := ms_ 150 rfl rfl
set_option maxRecDepth 100000 in
theorem mm_151 : Cond.methodLink "PlainLibrary" 49 ({ cls := "PlainLibrary$Shelves", name := "clear", desc := "()V" } : MethodName) ∈ tb := ms_ 151 rfl rfl
set_option maxRecDepth 100000 in
theorem mm_152 : Cond.instanceMethod ({ cls := "PlainLibrary$Shelves", name := "clear", desc := "()V" } : MethodName) ∈ tb := ms_ 152 rfl rfl
set_option maxRecDepth 100000 in
theorem mm_153 : Cond.selects "PlainLibrary$Shelves" ({ cls := "PlainLibrary$Shelves", name := "clear", desc := "()V" } : MethodName) ({ cls := "PlainLibrary$Shelves", name := "clear", desc := "()V" } : MethodName) ∈ tb := ms_ 153 rfl rfl
set_option maxRecDepth 100000 in
theorem mm_154 : Cond.code ({ cls := "PlainLibrary$Shelves", name := "clear", desc := "()V" } : MethodName) prog_3_method_2_code 1 (Option.none : Option FieldType) ∈ tb := ms_ 154 rfl rfl
set_option maxRecDepth 100000 in
theorem mm_155 : Cond.methodLink "PlainLibrary$Shelves" 40 ({ cls := "java/util/Arrays", name := "fill", desc := "([JJ)V" } : MethodName) ∈ tb := ms_ 155 rfl rfl
set_option maxRecDepth 100000 in
theorem mm_156 : Cond.static ({ cls := "java/util/Arrays", name := "fill", desc := "([JJ)V" } : MethodName) ∈ tb := ms_ 156 rfl rfl
set_option maxRecDepth 100000 in
theorem mm_157 : Cond.code ({ cls := "java/util/Arrays", name := "fill", desc := "([JJ)V" } : MethodName) prog_8_method_101_code 5 (Option.none : Option FieldType) ∈ tb := ms_ 157 rfl rfl
set_option maxRecDepth 100000 in
theorem mm_158 : Cond.methodLink "PlainLibrary$Shelves" 46 ({ cls := "java/util/Arrays", name := "fill", desc := "([II)V" } : MethodName) ∈ tb := ms_ 158 rfl rfl
set_option maxRecDepth 100000 in
theorem mm_159 : Cond.static ({ cls := "java/util/Arrays", name := "fill", desc := "([II)V" } : MethodName) ∈ tb := ms_ 159 rfl rfl
set_option maxRecDepth 100000 in
theorem mm_160 : Cond.code ({ cls := "java/util/Arrays", name := "fill", desc := "([II)V" } : MethodName) prog_8_method_103_code 4 (Option.none : Option FieldType) ∈ tb := ms_ 160 rfl rfl
set_option maxRecDepth 100000 in
theorem mm_161 : Cond.methodLink "PlainLibrary" 52 ({ cls := "PlainLibrary$Row", name := "perform", desc := "(ILPlainLibrary$Shelves;)Z" } : MethodName) ∈ tb := ms_ 161 rfl rfl
set_option maxRecDepth 100000 in
theorem mm_162 : Cond.instanceMethod ({ cls := "PlainLibrary$Row", name := "perform", desc := "(ILPlainLibrary$Shelves;)Z" } : MethodName) ∈ tb := ms_ 162 rfl rfl
set_option maxRecDepth 100000 in
theorem mm_163 : Cond.selects "PlainLibrary$Row" ({ cls := "PlainLibrary$Row", name := "perform", desc := "(ILPlainLibrary$Shelves;)Z" } : MethodName) ({ cls := "PlainLibrary$Row", name := "perform", desc := "(ILPlainLibrary$Shelves;)Z" } : MethodName) ∈ tb := ms_ 163 rfl rfl
set_option maxRecDepth 100000 in
theorem mm_164 : Cond.code ({ cls := "PlainLibrary$Row", name := "perform", desc := "(ILPlainLibrary$Shelves;)Z" } : MethodName) prog_2_method_5_code 3 (Option.some FieldType.boolean) ∈ tb := ms_ 164 rfl rfl
set_option maxRecDepth 100000 in
theorem mm_165 : Cond.methodLink "PlainLibrary$Row" 29 ({ cls := "PlainLibrary$Shelves", name := "perform", desc := "(IIIJ)Z" } : MethodName) ∈ tb := ms_ 165 rfl rfl
set_option maxRecDepth 100000 in
theorem mm_166 : Cond.instanceMethod ({ cls := "PlainLibrary$Shelves", name := "perform", desc := "(IIIJ)Z" } : MethodName) ∈ tb := ms_ 166 rfl rfl
set_option maxRecDepth 100000 in
theorem mm_167 : Cond.selects "PlainLibrary$Shelves" ({ cls := "PlainLibrary$Shelves", name := "perform", desc := "(IIIJ)Z" } : MethodName) ({ cls := "PlainLibrary$Shelves", name := "perform", desc := "(IIIJ)Z" } : MethodName) ∈ tb := ms_ 167 rfl rfl
set_option maxRecDepth 100000 in
theorem mm_168 : Cond.code ({ cls := "PlainLibrary$Shelves", name := "perform", desc := "(IIIJ)Z" } : MethodName) prog_3_method_3_code 6 (Option.some FieldType.boolean) ∈ tb := ms_ 168 rfl rfl
set_option maxRecDepth 100000 in
theorem mm_169 : Cond.methodLink "PlainLibrary$Shelves" 49 ({ cls := "PlainLibrary$Shelves", name := "addHeading", desc := "(II)Z" } : MethodName) ∈ tb := ms_ 169 rfl rfl
set_option maxRecDepth 100000 in
theorem mm_171 : Cond.instanceMethod ({ cls := "PlainLibrary$Shelves", name := "addHeading", desc := "(II)Z" } : MethodName) ∈ tb := ms_ 171 rfl rfl
set_option maxRecDepth 100000 in
theorem mm_172 : Cond.code ({ cls := "PlainLibrary$Shelves", name := "addHeading", desc := "(II)Z" } : MethodName) prog_3_method_18_code 3 (Option.some FieldType.boolean) ∈ tb := ms_ 172 rfl rfl
set_option maxRecDepth 100000 in
theorem mm_173 : Cond.methodLink "PlainLibrary$Shelves" 89 ({ cls := "PlainLibrary$Shelves", name := "hasHeading", desc := "(II)Z" } : MethodName) ∈ tb := ms_ 173 rfl rfl
set_option maxRecDepth 100000 in
theorem mm_174 : Cond.instanceMethod ({ cls := "PlainLibrary$Shelves", name := "hasHeading", desc := "(II)Z" } : MethodName) ∈ tb := ms_ 174 rfl rfl
set_option maxRecDepth 100000 in
theorem mm_175 : Cond.selects "PlainLibrary$Shelves" ({ cls := "PlainLibrary$Shelves", name := "hasHeading", desc := "(II)Z" } : MethodName) ({ cls := "PlainLibrary$Shelves", name := "hasHeading", desc := "(II)Z" } : MethodName) ∈ tb := ms_ 175 rfl rfl
set_option maxRecDepth 100000 in
theorem mm_176 : Cond.code ({ cls := "PlainLibrary$Shelves", name := "hasHeading", desc := "(II)Z" } : MethodName) prog_3_method_9_code 3 (Option.some FieldType.boolean) ∈ tb := ms_ 176 rfl rfl
set_option maxRecDepth 100000 in
theorem mm_177 : Cond.methodLink "PlainLibrary$Shelves" 82 ({ cls := "PlainLibrary$Shelves", name := "wordIndex", desc := "(II)I" } : MethodName) ∈ tb := ms_ 177 rfl rfl
set_option maxRecDepth 100000 in
theorem mm_178 : Cond.static ({ cls := "PlainLibrary$Shelves", name := "wordIndex", desc := "(II)I" } : MethodName) ∈ tb := ms_ 178 rfl rfl
set_option maxRecDepth 100000 in
theorem mm_179 : Cond.code ({ cls := "PlainLibrary$Shelves", name := "wordIndex", desc := "(II)I" } : MethodName) prog_3_method_16_code 2 (Option.some FieldType.int) ∈ tb := ms_ 179 rfl rfl
set_option maxRecDepth 100000 in
theorem mm_180 : Cond.methodLink "PlainLibrary$Shelves" 85 ({ cls := "PlainLibrary$Shelves", name := "bitOf", desc := "(I)J" } : MethodName) ∈ tb := ms_ 180 rfl rfl
set_option maxRecDepth 100000 in
theorem mm_181 : Cond.static ({ cls := "PlainLibrary$Shelves", name := "bitOf", desc := "(I)J" } : MethodName) ∈ tb := ms_ 181 rfl rfl
set_option maxRecDepth 100000 in
theorem mm_182 : Cond.code ({ cls := "PlainLibrary$Shelves", name := "bitOf", desc := "(I)J" } : MethodName) prog_3_method_17_code 1 (Option.some FieldType.long) ∈ tb := ms_ 182 rfl rfl
set_option maxRecDepth 100000 in
theorem mm_183 : Cond.methodLink "PlainLibrary$Shelves" 53 ({ cls := "PlainLibrary$Shelves", name := "dropHeading", desc := "(II)Z" } : MethodName) ∈ tb := ms_ 183 rfl rfl
set_option maxRecDepth 100000 in
theorem mm_185 : Cond.instanceMethod ({ cls := "PlainLibrary$Shelves", name := "dropHeading", desc := "(II)Z" } : MethodName) ∈ tb := ms_ 185 rfl rfl
set_option maxRecDepth 100000 in
theorem mm_186 : Cond.code ({ cls := "PlainLibrary$Shelves", name := "dropHeading", desc := "(II)Z" } : MethodName) prog_3_method_19_code 3 (Option.some FieldType.boolean) ∈ tb := ms_ 186 rfl rfl
set_option maxRecDepth 100000 in
theorem mm_187 : Cond.constantLong "PlainLibrary$Shelves" 92 (-1) ∈ tb := ms_ 187 rfl rfl
set_option maxRecDepth 100000 in
theorem mm_188 : Cond.methodLink "PlainLibrary$Shelves" 56 ({ cls := "PlainLibrary$Shelves", name := "setRecord", desc := "(II)Z" } : MethodName) ∈ tb := ms_ 188 rfl rfl
set_option maxRecDepth 100000 in
theorem mm_190 : Cond.instanceMethod ({ cls := "PlainLibrary$Shelves", name := "setRecord", desc := "(II)Z" } : MethodName) ∈ tb := ms_ 190 rfl rfl
set_option maxRecDepth 100000 in
theorem mm_191 : Cond.code ({ cls := "PlainLibrary$Shelves", name := "setRecord", desc := "(II)Z" } : MethodName) prog_3_method_20_code 3 (Option.some FieldType.boolean) ∈ tb := ms_ 191 rfl rfl
set_option maxRecDepth 100000 in
theorem mm_192 : Cond.methodLink "PlainLibrary$Shelves" 59 ({ cls := "PlainLibrary$Shelves", name := "lend", desc := "(IIJ)Z" } : MethodName) ∈ tb := ms_ 192 rfl rfl
set_option maxRecDepth 100000 in
theorem mm_194 : Cond.instanceMethod ({ cls := "PlainLibrary$Shelves", name := "lend", desc := "(IIJ)Z" } : MethodName) ∈ tb := ms_ 194 rfl rfl
set_option maxRecDepth 100000 in
theorem mm_195 : Cond.code ({ cls := "PlainLibrary$Shelves", name := "lend", desc := "(IIJ)Z" } : MethodName) prog_3_method_21_code 7 (Option.some FieldType.boolean) ∈ tb := ms_ 195 rfl rfl
set_option maxRecDepth 100000 in
theorem mm_196 : Cond.methodLink "PlainLibrary$Shelves" 97 ({ cls := "PlainLibrary$Shelves", name := "personAt", desc := "(II)I" } : MethodName) ∈ tb := ms_ 196 rfl rfl
set_option maxRecDepth 100000 in
theorem mm_197 : Cond.instanceMethod ({ cls := "PlainLibrary$Shelves", name := "personAt", desc := "(II)I" } : MethodName) ∈ tb := ms_ 197 rfl rfl
set_option maxRecDepth 100000 in
theorem mm_198 : Cond.selects "PlainLibrary$Shelves" ({ cls := "PlainLibrary$Shelves", name := "personAt", desc := "(II)I" } : MethodName) ({ cls := "PlainLibrary$Shelves", name := "personAt", desc := "(II)I" } : MethodName) ∈ tb := ms_ 198 rfl rfl
set_option maxRecDepth 100000 in
theorem mm_199 : Cond.code ({ cls := "PlainLibrary$Shelves", name := "personAt", desc := "(II)I" } : MethodName) prog_3_method_12_code 3 (Option.some FieldType.int) ∈ tb := ms_ 199 rfl rfl
set_option maxRecDepth 100000 in
theorem mm_200 : Cond.methodLink "PlainLibrary$Shelves" 70 ({ cls := "PlainLibrary$Shelves", name := "leaveQueue", desc := "(II)Z" } : MethodName) ∈ tb := ms_ 200 rfl rfl
set_option maxRecDepth 100000 in
theorem mm_202 : Cond.instanceMethod ({ cls := "PlainLibrary$Shelves", name := "leaveQueue", desc := "(II)Z" } : MethodName) ∈ tb := ms_ 202 rfl rfl
set_option maxRecDepth 100000 in
theorem mm_203 : Cond.code ({ cls := "PlainLibrary$Shelves", name := "leaveQueue", desc := "(II)Z" } : MethodName) prog_3_method_25_code 5 (Option.some FieldType.boolean) ∈ tb := ms_ 203 rfl rfl
set_option maxRecDepth 100000 in
theorem mm_204 : Cond.methodLink "PlainLibrary$Shelves" 100 ({ cls := "PlainLibrary$Shelves", name := "placeInQueue", desc := "(II)I" } : MethodName) ∈ tb := ms_ 204 rfl rfl
set_option maxRecDepth 100000 in
theorem mm_206 : Cond.instanceMethod ({ cls := "PlainLibrary$Shelves", name := "placeInQueue", desc := "(II)I" } : MethodName) ∈ tb := ms_ 206 rfl rfl
set_option maxRecDepth 100000 in
theorem mm_207 : Cond.code ({ cls := "PlainLibrary$Shelves", name := "placeInQueue", desc := "(II)I" } : MethodName) prog_3_method_23_code 4 (Option.some FieldType.int) ∈ tb := ms_ 207 rfl rfl
set_option maxRecDepth 100000 in
theorem mm_208 : Cond.methodLink "PlainLibrary$Shelves" 103 ({ cls := "java/lang/System", name := "arraycopy", desc := "(Ljava/lang/Object;ILjava/lang/Object;II)V" } : MethodName) ∈ tb := ms_ 208 rfl rfl
set_option maxRecDepth 100000 in
theorem mm_209 : Cond.methodLink "PlainLibrary$Shelves" 63 ({ cls := "PlainLibrary$Shelves", name := "giveBack", desc := "(I)Z" } : MethodName) ∈ tb := ms_ 209 rfl rfl
set_option maxRecDepth 100000 in
theorem mm_211 : Cond.instanceMethod ({ cls := "PlainLibrary$Shelves", name := "giveBack", desc := "(I)Z" } : MethodName) ∈ tb := ms_ 211 rfl rfl
set_option maxRecDepth 100000 in
theorem mm_212 : Cond.code ({ cls := "PlainLibrary$Shelves", name := "giveBack", desc := "(I)Z" } : MethodName) prog_3_method_22_code 2 (Option.some FieldType.boolean) ∈ tb := ms_ 212 rfl rfl
set_option maxRecDepth 100000 in
theorem mm_213 : Cond.methodLink "PlainLibrary$Shelves" 67 ({ cls := "PlainLibrary$Shelves", name := "joinQueue", desc := "(II)Z" } : MethodName) ∈ tb := ms_ 213 rfl rfl
set_option maxRecDepth 100000 in
theorem mm_215 : Cond.instanceMethod ({ cls := "PlainLibrary$Shelves", name := "joinQueue", desc := "(II)Z" } : MethodName) ∈ tb := ms_ 215 rfl rfl
set_option maxRecDepth 100000 in
theorem mm_216 : Cond.code ({ cls := "PlainLibrary$Shelves", name := "joinQueue", desc := "(II)Z" } : MethodName) prog_3_method_24_code 4 (Option.some FieldType.boolean) ∈ tb := ms_ 216 rfl rfl
set_option maxRecDepth 100000 in
theorem mm_217 : Cond.methodLink "PlainLibrary$Shelves" 73 ({ cls := "PlainLibrary$Shelves", name := "sumIndex", desc := "(II)I" } : MethodName) ∈ tb := ms_ 217 rfl rfl
set_option maxRecDepth 100000 in
theorem mm_218 : Cond.static ({ cls := "PlainLibrary$Shelves", name := "sumIndex", desc := "(II)I" } : MethodName) ∈ tb := ms_ 218 rfl rfl
set_option maxRecDepth 100000 in
theorem mm_219 : Cond.code ({ cls := "PlainLibrary$Shelves", name := "sumIndex", desc := "(II)I" } : MethodName) prog_3_method_15_code 2 (Option.some FieldType.int) ∈ tb := ms_ 219 rfl rfl
set_option maxRecDepth 100000 in
theorem mm_220 : Cond.constantLong "PlainLibrary$Shelves" 77 7 ∈ tb := ms_ 220 rfl rfl
set_option maxRecDepth 100000 in
theorem mm_221 : Cond.methodLink "PlainLibrary$Shelves" 79 ({ cls := "PlainLibrary$Shelves", name := "loseFile", desc := "(II)Z" } : MethodName) ∈ tb := ms_ 221 rfl rfl
set_option maxRecDepth 100000 in
theorem mm_223 : Cond.instanceMethod ({ cls := "PlainLibrary$Shelves", name := "loseFile", desc := "(II)Z" } : MethodName) ∈ tb := ms_ 223 rfl rfl
set_option maxRecDepth 100000 in
theorem mm_224 : Cond.code ({ cls := "PlainLibrary$Shelves", name := "loseFile", desc := "(II)Z" } : MethodName) prog_3_method_26_code 4 (Option.some FieldType.boolean) ∈ tb := ms_ 224 rfl rfl
set_option maxRecDepth 100000 in
theorem mm_225 : Cond.methodLink "PlainLibraryLaw" 25 ({ cls := "PlainLibrary", name := "events", desc := "()I" } : MethodName) ∈ tb := ms_ 225 rfl rfl
set_option maxRecDepth 100000 in
theorem mm_226 : Cond.instanceMethod ({ cls := "PlainLibrary", name := "events", desc := "()I" } : MethodName) ∈ tb := ms_ 226 rfl rfl
set_option maxRecDepth 100000 in
theorem mm_227 : Cond.selects "PlainLibrary" ({ cls := "PlainLibrary", name := "events", desc := "()I" } : MethodName) ({ cls := "PlainLibrary", name := "events", desc := "()I" } : MethodName) ∈ tb := ms_ 227 rfl rfl
set_option maxRecDepth 100000 in
theorem mm_228 : Cond.code ({ cls := "PlainLibrary", name := "events", desc := "()I" } : MethodName) prog_1_method_4_code 1 (Option.some FieldType.int) ∈ tb := ms_ 228 rfl rfl
set_option maxRecDepth 100000 in
theorem mm_229 : Cond.methodLink "PlainLibraryLaw" 30 ({ cls := "PlainLibrary", name := "refused", desc := "()I" } : MethodName) ∈ tb := ms_ 229 rfl rfl
set_option maxRecDepth 100000 in
theorem mm_230 : Cond.instanceMethod ({ cls := "PlainLibrary", name := "refused", desc := "()I" } : MethodName) ∈ tb := ms_ 230 rfl rfl
set_option maxRecDepth 100000 in
theorem mm_231 : Cond.selects "PlainLibrary" ({ cls := "PlainLibrary", name := "refused", desc := "()I" } : MethodName) ({ cls := "PlainLibrary", name := "refused", desc := "()I" } : MethodName) ∈ tb := ms_ 231 rfl rfl
set_option maxRecDepth 100000 in
theorem mm_232 : Cond.code ({ cls := "PlainLibrary", name := "refused", desc := "()I" } : MethodName) prog_1_method_5_code 3 (Option.some FieldType.int) ∈ tb := ms_ 232 rfl rfl
set_option maxRecDepth 100000 in
theorem mm_233 : Cond.methodLink "PlainLibraryLaw" 34 ({ cls := "PlainLibrary", name := "state", desc := "(IIJ)I" } : MethodName) ∈ tb := ms_ 233 rfl rfl
set_option maxRecDepth 100000 in
theorem mm_234 : Cond.instanceMethod ({ cls := "PlainLibrary", name := "state", desc := "(IIJ)I" } : MethodName) ∈ tb := ms_ 234 rfl rfl
set_option maxRecDepth 100000 in
theorem mm_235 : Cond.selects "PlainLibrary" ({ cls := "PlainLibrary", name := "state", desc := "(IIJ)I" } : MethodName) ({ cls := "PlainLibrary", name := "state", desc := "(IIJ)I" } : MethodName) ∈ tb := ms_ 235 rfl rfl
set_option maxRecDepth 100000 in
theorem mm_236 : Cond.code ({ cls := "PlainLibrary", name := "state", desc := "(IIJ)I" } : MethodName) prog_1_method_6_code 5 (Option.some FieldType.int) ∈ tb := ms_ 236 rfl rfl
set_option maxRecDepth 100000 in
theorem mm_237 : Cond.methodLink "PlainLibrary" 60 ({ cls := "PlainLibrary", name := "performUpTo", desc := "(J)V" } : MethodName) ∈ tb := ms_ 237 rfl rfl
set_option maxRecDepth 100000 in
theorem mm_239 : Cond.instanceMethod ({ cls := "PlainLibrary", name := "performUpTo", desc := "(J)V" } : MethodName) ∈ tb := ms_ 239 rfl rfl
set_option maxRecDepth 100000 in
theorem mm_240 : Cond.code ({ cls := "PlainLibrary", name := "performUpTo", desc := "(J)V" } : MethodName) prog_1_method_20_code 4 (Option.none : Option FieldType) ∈ tb := ms_ 240 rfl rfl
set_option maxRecDepth 100000 in
theorem mm_241 : Cond.methodLink "PlainLibrary" 105 ({ cls := "PlainLibrary$Row", name := "dayOf", desc := "(I)J" } : MethodName) ∈ tb := ms_ 241 rfl rfl
set_option maxRecDepth 100000 in
theorem mm_242 : Cond.instanceMethod ({ cls := "PlainLibrary$Row", name := "dayOf", desc := "(I)J" } : MethodName) ∈ tb := ms_ 242 rfl rfl
set_option maxRecDepth 100000 in
theorem mm_243 : Cond.selects "PlainLibrary$Row" ({ cls := "PlainLibrary$Row", name := "dayOf", desc := "(I)J" } : MethodName) ({ cls := "PlainLibrary$Row", name := "dayOf", desc := "(I)J" } : MethodName) ∈ tb := ms_ 243 rfl rfl
set_option maxRecDepth 100000 in
theorem mm_244 : Cond.code ({ cls := "PlainLibrary$Row", name := "dayOf", desc := "(I)J" } : MethodName) prog_2_method_3_code 2 (Option.some FieldType.long) ∈ tb := ms_ 244 rfl rfl
set_option maxRecDepth 100000 in
theorem mm_245 : Cond.methodLink "PlainLibrary" 64 ({ cls := "PlainLibrary$Shelves", name := "recordOf", desc := "(I)I" } : MethodName) ∈ tb := ms_ 245 rfl rfl
set_option maxRecDepth 100000 in
theorem mm_246 : Cond.instanceMethod ({ cls := "PlainLibrary$Shelves", name := "recordOf", desc := "(I)I" } : MethodName) ∈ tb := ms_ 246 rfl rfl
set_option maxRecDepth 100000 in
theorem mm_247 : Cond.selects "PlainLibrary$Shelves" ({ cls := "PlainLibrary$Shelves", name := "recordOf", desc := "(I)I" } : MethodName) ({ cls := "PlainLibrary$Shelves", name := "recordOf", desc := "(I)I" } : MethodName) ∈ tb := ms_ 247 rfl rfl
set_option maxRecDepth 100000 in
theorem mm_248 : Cond.code ({ cls := "PlainLibrary$Shelves", name := "recordOf", desc := "(I)I" } : MethodName) prog_3_method_4_code 2 (Option.some FieldType.int) ∈ tb := ms_ 248 rfl rfl
set_option maxRecDepth 100000 in
theorem mm_249 : Cond.methodLink "PlainLibrary" 68 ({ cls := "PlainLibrary$Shelves", name := "personWith", desc := "(I)I" } : MethodName) ∈ tb := ms_ 249 rfl rfl
set_option maxRecDepth 100000 in
theorem mm_250 : Cond.instanceMethod ({ cls := "PlainLibrary$Shelves", name := "personWith", desc := "(I)I" } : MethodName) ∈ tb := ms_ 250 rfl rfl
set_option maxRecDepth 100000 in
theorem mm_251 : Cond.selects "PlainLibrary$Shelves" ({ cls := "PlainLibrary$Shelves", name := "personWith", desc := "(I)I" } : MethodName) ({ cls := "PlainLibrary$Shelves", name := "personWith", desc := "(I)I" } : MethodName) ∈ tb := ms_ 251 rfl rfl
set_option maxRecDepth 100000 in
theorem mm_252 : Cond.code ({ cls := "PlainLibrary$Shelves", name := "personWith", desc := "(I)I" } : MethodName) prog_3_method_5_code 2 (Option.some FieldType.int) ∈ tb := ms_ 252 rfl rfl
set_option maxRecDepth 100000 in
theorem mm_253 : Cond.methodLink "PlainLibrary" 71 ({ cls := "PlainLibrary$Shelves", name := "classOf", desc := "(I)I" } : MethodName) ∈ tb := ms_ 253 rfl rfl
set_option maxRecDepth 100000 in
theorem mm_254 : Cond.instanceMethod ({ cls := "PlainLibrary$Shelves", name := "classOf", desc := "(I)I" } : MethodName) ∈ tb := ms_ 254 rfl rfl
set_option maxRecDepth 100000 in
theorem mm_255 : Cond.selects "PlainLibrary$Shelves" ({ cls := "PlainLibrary$Shelves", name := "classOf", desc := "(I)I" } : MethodName) ({ cls := "PlainLibrary$Shelves", name := "classOf", desc := "(I)I" } : MethodName) ∈ tb := ms_ 255 rfl rfl
set_option maxRecDepth 100000 in
theorem mm_256 : Cond.code ({ cls := "PlainLibrary$Shelves", name := "classOf", desc := "(I)I" } : MethodName) prog_3_method_6_code 2 (Option.some FieldType.int) ∈ tb := ms_ 256 rfl rfl
set_option maxRecDepth 100000 in
theorem mm_257 : Cond.methodLink "PlainLibrary" 74 ({ cls := "PlainLibrary$Shelves", name := "copiesThereOf", desc := "(I)I" } : MethodName) ∈ tb := ms_ 257 rfl rfl
set_option maxRecDepth 100000 in
theorem mm_258 : Cond.instanceMethod ({ cls := "PlainLibrary$Shelves", name := "copiesThereOf", desc := "(I)I" } : MethodName) ∈ tb := ms_ 258 rfl rfl
set_option maxRecDepth 100000 in
theorem mm_259 : Cond.selects "PlainLibrary$Shelves" ({ cls := "PlainLibrary$Shelves", name := "copiesThereOf", desc := "(I)I" } : MethodName) ({ cls := "PlainLibrary$Shelves", name := "copiesThereOf", desc := "(I)I" } : MethodName) ∈ tb := ms_ 259 rfl rfl
set_option maxRecDepth 100000 in
theorem mm_260 : Cond.code ({ cls := "PlainLibrary$Shelves", name := "copiesThereOf", desc := "(I)I" } : MethodName) prog_3_method_7_code 4 (Option.some FieldType.int) ∈ tb := ms_ 260 rfl rfl
set_option maxRecDepth 100000 in
theorem mm_261 : Cond.methodLink "PlainLibraryLaw" 39 ({ cls := "PlainLibrary", name := "heading", desc := "(II)I" } : MethodName) ∈ tb := ms_ 261 rfl rfl
set_option maxRecDepth 100000 in
theorem mm_262 : Cond.instanceMethod ({ cls := "PlainLibrary", name := "heading", desc := "(II)I" } : MethodName) ∈ tb := ms_ 262 rfl rfl
set_option maxRecDepth 100000 in
theorem mm_263 : Cond.selects "PlainLibrary" ({ cls := "PlainLibrary", name := "heading", desc := "(II)I" } : MethodName) ({ cls := "PlainLibrary", name := "heading", desc := "(II)I" } : MethodName) ∈ tb := ms_ 263 rfl rfl
set_option maxRecDepth 100000 in
theorem mm_264 : Cond.code ({ cls := "PlainLibrary", name := "heading", desc := "(II)I" } : MethodName) prog_1_method_7_code 3 (Option.some FieldType.int) ∈ tb := ms_ 264 rfl rfl
set_option maxRecDepth 100000 in
theorem mm_265 : Cond.methodLink "PlainLibrary" 77 ({ cls := "PlainLibrary", name := "performAll", desc := "()V" } : MethodName) ∈ tb := ms_ 265 rfl rfl
set_option maxRecDepth 100000 in
theorem mm_267 : Cond.instanceMethod ({ cls := "PlainLibrary", name := "performAll", desc := "()V" } : MethodName) ∈ tb := ms_ 267 rfl rfl
set_option maxRecDepth 100000 in
theorem mm_268 : Cond.code ({ cls := "PlainLibrary", name := "performAll", desc := "()V" } : MethodName) prog_1_method_19_code 1 (Option.none : Option FieldType) ∈ tb := ms_ 268 rfl rfl
set_option maxRecDepth 100000 in
theorem mm_269 : Cond.methodLink "PlainLibrary" 80 ({ cls := "PlainLibrary$Shelves", name := "headingAt", desc := "(II)I" } : MethodName) ∈ tb := ms_ 269 rfl rfl
set_option maxRecDepth 100000 in
theorem mm_270 : Cond.instanceMethod ({ cls := "PlainLibrary$Shelves", name := "headingAt", desc := "(II)I" } : MethodName) ∈ tb := ms_ 270 rfl rfl
set_option maxRecDepth 100000 in
theorem mm_271 : Cond.selects "PlainLibrary$Shelves" ({ cls := "PlainLibrary$Shelves", name := "headingAt", desc := "(II)I" } : MethodName) ({ cls := "PlainLibrary$Shelves", name := "headingAt", desc := "(II)I" } : MethodName) ∈ tb := ms_ 271 rfl rfl
set_option maxRecDepth 100000 in
theorem mm_272 : Cond.code ({ cls := "PlainLibrary$Shelves", name := "headingAt", desc := "(II)I" } : MethodName) prog_3_method_10_code 5 (Option.some FieldType.int) ∈ tb := ms_ 272 rfl rfl
set_option maxRecDepth 100000 in
theorem mm_273 : Cond.methodLink "PlainLibraryLaw" 44 ({ cls := "PlainLibrary", name := "question", desc := "(II)I" } : MethodName) ∈ tb := ms_ 273 rfl rfl
set_option maxRecDepth 100000 in
theorem mm_274 : Cond.instanceMethod ({ cls := "PlainLibrary", name := "question", desc := "(II)I" } : MethodName) ∈ tb := ms_ 274 rfl rfl
set_option maxRecDepth 100000 in
theorem mm_275 : Cond.selects "PlainLibrary" ({ cls := "PlainLibrary", name := "question", desc := "(II)I" } : MethodName) ({ cls := "PlainLibrary", name := "question", desc := "(II)I" } : MethodName) ∈ tb := ms_ 275 rfl rfl
set_option maxRecDepth 100000 in
theorem mm_276 : Cond.code ({ cls := "PlainLibrary", name := "question", desc := "(II)I" } : MethodName) prog_1_method_8_code 4 (Option.some FieldType.int) ∈ tb := ms_ 276 rfl rfl
set_option maxRecDepth 100000 in
theorem mm_277 : Cond.methodLink "PlainLibrary" 86 ({ cls := "PlainLibrary$Shelves", name := "hasHeading", desc := "(II)Z" } : MethodName) ∈ tb := ms_ 277 rfl rfl
set_option maxRecDepth 100000 in
theorem mm_278 : Cond.methodLink "PlainLibraryLaw" 48 ({ cls := "PlainLibrary", name := "hit", desc := "(I)I" } : MethodName) ∈ tb := ms_ 278 rfl rfl
set_option maxRecDepth 100000 in
theorem mm_279 : Cond.instanceMethod ({ cls := "PlainLibrary", name := "hit", desc := "(I)I" } : MethodName) ∈ tb := ms_ 279 rfl rfl
set_option maxRecDepth 100000 in
theorem mm_280 : Cond.selects "PlainLibrary" ({ cls := "PlainLibrary", name := "hit", desc := "(I)I" } : MethodName) ({ cls := "PlainLibrary", name := "hit", desc := "(I)I" } : MethodName) ∈ tb := ms_ 280 rfl rfl
set_option maxRecDepth 100000 in
theorem mm_281 : Cond.code ({ cls := "PlainLibrary", name := "hit", desc := "(I)I" } : MethodName) prog_1_method_9_code 2 (Option.some FieldType.int) ∈ tb := ms_ 281 rfl rfl
set_option maxRecDepth 100000 in
theorem mm_282 : Cond.methodLink "PlainLibraryLaw" 52 ({ cls := "PlainLibrary", name := "due", desc := "(I)J" } : MethodName) ∈ tb := ms_ 282 rfl rfl
set_option maxRecDepth 100000 in
theorem mm_283 : Cond.instanceMethod ({ cls := "PlainLibrary", name := "due", desc := "(I)J" } : MethodName) ∈ tb := ms_ 283 rfl rfl
set_option maxRecDepth 100000 in
theorem mm_284 : Cond.selects "PlainLibrary" ({ cls := "PlainLibrary", name := "due", desc := "(I)J" } : MethodName) ({ cls := "PlainLibrary", name := "due", desc := "(I)J" } : MethodName) ∈ tb := ms_ 284 rfl rfl
set_option maxRecDepth 100000 in
theorem mm_285 : Cond.code ({ cls := "PlainLibrary", name := "due", desc := "(I)J" } : MethodName) prog_1_method_10_code 2 (Option.some FieldType.long) ∈ tb := ms_ 285 rfl rfl
set_option maxRecDepth 100000 in
theorem mm_286 : Cond.constantLong "PlainLibrary" 90 (-1) ∈ tb := ms_ 286 rfl rfl
set_option maxRecDepth 100000 in
theorem mm_287 : Cond.methodLink "PlainLibrary" 92 ({ cls := "PlainLibrary$Shelves", name := "dueDayOf", desc := "(I)J" } : MethodName) ∈ tb := ms_ 287 rfl rfl
set_option maxRecDepth 100000 in
theorem mm_288 : Cond.instanceMethod ({ cls := "PlainLibrary$Shelves", name := "dueDayOf", desc := "(I)J" } : MethodName) ∈ tb := ms_ 288 rfl rfl
set_option maxRecDepth 100000 in
theorem mm_289 : Cond.selects "PlainLibrary$Shelves" ({ cls := "PlainLibrary$Shelves", name := "dueDayOf", desc := "(I)J" } : MethodName) ({ cls := "PlainLibrary$Shelves", name := "dueDayOf", desc := "(I)J" } : MethodName) ∈ tb := ms_ 289 rfl rfl
set_option maxRecDepth 100000 in
theorem mm_290 : Cond.code ({ cls := "PlainLibrary$Shelves", name := "dueDayOf", desc := "(I)J" } : MethodName) prog_3_method_11_code 2 (Option.some FieldType.long) ∈ tb := ms_ 290 rfl rfl
set_option maxRecDepth 100000 in
theorem mm_291 : Cond.methodLink "PlainLibraryLaw" 57 ({ cls := "PlainLibrary", name := "queue", desc := "(II)I" } : MethodName) ∈ tb := ms_ 291 rfl rfl
set_option maxRecDepth 100000 in
theorem mm_292 : Cond.instanceMethod ({ cls := "PlainLibrary", name := "queue", desc := "(II)I" } : MethodName) ∈ tb := ms_ 292 rfl rfl
set_option maxRecDepth 100000 in
theorem mm_293 : Cond.selects "PlainLibrary" ({ cls := "PlainLibrary", name := "queue", desc := "(II)I" } : MethodName) ({ cls := "PlainLibrary", name := "queue", desc := "(II)I" } : MethodName) ∈ tb := ms_ 293 rfl rfl
set_option maxRecDepth 100000 in
theorem mm_294 : Cond.code ({ cls := "PlainLibrary", name := "queue", desc := "(II)I" } : MethodName) prog_1_method_11_code 3 (Option.some FieldType.int) ∈ tb := ms_ 294 rfl rfl
set_option maxRecDepth 100000 in
theorem mm_295 : Cond.methodLink "PlainLibrary" 96 ({ cls := "PlainLibrary$Shelves", name := "personAt", desc := "(II)I" } : MethodName) ∈ tb := ms_ 295 rfl rfl
set_option maxRecDepth 100000 in
theorem mm_296 : Cond.methodLink "PlainLibraryLaw" 61 ({ cls := "PlainLibrary", name := "poll", desc := "(I)I" } : MethodName) ∈ tb := ms_ 296 rfl rfl
set_option maxRecDepth 100000 in
theorem mm_297 : Cond.instanceMethod ({ cls := "PlainLibrary", name := "poll", desc := "(I)I" } : MethodName) ∈ tb := ms_ 297 rfl rfl
set_option maxRecDepth 100000 in
theorem mm_298 : Cond.selects "PlainLibrary" ({ cls := "PlainLibrary", name := "poll", desc := "(I)I" } : MethodName) ({ cls := "PlainLibrary", name := "poll", desc := "(I)I" } : MethodName) ∈ tb := ms_ 298 rfl rfl
set_option maxRecDepth 100000 in
theorem mm_299 : Cond.code ({ cls := "PlainLibrary", name := "poll", desc := "(I)I" } : MethodName) prog_1_method_12_code 2 (Option.some FieldType.int) ∈ tb := ms_ 299 rfl rfl
set_option maxRecDepth 100000 in
theorem mm_300 : Cond.methodLink "PlainLibrary" 99 ({ cls := "PlainLibrary$Shelves", name := "commonSumOf", desc := "(I)I" } : MethodName) ∈ tb := ms_ 300 rfl rfl
set_option maxRecDepth 100000 in
theorem mm_301 : Cond.instanceMethod ({ cls := "PlainLibrary$Shelves", name := "commonSumOf", desc := "(I)I" } : MethodName) ∈ tb := ms_ 301 rfl rfl
set_option maxRecDepth 100000 in
theorem mm_302 : Cond.selects "PlainLibrary$Shelves" ({ cls := "PlainLibrary$Shelves", name := "commonSumOf", desc := "(I)I" } : MethodName) ({ cls := "PlainLibrary$Shelves", name := "commonSumOf", desc := "(I)I" } : MethodName) ∈ tb := ms_ 302 rfl rfl
set_option maxRecDepth 100000 in
theorem mm_303 : Cond.code ({ cls := "PlainLibrary$Shelves", name := "commonSumOf", desc := "(I)I" } : MethodName) prog_3_method_13_code 4 (Option.some FieldType.int) ∈ tb := ms_ 303 rfl rfl
set_option maxRecDepth 100000 in
theorem mm_304 : Cond.methodLink "PlainLibrary$Shelves" 94 ({ cls := "PlainLibrary$Shelves", name := "storesWith", desc := "(II)I" } : MethodName) ∈ tb := ms_ 304 rfl rfl
set_option maxRecDepth 100000 in
theorem mm_306 : Cond.instanceMethod ({ cls := "PlainLibrary$Shelves", name := "storesWith", desc := "(II)I" } : MethodName) ∈ tb := ms_ 306 rfl rfl
set_option maxRecDepth 100000 in
theorem mm_307 : Cond.code ({ cls := "PlainLibrary$Shelves", name := "storesWith", desc := "(II)I" } : MethodName) prog_3_method_14_code 5 (Option.some FieldType.int) ∈ tb := ms_ 307 rfl rfl
set_option maxRecDepth 100000 in
theorem mm_308 : Cond.methodLink "PlainLibraryLaw" 65 ({ cls := "PlainLibrary", name := "kept", desc := "(IIJI)I" } : MethodName) ∈ tb := ms_ 308 rfl rfl
set_option maxRecDepth 100000 in
theorem mm_309 : Cond.instanceMethod ({ cls := "PlainLibrary", name := "kept", desc := "(IIJI)I" } : MethodName) ∈ tb := ms_ 309 rfl rfl
set_option maxRecDepth 100000 in
theorem mm_310 : Cond.selects "PlainLibrary" ({ cls := "PlainLibrary", name := "kept", desc := "(IIJI)I" } : MethodName) ({ cls := "PlainLibrary", name := "kept", desc := "(IIJI)I" } : MethodName) ∈ tb := ms_ 310 rfl rfl
set_option maxRecDepth 100000 in
theorem mm_311 : Cond.code ({ cls := "PlainLibrary", name := "kept", desc := "(IIJI)I" } : MethodName) prog_1_method_13_code 11 (Option.some FieldType.int) ∈ tb := ms_ 311 rfl rfl
set_option maxRecDepth 100000 in
theorem mm_312 : Cond.methodLink "PlainLibrary" 102 ({ cls := "PlainLibrary$Row", name := "copyGivenBackBy", desc := "(I)I" } : MethodName) ∈ tb := ms_ 312 rfl rfl
set_option maxRecDepth 100000 in
theorem mm_313 : Cond.instanceMethod ({ cls := "PlainLibrary$Row", name := "copyGivenBackBy", desc := "(I)I" } : MethodName) ∈ tb := ms_ 313 rfl rfl
set_option maxRecDepth 100000 in
theorem mm_314 : Cond.selects "PlainLibrary$Row" ({ cls := "PlainLibrary$Row", name := "copyGivenBackBy", desc := "(I)I" } : MethodName) ({ cls := "PlainLibrary$Row", name := "copyGivenBackBy", desc := "(I)I" } : MethodName) ∈ tb := ms_ 314 rfl rfl
set_option maxRecDepth 100000 in
theorem mm_315 : Cond.code ({ cls := "PlainLibrary$Row", name := "copyGivenBackBy", desc := "(I)I" } : MethodName) prog_2_method_4_code 2 (Option.some FieldType.int) ∈ tb := ms_ 315 rfl rfl
set_option maxRecDepth 100000 in
theorem mm_316 : Cond.methodLink "PlainLibraryLaw" 70 ({ cls := "PlainLibrary", name := "most", desc := "(I)I" } : MethodName) ∈ tb := ms_ 316 rfl rfl
set_option maxRecDepth 100000 in
theorem mm_317 : Cond.instanceMethod ({ cls := "PlainLibrary", name := "most", desc := "(I)I" } : MethodName) ∈ tb := ms_ 317 rfl rfl
set_option maxRecDepth 100000 in
theorem mm_318 : Cond.selects "PlainLibrary" ({ cls := "PlainLibrary", name := "most", desc := "(I)I" } : MethodName) ({ cls := "PlainLibrary", name := "most", desc := "(I)I" } : MethodName) ∈ tb := ms_ 318 rfl rfl
set_option maxRecDepth 100000 in
theorem mm_319 : Cond.code ({ cls := "PlainLibrary", name := "most", desc := "(I)I" } : MethodName) prog_1_method_14_code 4 (Option.some FieldType.int) ∈ tb := ms_ 319 rfl rfl
set_option maxRecDepth 100000 in
theorem mm_320 : Cond.methodLink "PlainLibrary" 108 ({ cls := "PlainLibrary$Shelves", name := "copiesWith", desc := "(I)I" } : MethodName) ∈ tb := ms_ 320 rfl rfl
set_option maxRecDepth 100000 in
theorem mm_321 : Cond.instanceMethod ({ cls := "PlainLibrary$Shelves", name := "copiesWith", desc := "(I)I" } : MethodName) ∈ tb := ms_ 321 rfl rfl
set_option maxRecDepth 100000 in
theorem mm_322 : Cond.selects "PlainLibrary$Shelves" ({ cls := "PlainLibrary$Shelves", name := "copiesWith", desc := "(I)I" } : MethodName) ({ cls := "PlainLibrary$Shelves", name := "copiesWith", desc := "(I)I" } : MethodName) ∈ tb := ms_ 322 rfl rfl
set_option maxRecDepth 100000 in
theorem mm_323 : Cond.code ({ cls := "PlainLibrary$Shelves", name := "copiesWith", desc := "(I)I" } : MethodName) prog_3_method_8_code 4 (Option.some FieldType.int) ∈ tb := ms_ 323 rfl rfl
set_option maxRecDepth 100000 in
theorem mm_324 : Cond.methodLink "PlainLibrary" 111 ({ cls := "java/lang/Math", name := "max", desc := "(II)I" } : MethodName) ∈ tb := ms_ 324 rfl rfl
set_option maxRecDepth 100000 in
theorem mm_325 : Cond.static ({ cls := "java/lang/Math", name := "max", desc := "(II)I" } : MethodName) ∈ tb := ms_ 325 rfl rfl
set_option maxRecDepth 100000 in
theorem mm_326 : Cond.code ({ cls := "java/lang/Math", name := "max", desc := "(II)I" } : MethodName) prog_6_method_65_code 2 (Option.some FieldType.int) ∈ tb := ms_ 326 rfl rfl
set_option maxRecDepth 100000 in
theorem mm_327 : Cond.methodLink "PlainLibraryLaw" 74 ({ cls := "PlainLibrary", name := "least", desc := "()I" } : MethodName) ∈ tb := ms_ 327 rfl rfl
set_option maxRecDepth 100000 in
theorem mm_328 : Cond.instanceMethod ({ cls := "PlainLibrary", name := "least", desc := "()I" } : MethodName) ∈ tb := ms_ 328 rfl rfl
set_option maxRecDepth 100000 in
theorem mm_329 : Cond.selects "PlainLibrary" ({ cls := "PlainLibrary", name := "least", desc := "()I" } : MethodName) ({ cls := "PlainLibrary", name := "least", desc := "()I" } : MethodName) ∈ tb := ms_ 329 rfl rfl
set_option maxRecDepth 100000 in
theorem mm_330 : Cond.code ({ cls := "PlainLibrary", name := "least", desc := "()I" } : MethodName) prog_1_method_15_code 2 (Option.some FieldType.int) ∈ tb := ms_ 330 rfl rfl
set_option maxRecDepth 100000 in
theorem mm_331 : Cond.methodLink "PlainLibrary" 116 ({ cls := "PlainLibrary", name := "firstVoidWithout", desc := "(II)I" } : MethodName) ∈ tb := ms_ 331 rfl rfl
set_option maxRecDepth 100000 in
theorem mm_333 : Cond.instanceMethod ({ cls := "PlainLibrary", name := "firstVoidWithout", desc := "(II)I" } : MethodName) ∈ tb := ms_ 333 rfl rfl
set_option maxRecDepth 100000 in
theorem mm_334 : Cond.code ({ cls := "PlainLibrary", name := "firstVoidWithout", desc := "(II)I" } : MethodName) prog_1_method_21_code 4 (Option.some FieldType.int) ∈ tb := ms_ 334 rfl rfl
set_option maxRecDepth 100000 in
theorem mm_335 : Cond.methodLink "PlainLibrary" 119 ({ cls := "PlainLibrary", name := "oneLessIsEnough", desc := "(I)Z" } : MethodName) ∈ tb := ms_ 335 rfl rfl
set_option maxRecDepth 100000 in
theorem mm_337 : Cond.instanceMethod ({ cls := "PlainLibrary", name := "oneLessIsEnough", desc := "(I)Z" } : MethodName) ∈ tb := ms_ 337 rfl rfl
set_option maxRecDepth 100000 in
theorem mm_338 : Cond.code ({ cls := "PlainLibrary", name := "oneLessIsEnough", desc := "(I)Z" } : MethodName) prog_1_method_22_code 3 (Option.some FieldType.boolean) ∈ tb := ms_ 338 rfl rfl
set_option maxRecDepth 100000 in
theorem mm_339 : Cond.methodLink "PlainLibrary" 123 ({ cls := "PlainLibrary", name := "twoLessAreEnough", desc := "(I)Z" } : MethodName) ∈ tb := ms_ 339 rfl rfl
set_option maxRecDepth 100000 in
theorem mm_341 : Cond.instanceMethod ({ cls := "PlainLibrary", name := "twoLessAreEnough", desc := "(I)Z" } : MethodName) ∈ tb := ms_ 341 rfl rfl
set_option maxRecDepth 100000 in
theorem mm_342 : Cond.code ({ cls := "PlainLibrary", name := "twoLessAreEnough", desc := "(I)Z" } : MethodName) prog_1_method_23_code 5 (Option.some FieldType.boolean) ∈ tb := ms_ 342 rfl rfl
set_option maxRecDepth 100000 in
theorem mm_343 : Cond.classLink "PlainLibraryLaw" 10 "PlainLibraryModel" ∈ tb := ms_ 343 rfl rfl
set_option maxRecDepth 100000 in
theorem mm_344 : Cond.instantiable "PlainLibraryModel" 21 ∈ tb := ms_ 344 rfl rfl
set_option maxRecDepth 100000 in
theorem mm_345 : Cond.methodLink "PlainLibraryLaw" 12 ({ cls := "PlainLibraryModel", name := "<init>", desc := "()V" } : MethodName) ∈ tb := ms_ 345 rfl rfl
set_option maxRecDepth 100000 in
theorem mm_346 : Cond.instanceMethod ({ cls := "PlainLibraryModel", name := "<init>", desc := "()V" } : MethodName) ∈ tb := ms_ 346 rfl rfl
set_option maxRecDepth 100000 in
theorem mm_347 : Cond.code ({ cls := "PlainLibraryModel", name := "<init>", desc := "()V" } : MethodName) prog_5_method_1_code 1 (Option.none : Option FieldType) ∈ tb := ms_ 347 rfl rfl
set_option maxRecDepth 100000 in
theorem mm_348 : Cond.methodLink "PlainLibraryModel" 1 ({ cls := "java/lang/Object", name := "<init>", desc := "()V" } : MethodName) ∈ tb := ms_ 348 rfl rfl
set_option maxRecDepth 100000 in
theorem mm_349 : Cond.fieldLink "PlainLibraryModel" 60 "PlainLibraryModel" "thrown" "I" ∈ tb := ms_ 349 rfl rfl
set_option maxRecDepth 100000 in
theorem mm_350 : Cond.fieldLink "PlainLibraryModel" 7 "PlainLibraryModel" "sorts" "[I" ∈ tb := ms_ 350 rfl rfl
set_option maxRecDepth 100000 in
theorem mm_351 : Cond.fieldLink "PlainLibraryModel" 13 "PlainLibraryModel" "as" "[I" ∈ tb := ms_ 351 rfl rfl
set_option maxRecDepth 100000 in
theorem mm_352 : Cond.fieldLink "PlainLibraryModel" 16 "PlainLibraryModel" "bs" "[J" ∈ tb := ms_ 352 rfl rfl
set_option maxRecDepth 100000 in
theorem mm_353 : Cond.fieldLink "PlainLibraryModel" 20 "PlainLibraryModel" "days" "[J" ∈ tb := ms_ 353 rfl rfl
set_option maxRecDepth 100000 in
theorem mm_354 : Cond.fieldLink "PlainLibraryModel" 84 "PlainLibraryModel" "count" "I" ∈ tb := ms_ 354 rfl rfl
set_option maxRecDepth 100000 in
theorem mm_355 : Cond.fieldLink "PlainLibraryModel" 23 "PlainLibraryModel" "headings" "[Z" ∈ tb := ms_ 355 rfl rfl
set_option maxRecDepth 100000 in
theorem mm_356 : Cond.fieldLink "PlainLibraryModel" 27 "PlainLibraryModel" "recordOf" "[I" ∈ tb := ms_ 356 rfl rfl
set_option maxRecDepth 100000 in
theorem mm_357 : Cond.fieldLink "PlainLibraryModel" 30 "PlainLibraryModel" "person" "[I" ∈ tb := ms_ 357 rfl rfl
set_option maxRecDepth 100000 in
theorem mm_358 : Cond.fieldLink "PlainLibraryModel" 33 "PlainLibraryModel" "due" "[J" ∈ tb := ms_ 358 rfl rfl
set_option maxRecDepth 100000 in
theorem mm_359 : Cond.fieldLink "PlainLibraryModel" 36 "PlainLibraryModel" "queues" "[I" ∈ tb := ms_ 359 rfl rfl
set_option maxRecDepth 100000 in
theorem mm_360 : Cond.fieldLink "PlainLibraryModel" 39 "PlainLibraryModel" "queueSizes" "[I" ∈ tb := ms_ 360 rfl rfl
set_option maxRecDepth 100000 in
theorem mm_361 : Cond.fieldLink "PlainLibraryModel" 42 "PlainLibraryModel" "sums" "[I" ∈ tb := ms_ 361 rfl rfl
set_option maxRecDepth 100000 in
theorem mm_362 : Cond.fieldLink "PlainLibraryModel" 45 "PlainLibraryModel" "classes" "[I" ∈ tb := ms_ 362 rfl rfl
set_option maxRecDepth 100000 in
theorem mm_363 : Cond.fieldLink "PlainLibraryModel" 48 "PlainLibraryModel" "lasts" "[I" ∈ tb := ms_ 363 rfl rfl
set_option maxRecDepth 100000 in
theorem mm_364 : Cond.fieldLink "PlainLibraryModel" 51 "PlainLibraryModel" "isVoid" "[Z" ∈ tb := ms_ 364 rfl rfl
set_option maxRecDepth 100000 in
theorem mm_365 : Cond.fieldLink "PlainLibraryModel" 54 "PlainLibraryModel" "backOf" "[I" ∈ tb := ms_ 365 rfl rfl
set_option maxRecDepth 100000 in
theorem mm_366 : Cond.fieldLink "PlainLibraryModel" 87 "PlainLibraryModel" "voids" "I" ∈ tb := ms_ 366 rfl rfl
set_option maxRecDepth 100000 in
theorem mm_367 : Cond.fieldLink "PlainLibraryModel" 90 "PlainLibraryModel" "peak" "I" ∈ tb := ms_ 367 rfl rfl
set_option maxRecDepth 100000 in
theorem mm_368 : Cond.fieldLink "PlainLibraryModel" 57 "PlainLibraryModel" "hits" "[I" ∈ tb := ms_ 368 rfl rfl
set_option maxRecDepth 100000 in
theorem mm_369 : Cond.fieldLink "PlainLibraryModel" 134 "PlainLibraryModel" "hitCount" "I" ∈ tb := ms_ 369 rfl rfl
set_option maxRecDepth 100000 in
theorem mm_413 : Cond.arrayClass FieldType.boolean ∈ tb := ms_ 413 rfl rfl
set_option maxRecDepth 100000 in
theorem mm_414 : Cond.methodLink "PlainLibraryLaw" 19 ({ cls := "PlainLibraryModel", name := "event", desc := "(IJJJ)I" } : MethodName) ∈ tb := ms_ 414 rfl rfl
set_option maxRecDepth 100000 in
theorem mm_415 : Cond.instanceMethod ({ cls := "PlainLibraryModel", name := "event", desc := "(IJJJ)I" } : MethodName) ∈ tb := ms_ 415 rfl rfl
set_option maxRecDepth 100000 in
theorem mm_416 : Cond.selects "PlainLibraryModel" ({ cls := "PlainLibraryModel", name := "event", desc := "(IJJJ)I" } : MethodName) ({ cls := "PlainLibraryModel", name := "event", desc := "(IJJJ)I" } : MethodName) ∈ tb := ms_ 416 rfl rfl
set_option maxRecDepth 100000 in
theorem mm_417 : Cond.code ({ cls := "PlainLibraryModel", name := "event", desc := "(IJJJ)I" } : MethodName) prog_5_method_5_code 9 (Option.some FieldType.int) ∈ tb := ms_ 417 rfl rfl
set_option maxRecDepth 100000 in
theorem mm_418 : Cond.methodLink "PlainLibraryModel" 78 ({ cls := "PlainLibraryModel", name := "can", desc := "(IJJ)Z" } : MethodName) ∈ tb := ms_ 418 rfl rfl
set_option maxRecDepth 100000 in
theorem mm_419 : Cond.static ({ cls := "PlainLibraryModel", name := "can", desc := "(IJJ)Z" } : MethodName) ∈ tb := ms_ 419 rfl rfl
set_option maxRecDepth 100000 in
theorem mm_420 : Cond.code ({ cls := "PlainLibraryModel", name := "can", desc := "(IJJ)Z" } : MethodName) prog_5_method_4_code 5 (Option.some FieldType.boolean) ∈ tb := ms_ 420 rfl rfl
set_option maxRecDepth 100000 in
theorem mm_421 : Cond.constantLong "PlainLibraryModel" 64 20 ∈ tb := ms_ 421 rfl rfl
set_option maxRecDepth 100000 in
theorem mm_422 : Cond.methodLink "PlainLibraryModel" 66 ({ cls := "PlainLibraryModel", name := "in", desc := "(JJJ)Z" } : MethodName) ∈ tb := ms_ 422 rfl rfl
set_option maxRecDepth 100000 in
theorem mm_423 : Cond.static ({ cls := "PlainLibraryModel", name := "in", desc := "(JJJ)Z" } : MethodName) ∈ tb := ms_ 423 rfl rfl
set_option maxRecDepth 100000 in
theorem mm_424 : Cond.code ({ cls := "PlainLibraryModel", name := "in", desc := "(JJJ)Z" } : MethodName) prog_5_method_3_code 6 (Option.some FieldType.boolean) ∈ tb := ms_ 424 rfl rfl
set_option maxRecDepth 100000 in
theorem mm_425 : Cond.constantLong "PlainLibraryModel" 70 99 ∈ tb := ms_ 425 rfl rfl
set_option maxRecDepth 100000 in
theorem mm_426 : Cond.constantLong "PlainLibraryModel" 72 5 ∈ tb := ms_ 426 rfl rfl
set_option maxRecDepth 100000 in
theorem mm_427 : Cond.constantLong "PlainLibraryModel" 74 9 ∈ tb := ms_ 427 rfl rfl
set_option maxRecDepth 100000 in
theorem mm_428 : Cond.constantLong "PlainLibraryModel" 76 365 ∈ tb := ms_ 428 rfl rfl
set_option maxRecDepth 100000 in
theorem mm_429 : Cond.constantLong "PlainLibraryModel" 82 1000000 ∈ tb := ms_ 429 rfl rfl
set_option maxRecDepth 100000 in
theorem mm_430 : Cond.methodLink "PlainLibraryLaw" 24 ({ cls := "PlainLibraryModel", name := "counts", desc := "(I)I" } : MethodName) ∈ tb := ms_ 430 rfl rfl
set_option maxRecDepth 100000 in
theorem mm_431 : Cond.instanceMethod ({ cls := "PlainLibraryModel", name := "counts", desc := "(I)I" } : MethodName) ∈ tb := ms_ 431 rfl rfl
set_option maxRecDepth 100000 in
theorem mm_432 : Cond.selects "PlainLibraryModel" ({ cls := "PlainLibraryModel", name := "counts", desc := "(I)I" } : MethodName) ({ cls := "PlainLibraryModel", name := "counts", desc := "(I)I" } : MethodName) ∈ tb := ms_ 432 rfl rfl
set_option maxRecDepth 100000 in
theorem mm_433 : Cond.code ({ cls := "PlainLibraryModel", name := "counts", desc := "(I)I" } : MethodName) prog_5_method_17_code 2 (Option.some FieldType.int) ∈ tb := ms_ 433 rfl rfl
set_option maxRecDepth 100000 in
theorem mm_434 : Cond.methodLink "PlainLibraryModel" 128 ({ cls := "PlainLibraryModel", name := "all", desc := "()V" } : MethodName) ∈ tb := ms_ 434 rfl rfl
set_option maxRecDepth 100000 in
theorem mm_436 : Cond.instanceMethod ({ cls := "PlainLibraryModel", name := "all", desc := "()V" } : MethodName) ∈ tb := ms_ 436 rfl rfl
set_option maxRecDepth 100000 in
theorem mm_437 : Cond.code ({ cls := "PlainLibraryModel", name := "all", desc := "()V" } : MethodName) prog_5_method_15_code 1 (Option.none : Option FieldType) ∈ tb := ms_ 437 rfl rfl
set_option maxRecDepth 100000 in
theorem mm_438 : Cond.methodLink "PlainLibraryModel" 124 ({ cls := "PlainLibraryModel", name := "go", desc := "(JIII)V" } : MethodName) ∈ tb := ms_ 438 rfl rfl
set_option maxRecDepth 100000 in
theorem mm_440 : Cond.instanceMethod ({ cls := "PlainLibraryModel", name := "go", desc := "(JIII)V" } : MethodName) ∈ tb := ms_ 440 rfl rfl
set_option maxRecDepth 100000 in
theorem mm_441 : Cond.code ({ cls := "PlainLibraryModel", name := "go", desc := "(JIII)V" } : MethodName) prog_5_method_14_code 9 (Option.none : Option FieldType) ∈ tb := ms_ 441 rfl rfl
set_option maxRecDepth 100000 in
theorem mm_442 : Cond.methodLink "PlainLibraryModel" 117 ({ cls := "PlainLibraryModel", name := "clear", desc := "()V" } : MethodName) ∈ tb := ms_ 442 rfl rfl
set_option maxRecDepth 100000 in
theorem mm_444 : Cond.instanceMethod ({ cls := "PlainLibraryModel", name := "clear", desc := "()V" } : MethodName) ∈ tb := ms_ 444 rfl rfl
set_option maxRecDepth 100000 in
theorem mm_445 : Cond.code ({ cls := "PlainLibraryModel", name := "clear", desc := "()V" } : MethodName) prog_5_method_6_code 2 (Option.none : Option FieldType) ∈ tb := ms_ 445 rfl rfl
set_option maxRecDepth 100000 in
theorem mm_446 : Cond.methodLink "PlainLibraryModel" 120 ({ cls := "PlainLibraryModel", name := "does", desc := "(I)Z" } : MethodName) ∈ tb := ms_ 446 rfl rfl
set_option maxRecDepth 100000 in
theorem mm_448 : Cond.instanceMethod ({ cls := "PlainLibraryModel", name := "does", desc := "(I)Z" } : MethodName) ∈ tb := ms_ 448 rfl rfl
set_option maxRecDepth 100000 in
theorem mm_449 : Cond.code ({ cls := "PlainLibraryModel", name := "does", desc := "(I)Z" } : MethodName) prog_5_method_13_code 4 (Option.some FieldType.boolean) ∈ tb := ms_ 449 rfl rfl
set_option maxRecDepth 100000 in
theorem mm_450 : Cond.methodLink "PlainLibraryModel" 101 ({ cls := "PlainLibraryModel", name := "sets", desc := "(IZ)Z" } : MethodName) ∈ tb := ms_ 450 rfl rfl
set_option maxRecDepth 100000 in
theorem mm_452 : Cond.instanceMethod ({ cls := "PlainLibraryModel", name := "sets", desc := "(IZ)Z" } : MethodName) ∈ tb := ms_ 452 rfl rfl
set_option maxRecDepth 100000 in
theorem mm_453 : Cond.code ({ cls := "PlainLibraryModel", name := "sets", desc := "(IZ)Z" } : MethodName) prog_5_method_11_code 4 (Option.some FieldType.boolean) ∈ tb := ms_ 453 rfl rfl
set_option maxRecDepth 100000 in
theorem mm_454 : Cond.methodLink "PlainLibraryModel" 105 ({ cls := "PlainLibraryModel", name := "lend", desc := "(IIJ)Z" } : MethodName) ∈ tb := ms_ 454 rfl rfl
set_option maxRecDepth 100000 in
theorem mm_456 : Cond.instanceMethod ({ cls := "PlainLibraryModel", name := "lend", desc := "(IIJ)Z" } : MethodName) ∈ tb := ms_ 456 rfl rfl
set_option maxRecDepth 100000 in
theorem mm_457 : Cond.code ({ cls := "PlainLibraryModel", name := "lend", desc := "(IIJ)Z" } : MethodName) prog_5_method_10_code 7 (Option.some FieldType.boolean) ∈ tb := ms_ 457 rfl rfl
set_option maxRecDepth 100000 in
theorem mm_458 : Cond.methodLink "PlainLibraryModel" 97 ({ cls := "PlainLibraryModel", name := "leave", desc := "(II)Z" } : MethodName) ∈ tb := ms_ 458 rfl rfl
set_option maxRecDepth 100000 in
theorem mm_460 : Cond.instanceMethod ({ cls := "PlainLibraryModel", name := "leave", desc := "(II)Z" } : MethodName) ∈ tb := ms_ 460 rfl rfl
set_option maxRecDepth 100000 in
theorem mm_461 : Cond.code ({ cls := "PlainLibraryModel", name := "leave", desc := "(II)Z" } : MethodName) prog_5_method_8_code 5 (Option.some FieldType.boolean) ∈ tb := ms_ 461 rfl rfl
set_option maxRecDepth 100000 in
theorem mm_462 : Cond.methodLink "PlainLibraryModel" 93 ({ cls := "PlainLibraryModel", name := "placeOf", desc := "(II)I" } : MethodName) ∈ tb := ms_ 462 rfl rfl
set_option maxRecDepth 100000 in
theorem mm_464 : Cond.instanceMethod ({ cls := "PlainLibraryModel", name := "placeOf", desc := "(II)I" } : MethodName) ∈ tb := ms_ 464 rfl rfl
set_option maxRecDepth 100000 in
theorem mm_465 : Cond.code ({ cls := "PlainLibraryModel", name := "placeOf", desc := "(II)I" } : MethodName) prog_5_method_7_code 4 (Option.some FieldType.int) ∈ tb := ms_ 465 rfl rfl
set_option maxRecDepth 100000 in
theorem mm_466 : Cond.methodLink "PlainLibraryModel" 109 ({ cls := "PlainLibraryModel", name := "stand", desc := "(II)Z" } : MethodName) ∈ tb := ms_ 466 rfl rfl
set_option maxRecDepth 100000 in
theorem mm_468 : Cond.instanceMethod ({ cls := "PlainLibraryModel", name := "stand", desc := "(II)Z" } : MethodName) ∈ tb := ms_ 468 rfl rfl
set_option maxRecDepth 100000 in
theorem mm_469 : Cond.code ({ cls := "PlainLibraryModel", name := "stand", desc := "(II)Z" } : MethodName) prog_5_method_9_code 3 (Option.some FieldType.boolean) ∈ tb := ms_ 469 rfl rfl
set_option maxRecDepth 100000 in
theorem mm_470 : Cond.constantLong "PlainLibraryModel" 112 7 ∈ tb := ms_ 470 rfl rfl
set_option maxRecDepth 100000 in
theorem mm_471 : Cond.methodLink "PlainLibraryModel" 114 ({ cls := "PlainLibraryModel", name := "stores", desc := "(II)Z" } : MethodName) ∈ tb := ms_ 471 rfl rfl
set_option maxRecDepth 100000 in
theorem mm_473 : Cond.instanceMethod ({ cls := "PlainLibraryModel", name := "stores", desc := "(II)Z" } : MethodName) ∈ tb := ms_ 473 rfl rfl
set_option maxRecDepth 100000 in
theorem mm_474 : Cond.code ({ cls := "PlainLibraryModel", name := "stores", desc := "(II)Z" } : MethodName) prog_5_method_12_code 4 (Option.some FieldType.boolean) ∈ tb := ms_ 474 rfl rfl
set_option maxRecDepth 100000 in
theorem mm_475 : Cond.methodLink "PlainLibraryLaw" 29 ({ cls := "PlainLibraryModel", name := "events", desc := "()I" } : MethodName) ∈ tb := ms_ 475 rfl rfl
set_option maxRecDepth 100000 in
theorem mm_476 : Cond.instanceMethod ({ cls := "PlainLibraryModel", name := "events", desc := "()I" } : MethodName) ∈ tb := ms_ 476 rfl rfl
set_option maxRecDepth 100000 in
theorem mm_477 : Cond.selects "PlainLibraryModel" ({ cls := "PlainLibraryModel", name := "events", desc := "()I" } : MethodName) ({ cls := "PlainLibraryModel", name := "events", desc := "()I" } : MethodName) ∈ tb := ms_ 477 rfl rfl
set_option maxRecDepth 100000 in
theorem mm_478 : Cond.code ({ cls := "PlainLibraryModel", name := "events", desc := "()I" } : MethodName) prog_5_method_18_code 1 (Option.some FieldType.int) ∈ tb := ms_ 478 rfl rfl
set_option maxRecDepth 100000 in
theorem mm_479 : Cond.methodLink "PlainLibraryLaw" 33 ({ cls := "PlainLibraryModel", name := "refused", desc := "()I" } : MethodName) ∈ tb := ms_ 479 rfl rfl
set_option maxRecDepth 100000 in
theorem mm_480 : Cond.instanceMethod ({ cls := "PlainLibraryModel", name := "refused", desc := "()I" } : MethodName) ∈ tb := ms_ 480 rfl rfl
set_option maxRecDepth 100000 in
theorem mm_481 : Cond.selects "PlainLibraryModel" ({ cls := "PlainLibraryModel", name := "refused", desc := "()I" } : MethodName) ({ cls := "PlainLibraryModel", name := "refused", desc := "()I" } : MethodName) ∈ tb := ms_ 481 rfl rfl
set_option maxRecDepth 100000 in
theorem mm_482 : Cond.code ({ cls := "PlainLibraryModel", name := "refused", desc := "()I" } : MethodName) prog_5_method_19_code 1 (Option.some FieldType.int) ∈ tb := ms_ 482 rfl rfl
set_option maxRecDepth 100000 in
theorem mm_483 : Cond.methodLink "PlainLibraryLaw" 38 ({ cls := "PlainLibraryModel", name := "state", desc := "(IIJ)I" } : MethodName) ∈ tb := ms_ 483 rfl rfl
set_option maxRecDepth 100000 in
theorem mm_484 : Cond.instanceMethod ({ cls := "PlainLibraryModel", name := "state", desc := "(IIJ)I" } : MethodName) ∈ tb := ms_ 484 rfl rfl
set_option maxRecDepth 100000 in
theorem mm_485 : Cond.selects "PlainLibraryModel" ({ cls := "PlainLibraryModel", name := "state", desc := "(IIJ)I" } : MethodName) ({ cls := "PlainLibraryModel", name := "state", desc := "(IIJ)I" } : MethodName) ∈ tb := ms_ 485 rfl rfl
set_option maxRecDepth 100000 in
theorem mm_486 : Cond.code ({ cls := "PlainLibraryModel", name := "state", desc := "(IIJ)I" } : MethodName) prog_5_method_20_code 7 (Option.some FieldType.int) ∈ tb := ms_ 486 rfl rfl
set_option maxRecDepth 100000 in
theorem mm_487 : Cond.methodLink "PlainLibraryModel" 131 ({ cls := "PlainLibraryModel", name := "isNumber", desc := "(I)Z" } : MethodName) ∈ tb := ms_ 487 rfl rfl
set_option maxRecDepth 100000 in
theorem mm_488 : Cond.static ({ cls := "PlainLibraryModel", name := "isNumber", desc := "(I)Z" } : MethodName) ∈ tb := ms_ 488 rfl rfl
set_option maxRecDepth 100000 in
theorem mm_489 : Cond.code ({ cls := "PlainLibraryModel", name := "isNumber", desc := "(I)Z" } : MethodName) prog_5_method_16_code 1 (Option.some FieldType.boolean) ∈ tb := ms_ 489 rfl rfl
set_option maxRecDepth 100000 in
theorem mm_490 : Cond.methodLink "PlainLibraryLaw" 43 ({ cls := "PlainLibraryModel", name := "heading", desc := "(II)I" } : MethodName) ∈ tb := ms_ 490 rfl rfl
set_option maxRecDepth 100000 in
theorem mm_491 : Cond.instanceMethod ({ cls := "PlainLibraryModel", name := "heading", desc := "(II)I" } : MethodName) ∈ tb := ms_ 491 rfl rfl
set_option maxRecDepth 100000 in
theorem mm_492 : Cond.selects "PlainLibraryModel" ({ cls := "PlainLibraryModel", name := "heading", desc := "(II)I" } : MethodName) ({ cls := "PlainLibraryModel", name := "heading", desc := "(II)I" } : MethodName) ∈ tb := ms_ 492 rfl rfl
set_option maxRecDepth 100000 in
theorem mm_493 : Cond.code ({ cls := "PlainLibraryModel", name := "heading", desc := "(II)I" } : MethodName) prog_5_method_21_code 5 (Option.some FieldType.int) ∈ tb := ms_ 493 rfl rfl
set_option maxRecDepth 100000 in
theorem mm_494 : Cond.methodLink "PlainLibraryLaw" 47 ({ cls := "PlainLibraryModel", name := "question", desc := "(II)I" } : MethodName) ∈ tb := ms_ 494 rfl rfl
set_option maxRecDepth 100000 in
theorem mm_495 : Cond.instanceMethod ({ cls := "PlainLibraryModel", name := "question", desc := "(II)I" } : MethodName) ∈ tb := ms_ 495 rfl rfl
set_option maxRecDepth 100000 in
theorem mm_496 : Cond.selects "PlainLibraryModel" ({ cls := "PlainLibraryModel", name := "question", desc := "(II)I" } : MethodName) ({ cls := "PlainLibraryModel", name := "question", desc := "(II)I" } : MethodName) ∈ tb := ms_ 496 rfl rfl
set_option maxRecDepth 100000 in
theorem mm_497 : Cond.code ({ cls := "PlainLibraryModel", name := "question", desc := "(II)I" } : MethodName) prog_5_method_22_code 4 (Option.some FieldType.int) ∈ tb := ms_ 497 rfl rfl
set_option maxRecDepth 100000 in
theorem mm_498 : Cond.methodLink "PlainLibraryLaw" 51 ({ cls := "PlainLibraryModel", name := "hit", desc := "(I)I" } : MethodName) ∈ tb := ms_ 498 rfl rfl
set_option maxRecDepth 100000 in
theorem mm_499 : Cond.instanceMethod ({ cls := "PlainLibraryModel", name := "hit", desc := "(I)I" } : MethodName) ∈ tb := ms_ 499 rfl rfl
set_option maxRecDepth 100000 in
theorem mm_500 : Cond.selects "PlainLibraryModel" ({ cls := "PlainLibraryModel", name := "hit", desc := "(I)I" } : MethodName) ({ cls := "PlainLibraryModel", name := "hit", desc := "(I)I" } : MethodName) ∈ tb := ms_ 500 rfl rfl
set_option maxRecDepth 100000 in
theorem mm_501 : Cond.code ({ cls := "PlainLibraryModel", name := "hit", desc := "(I)I" } : MethodName) prog_5_method_23_code 2 (Option.some FieldType.int) ∈ tb := ms_ 501 rfl rfl
set_option maxRecDepth 100000 in
theorem mm_502 : Cond.methodLink "PlainLibraryLaw" 56 ({ cls := "PlainLibraryModel", name := "due", desc := "(I)J" } : MethodName) ∈ tb := ms_ 502 rfl rfl
set_option maxRecDepth 100000 in
theorem mm_503 : Cond.instanceMethod ({ cls := "PlainLibraryModel", name := "due", desc := "(I)J" } : MethodName) ∈ tb := ms_ 503 rfl rfl
set_option maxRecDepth 100000 in
theorem mm_504 : Cond.selects "PlainLibraryModel" ({ cls := "PlainLibraryModel", name := "due", desc := "(I)J" } : MethodName) ({ cls := "PlainLibraryModel", name := "due", desc := "(I)J" } : MethodName) ∈ tb := ms_ 504 rfl rfl
set_option maxRecDepth 100000 in
theorem mm_505 : Cond.code ({ cls := "PlainLibraryModel", name := "due", desc := "(I)J" } : MethodName) prog_5_method_24_code 2 (Option.some FieldType.long) ∈ tb := ms_ 505 rfl rfl
set_option maxRecDepth 100000 in
theorem mm_506 : Cond.constantLong "PlainLibraryModel" 137 (-1) ∈ tb := ms_ 506 rfl rfl
set_option maxRecDepth 100000 in
theorem mm_507 : Cond.methodLink "PlainLibraryLaw" 60 ({ cls := "PlainLibraryModel", name := "queue", desc := "(II)I" } : MethodName) ∈ tb := ms_ 507 rfl rfl
set_option maxRecDepth 100000 in
theorem mm_508 : Cond.instanceMethod ({ cls := "PlainLibraryModel", name := "queue", desc := "(II)I" } : MethodName) ∈ tb := ms_ 508 rfl rfl
set_option maxRecDepth 100000 in
theorem mm_509 : Cond.selects "PlainLibraryModel" ({ cls := "PlainLibraryModel", name := "queue", desc := "(II)I" } : MethodName) ({ cls := "PlainLibraryModel", name := "queue", desc := "(II)I" } : MethodName) ∈ tb := ms_ 509 rfl rfl
set_option maxRecDepth 100000 in
theorem mm_510 : Cond.code ({ cls := "PlainLibraryModel", name := "queue", desc := "(II)I" } : MethodName) prog_5_method_25_code 3 (Option.some FieldType.int) ∈ tb := ms_ 510 rfl rfl
set_option maxRecDepth 100000 in
theorem mm_511 : Cond.methodLink "PlainLibraryLaw" 64 ({ cls := "PlainLibraryModel", name := "poll", desc := "(I)I" } : MethodName) ∈ tb := ms_ 511 rfl rfl
set_option maxRecDepth 100000 in
theorem mm_512 : Cond.instanceMethod ({ cls := "PlainLibraryModel", name := "poll", desc := "(I)I" } : MethodName) ∈ tb := ms_ 512 rfl rfl
set_option maxRecDepth 100000 in
theorem mm_513 : Cond.selects "PlainLibraryModel" ({ cls := "PlainLibraryModel", name := "poll", desc := "(I)I" } : MethodName) ({ cls := "PlainLibraryModel", name := "poll", desc := "(I)I" } : MethodName) ∈ tb := ms_ 513 rfl rfl
set_option maxRecDepth 100000 in
theorem mm_514 : Cond.code ({ cls := "PlainLibraryModel", name := "poll", desc := "(I)I" } : MethodName) prog_5_method_26_code 7 (Option.some FieldType.int) ∈ tb := ms_ 514 rfl rfl
set_option maxRecDepth 100000 in
theorem mm_515 : Cond.methodLink "PlainLibraryLaw" 69 ({ cls := "PlainLibraryModel", name := "kept", desc := "(IIJI)I" } : MethodName) ∈ tb := ms_ 515 rfl rfl
set_option maxRecDepth 100000 in
theorem mm_516 : Cond.instanceMethod ({ cls := "PlainLibraryModel", name := "kept", desc := "(IIJI)I" } : MethodName) ∈ tb := ms_ 516 rfl rfl
set_option maxRecDepth 100000 in
theorem mm_517 : Cond.selects "PlainLibraryModel" ({ cls := "PlainLibraryModel", name := "kept", desc := "(IIJI)I" } : MethodName) ({ cls := "PlainLibraryModel", name := "kept", desc := "(IIJI)I" } : MethodName) ∈ tb := ms_ 517 rfl rfl
set_option maxRecDepth 100000 in
theorem mm_518 : Cond.code ({ cls := "PlainLibraryModel", name := "kept", desc := "(IIJI)I" } : MethodName) prog_5_method_27_code 8 (Option.some FieldType.int) ∈ tb := ms_ 518 rfl rfl
set_option maxRecDepth 100000 in
theorem mm_519 : Cond.methodLink "PlainLibraryLaw" 73 ({ cls := "PlainLibraryModel", name := "most", desc := "(I)I" } : MethodName) ∈ tb := ms_ 519 rfl rfl
set_option maxRecDepth 100000 in
theorem mm_520 : Cond.instanceMethod ({ cls := "PlainLibraryModel", name := "most", desc := "(I)I" } : MethodName) ∈ tb := ms_ 520 rfl rfl
set_option maxRecDepth 100000 in
theorem mm_521 : Cond.selects "PlainLibraryModel" ({ cls := "PlainLibraryModel", name := "most", desc := "(I)I" } : MethodName) ({ cls := "PlainLibraryModel", name := "most", desc := "(I)I" } : MethodName) ∈ tb := ms_ 521 rfl rfl
set_option maxRecDepth 100000 in
theorem mm_522 : Cond.code ({ cls := "PlainLibraryModel", name := "most", desc := "(I)I" } : MethodName) prog_5_method_28_code 2 (Option.some FieldType.int) ∈ tb := ms_ 522 rfl rfl
set_option maxRecDepth 100000 in
theorem mm_523 : Cond.methodLink "PlainLibraryLaw" 77 ({ cls := "PlainLibraryModel", name := "least", desc := "()I" } : MethodName) ∈ tb := ms_ 523 rfl rfl
set_option maxRecDepth 100000 in
theorem mm_524 : Cond.instanceMethod ({ cls := "PlainLibraryModel", name := "least", desc := "()I" } : MethodName) ∈ tb := ms_ 524 rfl rfl
set_option maxRecDepth 100000 in
theorem mm_525 : Cond.selects "PlainLibraryModel" ({ cls := "PlainLibraryModel", name := "least", desc := "()I" } : MethodName) ({ cls := "PlainLibraryModel", name := "least", desc := "()I" } : MethodName) ∈ tb := ms_ 525 rfl rfl
set_option maxRecDepth 100000 in
theorem mm_526 : Cond.code ({ cls := "PlainLibraryModel", name := "least", desc := "()I" } : MethodName) prog_5_method_29_code 5 (Option.some FieldType.int) ∈ tb := ms_ 526 rfl rfl
set_option maxRecDepth 100000 in
theorem mm_527 : Cond.constantLong "PlainLibraryLaw" 13 4294967295 ∈ tb := ms_ 527 rfl rfl
end
section
theorem d_R_init_0 : decode prog_2_method_1_code 0 = .ok (.aload_n 0, 1) := by decide +kernel
theorem d_R_init_1 : decode prog_2_method_1_code 1 = .ok (.invokespecial 3, 3) := by decide +kernel
theorem d_R_init_4 : decode prog_2_method_1_code 4 = .ok (.aload_n 0, 1) := by decide +kernel
theorem d_R_init_5 : decode prog_2_method_1_code 5 = .ok (.sipush 200, 3) := by decide +kernel
theorem d_R_init_8 : decode prog_2_method_1_code 8 = .ok (.newarray .int, 2) := by decide +kernel
theorem d_R_init_10 : decode prog_2_method_1_code 10 = .ok (.putfield 9, 3) := by decide +kernel
theorem d_R_init_13 : decode prog_2_method_1_code 13 = .ok (.aload_n 0, 1) := by decide +kernel
theorem d_R_init_14 : decode prog_2_method_1_code 14 = .ok (.sipush 200, 3) := by decide +kernel
theorem d_R_init_17 : decode prog_2_method_1_code 17 = .ok (.newarray .int, 2) := by decide +kernel
theorem d_R_init_19 : decode prog_2_method_1_code 19 = .ok (.putfield 15, 3) := by decide +kernel
theorem d_R_init_22 : decode prog_2_method_1_code 22 = .ok (.aload_n 0, 1) := by decide +kernel
theorem d_R_init_23 : decode prog_2_method_1_code 23 = .ok (.sipush 200, 3) := by decide +kernel
theorem d_R_init_26 : decode prog_2_method_1_code 26 = .ok (.newarray .int, 2) := by decide +kernel
theorem d_R_init_28 : decode prog_2_method_1_code 28 = .ok (.putfield 18, 3) := by decide +kernel
theorem d_R_init_31 : decode prog_2_method_1_code 31 = .ok (.aload_n 0, 1) := by decide +kernel
theorem d_R_init_32 : decode prog_2_method_1_code 32 = .ok (.sipush 200, 3) := by decide +kernel
theorem d_R_init_35 : decode prog_2_method_1_code 35 = .ok (.newarray .long, 2) := by decide +kernel
theorem d_R_init_37 : decode prog_2_method_1_code 37 = .ok (.putfield 21, 3) := by decide +kernel
theorem d_R_init_40 : decode prog_2_method_1_code 40 = .ok (.aload_n 0, 1) := by decide +kernel
theorem d_R_init_41 : decode prog_2_method_1_code 41 = .ok (.iconst 0, 1) := by decide +kernel
theorem d_R_init_42 : decode prog_2_method_1_code 42 = .ok (.putfield 25, 3) := by decide +kernel
theorem d_R_init_45 : decode prog_2_method_1_code 45 = .ok (.return_, 1) := by decide +kernel
theorem d_S_init_0 : decode prog_3_method_1_code 0 = .ok (.aload_n 0, 1) := by decide +kernel
theorem d_S_init_1 : decode prog_3_method_1_code 1 = .ok (.invokespecial 3, 3) := by decide +kernel
theorem d_S_init_4 : decode prog_3_method_1_code 4 = .ok (.aload_n 0, 1) := by decide +kernel
theorem d_S_init_5 : decode prog_3_method_1_code 5 = .ok (.bipush 42, 2) := by decide +kernel
theorem d_S_init_7 : decode prog_3_method_1_code 7 = .ok (.newarray .long, 2) := by decide +kernel
theorem d_S_init_9 : decode prog_3_method_1_code 9 = .ok (.putfield 11, 3) := by decide +kernel
theorem d_S_init_12 : decode prog_3_method_1_code 12 = .ok (.aload_n 0, 1) := by decide +kernel
theorem d_S_init_13 : decode prog_3_method_1_code 13 = .ok (.bipush 21, 2) := by decide +kernel
theorem d_S_init_15 : decode prog_3_method_1_code 15 = .ok (.newarray .int, 2) := by decide +kernel
theorem d_S_init_17 : decode prog_3_method_1_code 17 = .ok (.putfield 15, 3) := by decide +kernel
theorem d_S_init_20 : decode prog_3_method_1_code 20 = .ok (.aload_n 0, 1) := by decide +kernel
theorem d_S_init_21 : decode prog_3_method_1_code 21 = .ok (.bipush 21, 2) := by decide +kernel
theorem d_S_init_23 : decode prog_3_method_1_code 23 = .ok (.newarray .int, 2) := by decide +kernel
theorem d_S_init_25 : decode prog_3_method_1_code 25 = .ok (.putfield 19, 3) := by decide +kernel
theorem d_S_init_28 : decode prog_3_method_1_code 28 = .ok (.aload_n 0, 1) := by decide +kernel
theorem d_S_init_29 : decode prog_3_method_1_code 29 = .ok (.bipush 21, 2) := by decide +kernel
theorem d_S_init_31 : decode prog_3_method_1_code 31 = .ok (.newarray .long, 2) := by decide +kernel
theorem d_S_init_33 : decode prog_3_method_1_code 33 = .ok (.putfield 22, 3) := by decide +kernel
theorem d_S_init_36 : decode prog_3_method_1_code 36 = .ok (.aload_n 0, 1) := by decide +kernel
theorem d_S_init_37 : decode prog_3_method_1_code 37 = .ok (.sipush 420, 3) := by decide +kernel
theorem d_S_init_40 : decode prog_3_method_1_code 40 = .ok (.newarray .int, 2) := by decide +kernel
theorem d_S_init_42 : decode prog_3_method_1_code 42 = .ok (.putfield 25, 3) := by decide +kernel
theorem d_S_init_45 : decode prog_3_method_1_code 45 = .ok (.aload_n 0, 1) := by decide +kernel
theorem d_S_init_46 : decode prog_3_method_1_code 46 = .ok (.bipush 21, 2) := by decide +kernel
theorem d_S_init_48 : decode prog_3_method_1_code 48 = .ok (.newarray .int, 2) := by decide +kernel
theorem d_S_init_50 : decode prog_3_method_1_code 50 = .ok (.putfield 28, 3) := by decide +kernel
theorem d_S_init_53 : decode prog_3_method_1_code 53 = .ok (.aload_n 0, 1) := by decide +kernel
theorem d_S_init_54 : decode prog_3_method_1_code 54 = .ok (.bipush 21, 2) := by decide +kernel
theorem d_S_init_56 : decode prog_3_method_1_code 56 = .ok (.newarray .int, 2) := by decide +kernel
theorem d_S_init_58 : decode prog_3_method_1_code 58 = .ok (.putfield 31, 3) := by decide +kernel
theorem d_S_init_61 : decode prog_3_method_1_code 61 = .ok (.aload_n 0, 1) := by decide +kernel
theorem d_S_init_62 : decode prog_3_method_1_code 62 = .ok (.bipush 10, 2) := by decide +kernel
theorem d_S_init_64 : decode prog_3_method_1_code 64 = .ok (.newarray .int, 2) := by decide +kernel
theorem d_S_init_66 : decode prog_3_method_1_code 66 = .ok (.putfield 34, 3) := by decide +kernel
theorem d_S_init_69 : decode prog_3_method_1_code 69 = .ok (.aload_n 0, 1) := by decide +kernel
theorem d_S_init_70 : decode prog_3_method_1_code 70 = .ok (.bipush 126, 2) := by decide +kernel
theorem d_S_init_72 : decode prog_3_method_1_code 72 = .ok (.newarray .int, 2) := by decide +kernel
theorem d_S_init_74 : decode prog_3_method_1_code 74 = .ok (.putfield 37, 3) := by decide +kernel
theorem d_S_init_77 : decode prog_3_method_1_code 77 = .ok (.return_, 1) := by decide +kernel
theorem d_R_placeFor_0 : decode prog_2_method_7_code 0 = .ok (.aload_n 0, 1) := by decide +kernel
theorem d_R_placeFor_1 : decode prog_2_method_7_code 1 = .ok (.getfield 25, 3) := by decide +kernel
theorem d_R_placeFor_4 : decode prog_2_method_7_code 4 = .ok (.istore_n 3, 1) := by decide +kernel
theorem d_R_placeFor_5 : decode prog_2_method_7_code 5 = .ok (.iload_n 3, 1) := by decide +kernel
theorem d_R_placeFor_6 : decode prog_2_method_7_code 6 = .ok (.ifCond .le 22, 3) := by decide +kernel
theorem d_R_placeFor_9 : decode prog_2_method_7_code 9 = .ok (.aload_n 0, 1) := by decide +kernel
theorem d_R_placeFor_10 : decode prog_2_method_7_code 10 = .ok (.getfield 21, 3) := by decide +kernel
theorem d_R_placeFor_13 : decode prog_2_method_7_code 13 = .ok (.iload_n 3, 1) := by decide +kernel
theorem d_R_placeFor_14 : decode prog_2_method_7_code 14 = .ok (.iconst 1, 1) := by decide +kernel
theorem d_R_placeFor_15 : decode prog_2_method_7_code 15 = .ok (.isub, 1) := by decide +kernel
theorem d_R_placeFor_16 : decode prog_2_method_7_code 16 = .ok (.laload, 1) := by decide +kernel
theorem d_R_placeFor_17 : decode prog_2_method_7_code 17 = .ok (.lload_n 1, 1) := by decide +kernel
theorem d_R_placeFor_18 : decode prog_2_method_7_code 18 = .ok (.lcmp, 1) := by decide +kernel
theorem d_R_placeFor_19 : decode prog_2_method_7_code 19 = .ok (.ifCond .le 9, 3) := by decide +kernel
theorem d_R_placeFor_22 : decode prog_2_method_7_code 22 = .ok (.iinc 3 (-1), 3) := by decide +kernel
theorem d_R_placeFor_25 : decode prog_2_method_7_code 25 = .ok (.goto (-20), 3) := by decide +kernel
theorem d_R_placeFor_28 : decode prog_2_method_7_code 28 = .ok (.iload_n 3, 1) := by decide +kernel
theorem d_R_placeFor_29 : decode prog_2_method_7_code 29 = .ok (.ireturn, 1) := by decide +kernel
theorem d_R_insert_0 : decode prog_2_method_6_code 0 = .ok (.aload_n 0, 1) := by decide +kernel
theorem d_R_insert_1 : decode prog_2_method_6_code 1 = .ok (.getfield 25, 3) := by decide +kernel
theorem d_R_insert_4 : decode prog_2_method_6_code 4 = .ok (.sipush 200, 3) := by decide +kernel
theorem d_R_insert_7 : decode prog_2_method_6_code 7 = .ok (.if_icmp .lt 5, 3) := by decide +kernel
theorem d_R_insert_10 : decode prog_2_method_6_code 10 = .ok (.iconst 0, 1) := by decide +kernel
theorem d_R_insert_11 : decode prog_2_method_6_code 11 = .ok (.ireturn, 1) := by decide +kernel
theorem d_R_insert_12 : decode prog_2_method_6_code 12 = .ok (.aload_n 0, 1) := by decide +kernel
theorem d_R_insert_13 : decode prog_2_method_6_code 13 = .ok (.lload 4, 2) := by decide +kernel
theorem d_R_insert_15 : decode prog_2_method_6_code 15 = .ok (.invokevirtual 35, 3) := by decide +kernel
theorem d_R_insert_18 : decode prog_2_method_6_code 18 = .ok (.istore 6, 2) := by decide +kernel
theorem d_R_insert_20 : decode prog_2_method_6_code 20 = .ok (.aload_n 0, 1) := by decide +kernel
theorem d_R_insert_21 : decode prog_2_method_6_code 21 = .ok (.getfield 25, 3) := by decide +kernel
theorem d_R_insert_24 : decode prog_2_method_6_code 24 = .ok (.iload 6, 2) := by decide +kernel
theorem d_R_insert_26 : decode prog_2_method_6_code 26 = .ok (.isub, 1) := by decide +kernel
theorem d_R_insert_27 : decode prog_2_method_6_code 27 = .ok (.istore 7, 2) := by decide +kernel
theorem d_R_insert_29 : decode prog_2_method_6_code 29 = .ok (.aload_n 0, 1) := by decide +kernel
theorem d_R_insert_30 : decode prog_2_method_6_code 30 = .ok (.getfield 9, 3) := by decide +kernel
theorem d_R_insert_33 : decode prog_2_method_6_code 33 = .ok (.iload 6, 2) := by decide +kernel
theorem d_R_insert_35 : decode prog_2_method_6_code 35 = .ok (.aload_n 0, 1) := by decide +kernel
theorem d_R_insert_36 : decode prog_2_method_6_code 36 = .ok (.getfield 9, 3) := by decide +kernel
theorem d_R_insert_39 : decode prog_2_method_6_code 39 = .ok (.iload 6, 2) := by decide +kernel
theorem d_R_insert_41 : decode prog_2_method_6_code 41 = .ok (.iconst 1, 1) := by decide +kernel
theorem d_R_insert_42 : decode prog_2_method_6_code 42 = .ok (.iadd, 1) := by decide +kernel
theorem d_R_insert_43 : decode prog_2_method_6_code 43 = .ok (.iload 7, 2) := by decide +kernel
theorem d_R_insert_45 : decode prog_2_method_6_code 45 = .ok (.invokestatic 39, 3) := by decide +kernel
theorem d_R_insert_48 : decode prog_2_method_6_code 48 = .ok (.aload_n 0, 1) := by decide +kernel
theorem d_R_insert_49 : decode prog_2_method_6_code 49 = .ok (.getfield 15, 3) := by decide +kernel
theorem d_R_insert_52 : decode prog_2_method_6_code 52 = .ok (.iload 6, 2) := by decide +kernel
theorem d_R_insert_54 : decode prog_2_method_6_code 54 = .ok (.aload_n 0, 1) := by decide +kernel
theorem d_R_insert_55 : decode prog_2_method_6_code 55 = .ok (.getfield 15, 3) := by decide +kernel
theorem d_R_insert_58 : decode prog_2_method_6_code 58 = .ok (.iload 6, 2) := by decide +kernel
theorem d_R_insert_60 : decode prog_2_method_6_code 60 = .ok (.iconst 1, 1) := by decide +kernel
theorem d_R_insert_61 : decode prog_2_method_6_code 61 = .ok (.iadd, 1) := by decide +kernel
theorem d_R_insert_62 : decode prog_2_method_6_code 62 = .ok (.iload 7, 2) := by decide +kernel
theorem d_R_insert_64 : decode prog_2_method_6_code 64 = .ok (.invokestatic 39, 3) := by decide +kernel
theorem d_R_insert_67 : decode prog_2_method_6_code 67 = .ok (.aload_n 0, 1) := by decide +kernel
theorem d_R_insert_68 : decode prog_2_method_6_code 68 = .ok (.getfield 18, 3) := by decide +kernel
theorem d_R_insert_71 : decode prog_2_method_6_code 71 = .ok (.iload 6, 2) := by decide +kernel
theorem d_R_insert_73 : decode prog_2_method_6_code 73 = .ok (.aload_n 0, 1) := by decide +kernel
theorem d_R_insert_74 : decode prog_2_method_6_code 74 = .ok (.getfield 18, 3) := by decide +kernel
theorem d_R_insert_77 : decode prog_2_method_6_code 77 = .ok (.iload 6, 2) := by decide +kernel
theorem d_R_insert_79 : decode prog_2_method_6_code 79 = .ok (.iconst 1, 1) := by decide +kernel
theorem d_R_insert_80 : decode prog_2_method_6_code 80 = .ok (.iadd, 1) := by decide +kernel
theorem d_R_insert_81 : decode prog_2_method_6_code 81 = .ok (.iload 7, 2) := by decide +kernel
theorem d_R_insert_83 : decode prog_2_method_6_code 83 = .ok (.invokestatic 39, 3) := by decide +kernel
theorem d_R_insert_86 : decode prog_2_method_6_code 86 = .ok (.aload_n 0, 1) := by decide +kernel
theorem d_R_insert_87 : decode prog_2_method_6_code 87 = .ok (.getfield 21, 3) := by decide +kernel
theorem d_R_insert_90 : decode prog_2_method_6_code 90 = .ok (.iload 6, 2) := by decide +kernel
theorem d_R_insert_92 : decode prog_2_method_6_code 92 = .ok (.aload_n 0, 1) := by decide +kernel
theorem d_R_insert_93 : decode prog_2_method_6_code 93 = .ok (.getfield 21, 3) := by decide +kernel
theorem d_R_insert_96 : decode prog_2_method_6_code 96 = .ok (.iload 6, 2) := by decide +kernel
theorem d_R_insert_98 : decode prog_2_method_6_code 98 = .ok (.iconst 1, 1) := by decide +kernel
theorem d_R_insert_99 : decode prog_2_method_6_code 99 = .ok (.iadd, 1) := by decide +kernel
theorem d_R_insert_100 : decode prog_2_method_6_code 100 = .ok (.iload 7, 2) := by decide +kernel
theorem d_R_insert_102 : decode prog_2_method_6_code 102 = .ok (.invokestatic 39, 3) := by decide +kernel
theorem d_R_insert_105 : decode prog_2_method_6_code 105 = .ok (.aload_n 0, 1) := by decide +kernel
theorem d_R_insert_106 : decode prog_2_method_6_code 106 = .ok (.getfield 9, 3) := by decide +kernel
theorem d_R_insert_109 : decode prog_2_method_6_code 109 = .ok (.iload 6, 2) := by decide +kernel
theorem d_R_insert_111 : decode prog_2_method_6_code 111 = .ok (.iload_n 1, 1) := by decide +kernel
theorem d_R_insert_112 : decode prog_2_method_6_code 112 = .ok (.iastore, 1) := by decide +kernel
theorem d_R_insert_113 : decode prog_2_method_6_code 113 = .ok (.aload_n 0, 1) := by decide +kernel
theorem d_R_insert_114 : decode prog_2_method_6_code 114 = .ok (.getfield 15, 3) := by decide +kernel
theorem d_R_insert_117 : decode prog_2_method_6_code 117 = .ok (.iload 6, 2) := by decide +kernel
theorem d_R_insert_119 : decode prog_2_method_6_code 119 = .ok (.iload_n 2, 1) := by decide +kernel
theorem d_R_insert_120 : decode prog_2_method_6_code 120 = .ok (.iastore, 1) := by decide +kernel
theorem d_R_insert_121 : decode prog_2_method_6_code 121 = .ok (.aload_n 0, 1) := by decide +kernel
theorem d_R_insert_122 : decode prog_2_method_6_code 122 = .ok (.getfield 18, 3) := by decide +kernel
theorem d_R_insert_125 : decode prog_2_method_6_code 125 = .ok (.iload 6, 2) := by decide +kernel
theorem d_R_insert_127 : decode prog_2_method_6_code 127 = .ok (.iload_n 3, 1) := by decide +kernel
theorem d_R_insert_128 : decode prog_2_method_6_code 128 = .ok (.iastore, 1) := by decide +kernel
theorem d_R_insert_129 : decode prog_2_method_6_code 129 = .ok (.aload_n 0, 1) := by decide +kernel
theorem d_R_insert_130 : decode prog_2_method_6_code 130 = .ok (.getfield 21, 3) := by decide +kernel
theorem d_R_insert_133 : decode prog_2_method_6_code 133 = .ok (.iload 6, 2) := by decide +kernel
theorem d_R_insert_135 : decode prog_2_method_6_code 135 = .ok (.lload 4, 2) := by decide +kernel
theorem d_R_insert_137 : decode prog_2_method_6_code 137 = .ok (.lastore, 1) := by decide +kernel
theorem d_R_insert_138 : decode prog_2_method_6_code 138 = .ok (.aload_n 0, 1) := by decide +kernel
theorem d_R_insert_139 : decode prog_2_method_6_code 139 = .ok (.dup, 1) := by decide +kernel
theorem d_R_insert_140 : decode prog_2_method_6_code 140 = .ok (.getfield 25, 3) := by decide +kernel
theorem d_R_insert_143 : decode prog_2_method_6_code 143 = .ok (.iconst 1, 1) := by decide +kernel
theorem d_R_insert_144 : decode prog_2_method_6_code 144 = .ok (.iadd, 1) := by decide +kernel
theorem d_R_insert_145 : decode prog_2_method_6_code 145 = .ok (.putfield 25, 3) := by decide +kernel
theorem d_R_insert_148 : decode prog_2_method_6_code 148 = .ok (.iconst 1, 1) := by decide +kernel
theorem d_R_insert_149 : decode prog_2_method_6_code 149 = .ok (.ireturn, 1) := by decide +kernel
theorem d_R_size_0 : decode prog_2_method_2_code 0 = .ok (.aload_n 0, 1) := by decide +kernel
theorem d_R_size_1 : decode prog_2_method_2_code 1 = .ok (.getfield 25, 3) := by decide +kernel
theorem d_R_size_4 : decode prog_2_method_2_code 4 = .ok (.ireturn, 1) := by decide +kernel
theorem d_J_fillJ_0 : decode prog_8_method_101_code 0 = .ok (.iconst 0, 1) := by decide +kernel
theorem d_J_fillJ_1 : decode prog_8_method_101_code 1 = .ok (.istore_n 3, 1) := by decide +kernel
theorem d_J_fillJ_2 : decode prog_8_method_101_code 2 = .ok (.aload_n 0, 1) := by decide +kernel
theorem d_J_fillJ_3 : decode prog_8_method_101_code 3 = .ok (.arraylength, 1) := by decide +kernel
theorem d_J_fillJ_4 : decode prog_8_method_101_code 4 = .ok (.istore 4, 2) := by decide +kernel
theorem d_J_fillJ_6 : decode prog_8_method_101_code 6 = .ok (.iload_n 3, 1) := by decide +kernel
theorem d_J_fillJ_7 : decode prog_8_method_101_code 7 = .ok (.iload 4, 2) := by decide +kernel
theorem d_J_fillJ_9 : decode prog_8_method_101_code 9 = .ok (.if_icmp .ge 13, 3) := by decide +kernel
theorem d_J_fillJ_12 : decode prog_8_method_101_code 12 = .ok (.aload_n 0, 1) := by decide +kernel
theorem d_J_fillJ_13 : decode prog_8_method_101_code 13 = .ok (.iload_n 3, 1) := by decide +kernel
theorem d_J_fillJ_14 : decode prog_8_method_101_code 14 = .ok (.lload_n 1, 1) := by decide +kernel
theorem d_J_fillJ_15 : decode prog_8_method_101_code 15 = .ok (.lastore, 1) := by decide +kernel
theorem d_J_fillJ_16 : decode prog_8_method_101_code 16 = .ok (.iinc 3 1, 3) := by decide +kernel
theorem d_J_fillJ_19 : decode prog_8_method_101_code 19 = .ok (.goto (-13), 3) := by decide +kernel
theorem d_J_fillJ_22 : decode prog_8_method_101_code 22 = .ok (.return_, 1) := by decide +kernel
theorem d_J_fillI_0 : decode prog_8_method_103_code 0 = .ok (.iconst 0, 1) := by decide +kernel
theorem d_J_fillI_1 : decode prog_8_method_103_code 1 = .ok (.istore_n 2, 1) := by decide +kernel
theorem d_J_fillI_2 : decode prog_8_method_103_code 2 = .ok (.aload_n 0, 1) := by decide +kernel
theorem d_J_fillI_3 : decode prog_8_method_103_code 3 = .ok (.arraylength, 1) := by decide +kernel
theorem d_J_fillI_4 : decode prog_8_method_103_code 4 = .ok (.istore_n 3, 1) := by decide +kernel
theorem d_J_fillI_5 : decode prog_8_method_103_code 5 = .ok (.iload_n 2, 1) := by decide +kernel
theorem d_J_fillI_6 : decode prog_8_method_103_code 6 = .ok (.iload_n 3, 1) := by decide +kernel
theorem d_J_fillI_7 : decode prog_8_method_103_code 7 = .ok (.if_icmp .ge 13, 3) := by decide +kernel
theorem d_J_fillI_10 : decode prog_8_method_103_code 10 = .ok (.aload_n 0, 1) := by decide +kernel
theorem d_J_fillI_11 : decode prog_8_method_103_code 11 = .ok (.iload_n 2, 1) := by decide +kernel
theorem d_J_fillI_12 : decode prog_8_method_103_code 12 = .ok (.iload_n 1, 1) := by decide +kernel
theorem d_J_fillI_13 : decode prog_8_method_103_code 13 = .ok (.iastore, 1) := by decide +kernel
theorem d_J_fillI_14 : decode prog_8_method_103_code 14 = .ok (.iinc 2 1, 3) := by decide +kernel
theorem d_J_fillI_17 : decode prog_8_method_103_code 17 = .ok (.goto (-12), 3) := by decide +kernel
theorem d_J_fillI_20 : decode prog_8_method_103_code 20 = .ok (.return_, 1) := by decide +kernel
theorem d_S_clear_0 : decode prog_3_method_2_code 0 = .ok (.aload_n 0, 1) := by decide +kernel
theorem d_S_clear_1 : decode prog_3_method_2_code 1 = .ok (.getfield 11, 3) := by decide +kernel
theorem d_S_clear_4 : decode prog_3_method_2_code 4 = .ok (.lconst 0, 1) := by decide +kernel
theorem d_S_clear_5 : decode prog_3_method_2_code 5 = .ok (.invokestatic 40, 3) := by decide +kernel
theorem d_S_clear_8 : decode prog_3_method_2_code 8 = .ok (.aload_n 0, 1) := by decide +kernel
theorem d_S_clear_9 : decode prog_3_method_2_code 9 = .ok (.getfield 15, 3) := by decide +kernel
theorem d_S_clear_12 : decode prog_3_method_2_code 12 = .ok (.iconst 0, 1) := by decide +kernel
theorem d_S_clear_13 : decode prog_3_method_2_code 13 = .ok (.invokestatic 46, 3) := by decide +kernel
theorem d_S_clear_16 : decode prog_3_method_2_code 16 = .ok (.aload_n 0, 1) := by decide +kernel
theorem d_S_clear_17 : decode prog_3_method_2_code 17 = .ok (.getfield 19, 3) := by decide +kernel
theorem d_S_clear_20 : decode prog_3_method_2_code 20 = .ok (.iconst 0, 1) := by decide +kernel
theorem d_S_clear_21 : decode prog_3_method_2_code 21 = .ok (.invokestatic 46, 3) := by decide +kernel
theorem d_S_clear_24 : decode prog_3_method_2_code 24 = .ok (.aload_n 0, 1) := by decide +kernel
theorem d_S_clear_25 : decode prog_3_method_2_code 25 = .ok (.getfield 28, 3) := by decide +kernel
theorem d_S_clear_28 : decode prog_3_method_2_code 28 = .ok (.iconst 0, 1) := by decide +kernel
theorem d_S_clear_29 : decode prog_3_method_2_code 29 = .ok (.invokestatic 46, 3) := by decide +kernel
theorem d_S_clear_32 : decode prog_3_method_2_code 32 = .ok (.aload_n 0, 1) := by decide +kernel
theorem d_S_clear_33 : decode prog_3_method_2_code 33 = .ok (.getfield 31, 3) := by decide +kernel
theorem d_S_clear_36 : decode prog_3_method_2_code 36 = .ok (.iconst 0, 1) := by decide +kernel
theorem d_S_clear_37 : decode prog_3_method_2_code 37 = .ok (.invokestatic 46, 3) := by decide +kernel
theorem d_S_clear_40 : decode prog_3_method_2_code 40 = .ok (.aload_n 0, 1) := by decide +kernel
theorem d_S_clear_41 : decode prog_3_method_2_code 41 = .ok (.getfield 34, 3) := by decide +kernel
theorem d_S_clear_44 : decode prog_3_method_2_code 44 = .ok (.bipush 28, 2) := by decide +kernel
theorem d_S_clear_46 : decode prog_3_method_2_code 46 = .ok (.invokestatic 46, 3) := by decide +kernel
theorem d_S_clear_49 : decode prog_3_method_2_code 49 = .ok (.aload_n 0, 1) := by decide +kernel
theorem d_S_clear_50 : decode prog_3_method_2_code 50 = .ok (.getfield 37, 3) := by decide +kernel
theorem d_S_clear_53 : decode prog_3_method_2_code 53 = .ok (.iconst (-1), 1) := by decide +kernel
theorem d_S_clear_54 : decode prog_3_method_2_code 54 = .ok (.invokestatic 46, 3) := by decide +kernel
theorem d_S_clear_57 : decode prog_3_method_2_code 57 = .ok (.return_, 1) := by decide +kernel
theorem d_S_wordIndex_0 : decode prog_3_method_16_code 0 = .ok (.iload_n 0, 1) := by decide +kernel
theorem d_S_wordIndex_1 : decode prog_3_method_16_code 1 = .ok (.iconst 2, 1) := by decide +kernel
theorem d_S_wordIndex_2 : decode prog_3_method_16_code 2 = .ok (.imul, 1) := by decide +kernel
theorem d_S_wordIndex_3 : decode prog_3_method_16_code 3 = .ok (.iload_n 1, 1) := by decide +kernel
theorem d_S_wordIndex_4 : decode prog_3_method_16_code 4 = .ok (.bipush 64, 2) := by decide +kernel
theorem d_S_wordIndex_6 : decode prog_3_method_16_code 6 = .ok (.idiv, 1) := by decide +kernel
theorem d_S_wordIndex_7 : decode prog_3_method_16_code 7 = .ok (.iadd, 1) := by decide +kernel
theorem d_S_wordIndex_8 : decode prog_3_method_16_code 8 = .ok (.ireturn, 1) := by decide +kernel
theorem d_S_bitOf_0 : decode prog_3_method_17_code 0 = .ok (.lconst 1, 1) := by decide +kernel
theorem d_S_bitOf_1 : decode prog_3_method_17_code 1 = .ok (.iload_n 0, 1) := by decide +kernel
theorem d_S_bitOf_2 : decode prog_3_method_17_code 2 = .ok (.bipush 64, 2) := by decide +kernel
theorem d_S_bitOf_4 : decode prog_3_method_17_code 4 = .ok (.irem, 1) := by decide +kernel
theorem d_S_bitOf_5 : decode prog_3_method_17_code 5 = .ok (.lshl, 1) := by decide +kernel
theorem d_S_bitOf_6 : decode prog_3_method_17_code 6 = .ok (.lreturn, 1) := by decide +kernel
theorem d_S_hasHeading_0 : decode prog_3_method_9_code 0 = .ok (.aload_n 0, 1) := by decide +kernel
theorem d_S_hasHeading_1 : decode prog_3_method_9_code 1 = .ok (.getfield 11, 3) := by decide +kernel
theorem d_S_hasHeading_4 : decode prog_3_method_9_code 4 = .ok (.iload_n 1, 1) := by decide +kernel
theorem d_S_hasHeading_5 : decode prog_3_method_9_code 5 = .ok (.iload_n 2, 1) := by decide +kernel
theorem d_S_hasHeading_6 : decode prog_3_method_9_code 6 = .ok (.invokestatic 82, 3) := by decide +kernel
theorem d_S_hasHeading_9 : decode prog_3_method_9_code 9 = .ok (.laload, 1) := by decide +kernel
theorem d_S_hasHeading_10 : decode prog_3_method_9_code 10 = .ok (.iload_n 2, 1) := by decide +kernel
theorem d_S_hasHeading_11 : decode prog_3_method_9_code 11 = .ok (.invokestatic 85, 3) := by decide +kernel
theorem d_S_hasHeading_14 : decode prog_3_method_9_code 14 = .ok (.land, 1) := by decide +kernel
theorem d_S_hasHeading_15 : decode prog_3_method_9_code 15 = .ok (.lconst 0, 1) := by decide +kernel
theorem d_S_hasHeading_16 : decode prog_3_method_9_code 16 = .ok (.lcmp, 1) := by decide +kernel
theorem d_S_hasHeading_17 : decode prog_3_method_9_code 17 = .ok (.ifCond .eq 7, 3) := by decide +kernel
theorem d_S_hasHeading_20 : decode prog_3_method_9_code 20 = .ok (.iconst 1, 1) := by decide +kernel
theorem d_S_hasHeading_21 : decode prog_3_method_9_code 21 = .ok (.goto 4, 3) := by decide +kernel
theorem d_S_hasHeading_24 : decode prog_3_method_9_code 24 = .ok (.iconst 0, 1) := by decide +kernel
theorem d_S_hasHeading_25 : decode prog_3_method_9_code 25 = .ok (.ireturn, 1) := by decide +kernel
theorem d_S_addHeading_0 : decode prog_3_method_18_code 0 = .ok (.aload_n 0, 1) := by decide +kernel
theorem d_S_addHeading_1 : decode prog_3_method_18_code 1 = .ok (.iload_n 1, 1) := by decide +kernel
theorem d_S_addHeading_2 : decode prog_3_method_18_code 2 = .ok (.iload_n 2, 1) := by decide +kernel
theorem d_S_addHeading_3 : decode prog_3_method_18_code 3 = .ok (.invokevirtual 89, 3) := by decide +kernel
theorem d_S_addHeading_6 : decode prog_3_method_18_code 6 = .ok (.ifCond .eq 5, 3) := by decide +kernel
theorem d_S_addHeading_9 : decode prog_3_method_18_code 9 = .ok (.iconst 0, 1) := by decide +kernel
theorem d_S_addHeading_10 : decode prog_3_method_18_code 10 = .ok (.ireturn, 1) := by decide +kernel
theorem d_S_addHeading_11 : decode prog_3_method_18_code 11 = .ok (.aload_n 0, 1) := by decide +kernel
theorem d_S_addHeading_12 : decode prog_3_method_18_code 12 = .ok (.getfield 11, 3) := by decide +kernel
theorem d_S_addHeading_15 : decode prog_3_method_18_code 15 = .ok (.iload_n 1, 1) := by decide +kernel
theorem d_S_addHeading_16 : decode prog_3_method_18_code 16 = .ok (.iload_n 2, 1) := by decide +kernel
theorem d_S_addHeading_17 : decode prog_3_method_18_code 17 = .ok (.invokestatic 82, 3) := by decide +kernel
theorem d_S_addHeading_20 : decode prog_3_method_18_code 20 = .ok (.dup2, 1) := by decide +kernel
theorem d_S_addHeading_21 : decode prog_3_method_18_code 21 = .ok (.laload, 1) := by decide +kernel
theorem d_S_addHeading_22 : decode prog_3_method_18_code 22 = .ok (.iload_n 2, 1) := by decide +kernel
theorem d_S_addHeading_23 : decode prog_3_method_18_code 23 = .ok (.invokestatic 85, 3) := by decide +kernel
theorem d_S_addHeading_26 : decode prog_3_method_18_code 26 = .ok (.lor, 1) := by decide +kernel
theorem d_S_addHeading_27 : decode prog_3_method_18_code 27 = .ok (.lastore, 1) := by decide +kernel
theorem d_S_addHeading_28 : decode prog_3_method_18_code 28 = .ok (.iconst 1, 1) := by decide +kernel
theorem d_S_addHeading_29 : decode prog_3_method_18_code 29 = .ok (.ireturn, 1) := by decide +kernel
theorem d_S_dropHeading_0 : decode prog_3_method_19_code 0 = .ok (.aload_n 0, 1) := by decide +kernel
theorem d_S_dropHeading_1 : decode prog_3_method_19_code 1 = .ok (.iload_n 1, 1) := by decide +kernel
theorem d_S_dropHeading_2 : decode prog_3_method_19_code 2 = .ok (.iload_n 2, 1) := by decide +kernel
theorem d_S_dropHeading_3 : decode prog_3_method_19_code 3 = .ok (.invokevirtual 89, 3) := by decide +kernel
theorem d_S_dropHeading_6 : decode prog_3_method_19_code 6 = .ok (.ifCond .ne 5, 3) := by decide +kernel
theorem d_S_dropHeading_9 : decode prog_3_method_19_code 9 = .ok (.iconst 0, 1) := by decide +kernel
theorem d_S_dropHeading_10 : decode prog_3_method_19_code 10 = .ok (.ireturn, 1) := by decide +kernel
theorem d_S_dropHeading_11 : decode prog_3_method_19_code 11 = .ok (.aload_n 0, 1) := by decide +kernel
theorem d_S_dropHeading_12 : decode prog_3_method_19_code 12 = .ok (.getfield 11, 3) := by decide +kernel
theorem d_S_dropHeading_15 : decode prog_3_method_19_code 15 = .ok (.iload_n 1, 1) := by decide +kernel
theorem d_S_dropHeading_16 : decode prog_3_method_19_code 16 = .ok (.iload_n 2, 1) := by decide +kernel
theorem d_S_dropHeading_17 : decode prog_3_method_19_code 17 = .ok (.invokestatic 82, 3) := by decide +kernel
theorem d_S_dropHeading_20 : decode prog_3_method_19_code 20 = .ok (.dup2, 1) := by decide +kernel
theorem d_S_dropHeading_21 : decode prog_3_method_19_code 21 = .ok (.laload, 1) := by decide +kernel
theorem d_S_dropHeading_22 : decode prog_3_method_19_code 22 = .ok (.iload_n 2, 1) := by decide +kernel
theorem d_S_dropHeading_23 : decode prog_3_method_19_code 23 = .ok (.invokestatic 85, 3) := by decide +kernel
theorem d_S_dropHeading_26 : decode prog_3_method_19_code 26 = .ok (.ldc2_w 92, 3) := by decide +kernel
theorem d_S_dropHeading_29 : decode prog_3_method_19_code 29 = .ok (.lxor, 1) := by decide +kernel
theorem d_S_dropHeading_30 : decode prog_3_method_19_code 30 = .ok (.land, 1) := by decide +kernel
theorem d_S_dropHeading_31 : decode prog_3_method_19_code 31 = .ok (.lastore, 1) := by decide +kernel
theorem d_S_dropHeading_32 : decode prog_3_method_19_code 32 = .ok (.iconst 1, 1) := by decide +kernel
theorem d_S_dropHeading_33 : decode prog_3_method_19_code 33 = .ok (.ireturn, 1) := by decide +kernel
theorem d_S_setRecord_0 : decode prog_3_method_20_code 0 = .ok (.aload_n 0, 1) := by decide +kernel
theorem d_S_setRecord_1 : decode prog_3_method_20_code 1 = .ok (.getfield 19, 3) := by decide +kernel
theorem d_S_setRecord_4 : decode prog_3_method_20_code 4 = .ok (.iload_n 1, 1) := by decide +kernel
theorem d_S_setRecord_5 : decode prog_3_method_20_code 5 = .ok (.iaload, 1) := by decide +kernel
theorem d_S_setRecord_6 : decode prog_3_method_20_code 6 = .ok (.ifCond .eq 5, 3) := by decide +kernel
theorem d_S_setRecord_9 : decode prog_3_method_20_code 9 = .ok (.iconst 0, 1) := by decide +kernel
theorem d_S_setRecord_10 : decode prog_3_method_20_code 10 = .ok (.ireturn, 1) := by decide +kernel
theorem d_S_setRecord_11 : decode prog_3_method_20_code 11 = .ok (.aload_n 0, 1) := by decide +kernel
theorem d_S_setRecord_12 : decode prog_3_method_20_code 12 = .ok (.getfield 15, 3) := by decide +kernel
theorem d_S_setRecord_15 : decode prog_3_method_20_code 15 = .ok (.iload_n 1, 1) := by decide +kernel
theorem d_S_setRecord_16 : decode prog_3_method_20_code 16 = .ok (.iload_n 2, 1) := by decide +kernel
theorem d_S_setRecord_17 : decode prog_3_method_20_code 17 = .ok (.iastore, 1) := by decide +kernel
theorem d_S_setRecord_18 : decode prog_3_method_20_code 18 = .ok (.iconst 1, 1) := by decide +kernel
theorem d_S_setRecord_19 : decode prog_3_method_20_code 19 = .ok (.ireturn, 1) := by decide +kernel
theorem d_S_personAt_0 : decode prog_3_method_12_code 0 = .ok (.iload_n 2, 1) := by decide +kernel
theorem d_S_personAt_1 : decode prog_3_method_12_code 1 = .ok (.ifCond .lt 27, 3) := by decide +kernel
theorem d_S_personAt_4 : decode prog_3_method_12_code 4 = .ok (.iload_n 2, 1) := by decide +kernel
theorem d_S_personAt_5 : decode prog_3_method_12_code 5 = .ok (.aload_n 0, 1) := by decide +kernel
theorem d_S_personAt_6 : decode prog_3_method_12_code 6 = .ok (.getfield 28, 3) := by decide +kernel
theorem d_S_personAt_9 : decode prog_3_method_12_code 9 = .ok (.iload_n 1, 1) := by decide +kernel
theorem d_S_personAt_10 : decode prog_3_method_12_code 10 = .ok (.iaload, 1) := by decide +kernel
theorem d_S_personAt_11 : decode prog_3_method_12_code 11 = .ok (.if_icmp .ge 17, 3) := by decide +kernel
theorem d_S_personAt_14 : decode prog_3_method_12_code 14 = .ok (.aload_n 0, 1) := by decide +kernel
theorem d_S_personAt_15 : decode prog_3_method_12_code 15 = .ok (.getfield 25, 3) := by decide +kernel
theorem d_S_personAt_18 : decode prog_3_method_12_code 18 = .ok (.iload_n 1, 1) := by decide +kernel
theorem d_S_personAt_19 : decode prog_3_method_12_code 19 = .ok (.bipush 20, 2) := by decide +kernel
theorem d_S_personAt_21 : decode prog_3_method_12_code 21 = .ok (.imul, 1) := by decide +kernel
theorem d_S_personAt_22 : decode prog_3_method_12_code 22 = .ok (.iload_n 2, 1) := by decide +kernel
theorem d_S_personAt_23 : decode prog_3_method_12_code 23 = .ok (.iadd, 1) := by decide +kernel
theorem d_S_personAt_24 : decode prog_3_method_12_code 24 = .ok (.iaload, 1) := by decide +kernel
theorem d_S_personAt_25 : decode prog_3_method_12_code 25 = .ok (.goto 4, 3) := by decide +kernel
theorem d_S_personAt_28 : decode prog_3_method_12_code 28 = .ok (.iconst (-1), 1) := by decide +kernel
theorem d_S_personAt_29 : decode prog_3_method_12_code 29 = .ok (.ireturn, 1) := by decide +kernel
theorem d_S_placeInQueue_0 : decode prog_3_method_23_code 0 = .ok (.iconst 0, 1) := by decide +kernel
theorem d_S_placeInQueue_1 : decode prog_3_method_23_code 1 = .ok (.istore_n 3, 1) := by decide +kernel
theorem d_S_placeInQueue_2 : decode prog_3_method_23_code 2 = .ok (.iload_n 3, 1) := by decide +kernel
theorem d_S_placeInQueue_3 : decode prog_3_method_23_code 3 = .ok (.aload_n 0, 1) := by decide +kernel
theorem d_S_placeInQueue_4 : decode prog_3_method_23_code 4 = .ok (.getfield 28, 3) := by decide +kernel
theorem d_S_placeInQueue_7 : decode prog_3_method_23_code 7 = .ok (.iload_n 1, 1) := by decide +kernel
theorem d_S_placeInQueue_8 : decode prog_3_method_23_code 8 = .ok (.iaload, 1) := by decide +kernel
theorem d_S_placeInQueue_9 : decode prog_3_method_23_code 9 = .ok (.if_icmp .ge 26, 3) := by decide +kernel
theorem d_S_placeInQueue_12 : decode prog_3_method_23_code 12 = .ok (.aload_n 0, 1) := by decide +kernel
theorem d_S_placeInQueue_13 : decode prog_3_method_23_code 13 = .ok (.getfield 25, 3) := by decide +kernel
theorem d_S_placeInQueue_16 : decode prog_3_method_23_code 16 = .ok (.iload_n 1, 1) := by decide +kernel
theorem d_S_placeInQueue_17 : decode prog_3_method_23_code 17 = .ok (.bipush 20, 2) := by decide +kernel
theorem d_S_placeInQueue_19 : decode prog_3_method_23_code 19 = .ok (.imul, 1) := by decide +kernel
theorem d_S_placeInQueue_20 : decode prog_3_method_23_code 20 = .ok (.iload_n 3, 1) := by decide +kernel
theorem d_S_placeInQueue_21 : decode prog_3_method_23_code 21 = .ok (.iadd, 1) := by decide +kernel
theorem d_S_placeInQueue_22 : decode prog_3_method_23_code 22 = .ok (.iaload, 1) := by decide +kernel
theorem d_S_placeInQueue_23 : decode prog_3_method_23_code 23 = .ok (.iload_n 2, 1) := by decide +kernel
theorem d_S_placeInQueue_24 : decode prog_3_method_23_code 24 = .ok (.if_icmp .ne 5, 3) := by decide +kernel
theorem d_S_placeInQueue_27 : decode prog_3_method_23_code 27 = .ok (.iload_n 3, 1) := by decide +kernel
theorem d_S_placeInQueue_28 : decode prog_3_method_23_code 28 = .ok (.ireturn, 1) := by decide +kernel
theorem d_S_placeInQueue_29 : decode prog_3_method_23_code 29 = .ok (.iinc 3 1, 3) := by decide +kernel
theorem d_S_placeInQueue_32 : decode prog_3_method_23_code 32 = .ok (.goto (-30), 3) := by decide +kernel
theorem d_S_placeInQueue_35 : decode prog_3_method_23_code 35 = .ok (.iconst (-1), 1) := by decide +kernel
theorem d_S_placeInQueue_36 : decode prog_3_method_23_code 36 = .ok (.ireturn, 1) := by decide +kernel
theorem d_S_leaveQueue_0 : decode prog_3_method_25_code 0 = .ok (.aload_n 0, 1) := by decide +kernel
theorem d_S_leaveQueue_1 : decode prog_3_method_25_code 1 = .ok (.iload_n 1, 1) := by decide +kernel
theorem d_S_leaveQueue_2 : decode prog_3_method_25_code 2 = .ok (.iload_n 2, 1) := by decide +kernel
theorem d_S_leaveQueue_3 : decode prog_3_method_25_code 3 = .ok (.invokevirtual 100, 3) := by decide +kernel
theorem d_S_leaveQueue_6 : decode prog_3_method_25_code 6 = .ok (.istore_n 3, 1) := by decide +kernel
theorem d_S_leaveQueue_7 : decode prog_3_method_25_code 7 = .ok (.iload_n 3, 1) := by decide +kernel
theorem d_S_leaveQueue_8 : decode prog_3_method_25_code 8 = .ok (.iconst (-1), 1) := by decide +kernel
theorem d_S_leaveQueue_9 : decode prog_3_method_25_code 9 = .ok (.if_icmp .ne 5, 3) := by decide +kernel
theorem d_S_leaveQueue_12 : decode prog_3_method_25_code 12 = .ok (.iconst 0, 1) := by decide +kernel
theorem d_S_leaveQueue_13 : decode prog_3_method_25_code 13 = .ok (.ireturn, 1) := by decide +kernel
theorem d_S_leaveQueue_14 : decode prog_3_method_25_code 14 = .ok (.iload_n 1, 1) := by decide +kernel
theorem d_S_leaveQueue_15 : decode prog_3_method_25_code 15 = .ok (.bipush 20, 2) := by decide +kernel
theorem d_S_leaveQueue_17 : decode prog_3_method_25_code 17 = .ok (.imul, 1) := by decide +kernel
theorem d_S_leaveQueue_18 : decode prog_3_method_25_code 18 = .ok (.iload_n 3, 1) := by decide +kernel
theorem d_S_leaveQueue_19 : decode prog_3_method_25_code 19 = .ok (.iadd, 1) := by decide +kernel
theorem d_S_leaveQueue_20 : decode prog_3_method_25_code 20 = .ok (.istore 4, 2) := by decide +kernel
theorem d_S_leaveQueue_22 : decode prog_3_method_25_code 22 = .ok (.aload_n 0, 1) := by decide +kernel
theorem d_S_leaveQueue_23 : decode prog_3_method_25_code 23 = .ok (.getfield 25, 3) := by decide +kernel
theorem d_S_leaveQueue_26 : decode prog_3_method_25_code 26 = .ok (.iload 4, 2) := by decide +kernel
theorem d_S_leaveQueue_28 : decode prog_3_method_25_code 28 = .ok (.iconst 1, 1) := by decide +kernel
theorem d_S_leaveQueue_29 : decode prog_3_method_25_code 29 = .ok (.iadd, 1) := by decide +kernel
theorem d_S_leaveQueue_30 : decode prog_3_method_25_code 30 = .ok (.aload_n 0, 1) := by decide +kernel
theorem d_S_leaveQueue_31 : decode prog_3_method_25_code 31 = .ok (.getfield 25, 3) := by decide +kernel
theorem d_S_leaveQueue_34 : decode prog_3_method_25_code 34 = .ok (.iload 4, 2) := by decide +kernel
theorem d_S_leaveQueue_36 : decode prog_3_method_25_code 36 = .ok (.aload_n 0, 1) := by decide +kernel
theorem d_S_leaveQueue_37 : decode prog_3_method_25_code 37 = .ok (.getfield 28, 3) := by decide +kernel
theorem d_S_leaveQueue_40 : decode prog_3_method_25_code 40 = .ok (.iload_n 1, 1) := by decide +kernel
theorem d_S_leaveQueue_41 : decode prog_3_method_25_code 41 = .ok (.iaload, 1) := by decide +kernel
theorem d_S_leaveQueue_42 : decode prog_3_method_25_code 42 = .ok (.iload_n 3, 1) := by decide +kernel
theorem d_S_leaveQueue_43 : decode prog_3_method_25_code 43 = .ok (.isub, 1) := by decide +kernel
theorem d_S_leaveQueue_44 : decode prog_3_method_25_code 44 = .ok (.iconst 1, 1) := by decide +kernel
theorem d_S_leaveQueue_45 : decode prog_3_method_25_code 45 = .ok (.isub, 1) := by decide +kernel
theorem d_S_leaveQueue_46 : decode prog_3_method_25_code 46 = .ok (.invokestatic 103, 3) := by decide +kernel
theorem d_S_leaveQueue_49 : decode prog_3_method_25_code 49 = .ok (.aload_n 0, 1) := by decide +kernel
theorem d_S_leaveQueue_50 : decode prog_3_method_25_code 50 = .ok (.getfield 28, 3) := by decide +kernel
theorem d_S_leaveQueue_53 : decode prog_3_method_25_code 53 = .ok (.iload_n 1, 1) := by decide +kernel
theorem d_S_leaveQueue_54 : decode prog_3_method_25_code 54 = .ok (.dup2, 1) := by decide +kernel
theorem d_S_leaveQueue_55 : decode prog_3_method_25_code 55 = .ok (.iaload, 1) := by decide +kernel
theorem d_S_leaveQueue_56 : decode prog_3_method_25_code 56 = .ok (.iconst 1, 1) := by decide +kernel
theorem d_S_leaveQueue_57 : decode prog_3_method_25_code 57 = .ok (.isub, 1) := by decide +kernel
theorem d_S_leaveQueue_58 : decode prog_3_method_25_code 58 = .ok (.iastore, 1) := by decide +kernel
theorem d_S_leaveQueue_59 : decode prog_3_method_25_code 59 = .ok (.iconst 1, 1) := by decide +kernel
theorem d_S_leaveQueue_60 : decode prog_3_method_25_code 60 = .ok (.ireturn, 1) := by decide +kernel
theorem d_S_lend_0 : decode prog_3_method_21_code 0 = .ok (.aload_n 0, 1) := by decide +kernel
theorem d_S_lend_1 : decode prog_3_method_21_code 1 = .ok (.getfield 15, 3) := by decide +kernel
theorem d_S_lend_4 : decode prog_3_method_21_code 4 = .ok (.iload_n 1, 1) := by decide +kernel
theorem d_S_lend_5 : decode prog_3_method_21_code 5 = .ok (.iaload, 1) := by decide +kernel
theorem d_S_lend_6 : decode prog_3_method_21_code 6 = .ok (.istore 5, 2) := by decide +kernel
theorem d_S_lend_8 : decode prog_3_method_21_code 8 = .ok (.iload 5, 2) := by decide +kernel
theorem d_S_lend_10 : decode prog_3_method_21_code 10 = .ok (.ifCond .eq 12, 3) := by decide +kernel
theorem d_S_lend_13 : decode prog_3_method_21_code 13 = .ok (.aload_n 0, 1) := by decide +kernel
theorem d_S_lend_14 : decode prog_3_method_21_code 14 = .ok (.getfield 19, 3) := by decide +kernel
theorem d_S_lend_17 : decode prog_3_method_21_code 17 = .ok (.iload_n 1, 1) := by decide +kernel
theorem d_S_lend_18 : decode prog_3_method_21_code 18 = .ok (.iaload, 1) := by decide +kernel
theorem d_S_lend_19 : decode prog_3_method_21_code 19 = .ok (.ifCond .eq 5, 3) := by decide +kernel
theorem d_S_lend_22 : decode prog_3_method_21_code 22 = .ok (.iconst 0, 1) := by decide +kernel
theorem d_S_lend_23 : decode prog_3_method_21_code 23 = .ok (.ireturn, 1) := by decide +kernel
theorem d_S_lend_24 : decode prog_3_method_21_code 24 = .ok (.aload_n 0, 1) := by decide +kernel
theorem d_S_lend_25 : decode prog_3_method_21_code 25 = .ok (.iload 5, 2) := by decide +kernel
theorem d_S_lend_27 : decode prog_3_method_21_code 27 = .ok (.iconst 0, 1) := by decide +kernel
theorem d_S_lend_28 : decode prog_3_method_21_code 28 = .ok (.invokevirtual 97, 3) := by decide +kernel
theorem d_S_lend_31 : decode prog_3_method_21_code 31 = .ok (.istore 6, 2) := by decide +kernel
theorem d_S_lend_33 : decode prog_3_method_21_code 33 = .ok (.iload 6, 2) := by decide +kernel
theorem d_S_lend_35 : decode prog_3_method_21_code 35 = .ok (.iconst (-1), 1) := by decide +kernel
theorem d_S_lend_36 : decode prog_3_method_21_code 36 = .ok (.if_icmp .eq 11, 3) := by decide +kernel
theorem d_S_lend_39 : decode prog_3_method_21_code 39 = .ok (.iload 6, 2) := by decide +kernel
theorem d_S_lend_41 : decode prog_3_method_21_code 41 = .ok (.iload_n 2, 1) := by decide +kernel
theorem d_S_lend_42 : decode prog_3_method_21_code 42 = .ok (.if_icmp .eq 5, 3) := by decide +kernel
theorem d_S_lend_45 : decode prog_3_method_21_code 45 = .ok (.iconst 0, 1) := by decide +kernel
theorem d_S_lend_46 : decode prog_3_method_21_code 46 = .ok (.ireturn, 1) := by decide +kernel
theorem d_S_lend_47 : decode prog_3_method_21_code 47 = .ok (.aload_n 0, 1) := by decide +kernel
theorem d_S_lend_48 : decode prog_3_method_21_code 48 = .ok (.iload 5, 2) := by decide +kernel
theorem d_S_lend_50 : decode prog_3_method_21_code 50 = .ok (.iload_n 2, 1) := by decide +kernel
theorem d_S_lend_51 : decode prog_3_method_21_code 51 = .ok (.invokevirtual 70, 3) := by decide +kernel
theorem d_S_lend_54 : decode prog_3_method_21_code 54 = .ok (.pop, 1) := by decide +kernel
theorem d_S_lend_55 : decode prog_3_method_21_code 55 = .ok (.aload_n 0, 1) := by decide +kernel
theorem d_S_lend_56 : decode prog_3_method_21_code 56 = .ok (.getfield 19, 3) := by decide +kernel
theorem d_S_lend_59 : decode prog_3_method_21_code 59 = .ok (.iload_n 1, 1) := by decide +kernel
theorem d_S_lend_60 : decode prog_3_method_21_code 60 = .ok (.iload_n 2, 1) := by decide +kernel
theorem d_S_lend_61 : decode prog_3_method_21_code 61 = .ok (.iastore, 1) := by decide +kernel
theorem d_S_lend_62 : decode prog_3_method_21_code 62 = .ok (.aload_n 0, 1) := by decide +kernel
theorem d_S_lend_63 : decode prog_3_method_21_code 63 = .ok (.getfield 22, 3) := by decide +kernel
theorem d_S_lend_66 : decode prog_3_method_21_code 66 = .ok (.iload_n 1, 1) := by decide +kernel
theorem d_S_lend_67 : decode prog_3_method_21_code 67 = .ok (.lload_n 3, 1) := by decide +kernel
theorem d_S_lend_68 : decode prog_3_method_21_code 68 = .ok (.aload_n 0, 1) := by decide +kernel
theorem d_S_lend_69 : decode prog_3_method_21_code 69 = .ok (.getfield 34, 3) := by decide +kernel
theorem d_S_lend_72 : decode prog_3_method_21_code 72 = .ok (.aload_n 0, 1) := by decide +kernel
theorem d_S_lend_73 : decode prog_3_method_21_code 73 = .ok (.getfield 31, 3) := by decide +kernel
theorem d_S_lend_76 : decode prog_3_method_21_code 76 = .ok (.iload 5, 2) := by decide +kernel
theorem d_S_lend_78 : decode prog_3_method_21_code 78 = .ok (.iaload, 1) := by decide +kernel
theorem d_S_lend_79 : decode prog_3_method_21_code 79 = .ok (.iaload, 1) := by decide +kernel
theorem d_S_lend_80 : decode prog_3_method_21_code 80 = .ok (.i2l, 1) := by decide +kernel
theorem d_S_lend_81 : decode prog_3_method_21_code 81 = .ok (.ladd, 1) := by decide +kernel
theorem d_S_lend_82 : decode prog_3_method_21_code 82 = .ok (.lastore, 1) := by decide +kernel
theorem d_S_lend_83 : decode prog_3_method_21_code 83 = .ok (.iconst 1, 1) := by decide +kernel
theorem d_S_lend_84 : decode prog_3_method_21_code 84 = .ok (.ireturn, 1) := by decide +kernel
theorem d_S_giveBack_0 : decode prog_3_method_22_code 0 = .ok (.aload_n 0, 1) := by decide +kernel
theorem d_S_giveBack_1 : decode prog_3_method_22_code 1 = .ok (.getfield 19, 3) := by decide +kernel
theorem d_S_giveBack_4 : decode prog_3_method_22_code 4 = .ok (.iload_n 1, 1) := by decide +kernel
theorem d_S_giveBack_5 : decode prog_3_method_22_code 5 = .ok (.iaload, 1) := by decide +kernel
theorem d_S_giveBack_6 : decode prog_3_method_22_code 6 = .ok (.ifCond .ne 5, 3) := by decide +kernel
theorem d_S_giveBack_9 : decode prog_3_method_22_code 9 = .ok (.iconst 0, 1) := by decide +kernel
theorem d_S_giveBack_10 : decode prog_3_method_22_code 10 = .ok (.ireturn, 1) := by decide +kernel
theorem d_S_giveBack_11 : decode prog_3_method_22_code 11 = .ok (.aload_n 0, 1) := by decide +kernel
theorem d_S_giveBack_12 : decode prog_3_method_22_code 12 = .ok (.getfield 19, 3) := by decide +kernel
theorem d_S_giveBack_15 : decode prog_3_method_22_code 15 = .ok (.iload_n 1, 1) := by decide +kernel
theorem d_S_giveBack_16 : decode prog_3_method_22_code 16 = .ok (.iconst 0, 1) := by decide +kernel
theorem d_S_giveBack_17 : decode prog_3_method_22_code 17 = .ok (.iastore, 1) := by decide +kernel
theorem d_S_giveBack_18 : decode prog_3_method_22_code 18 = .ok (.iconst 1, 1) := by decide +kernel
theorem d_S_giveBack_19 : decode prog_3_method_22_code 19 = .ok (.ireturn, 1) := by decide +kernel
theorem d_S_joinQueue_0 : decode prog_3_method_24_code 0 = .ok (.aload_n 0, 1) := by decide +kernel
theorem d_S_joinQueue_1 : decode prog_3_method_24_code 1 = .ok (.getfield 28, 3) := by decide +kernel
theorem d_S_joinQueue_4 : decode prog_3_method_24_code 4 = .ok (.iload_n 1, 1) := by decide +kernel
theorem d_S_joinQueue_5 : decode prog_3_method_24_code 5 = .ok (.iaload, 1) := by decide +kernel
theorem d_S_joinQueue_6 : decode prog_3_method_24_code 6 = .ok (.istore_n 3, 1) := by decide +kernel
theorem d_S_joinQueue_7 : decode prog_3_method_24_code 7 = .ok (.iload_n 3, 1) := by decide +kernel
theorem d_S_joinQueue_8 : decode prog_3_method_24_code 8 = .ok (.bipush 20, 2) := by decide +kernel
theorem d_S_joinQueue_10 : decode prog_3_method_24_code 10 = .ok (.if_icmp .ge 13, 3) := by decide +kernel
theorem d_S_joinQueue_13 : decode prog_3_method_24_code 13 = .ok (.aload_n 0, 1) := by decide +kernel
theorem d_S_joinQueue_14 : decode prog_3_method_24_code 14 = .ok (.iload_n 1, 1) := by decide +kernel
theorem d_S_joinQueue_15 : decode prog_3_method_24_code 15 = .ok (.iload_n 2, 1) := by decide +kernel
theorem d_S_joinQueue_16 : decode prog_3_method_24_code 16 = .ok (.invokevirtual 100, 3) := by decide +kernel
theorem d_S_joinQueue_19 : decode prog_3_method_24_code 19 = .ok (.iconst (-1), 1) := by decide +kernel
theorem d_S_joinQueue_20 : decode prog_3_method_24_code 20 = .ok (.if_icmp .eq 5, 3) := by decide +kernel
theorem d_S_joinQueue_23 : decode prog_3_method_24_code 23 = .ok (.iconst 0, 1) := by decide +kernel
theorem d_S_joinQueue_24 : decode prog_3_method_24_code 24 = .ok (.ireturn, 1) := by decide +kernel
theorem d_S_joinQueue_25 : decode prog_3_method_24_code 25 = .ok (.aload_n 0, 1) := by decide +kernel
theorem d_S_joinQueue_26 : decode prog_3_method_24_code 26 = .ok (.getfield 25, 3) := by decide +kernel
theorem d_S_joinQueue_29 : decode prog_3_method_24_code 29 = .ok (.iload_n 1, 1) := by decide +kernel
theorem d_S_joinQueue_30 : decode prog_3_method_24_code 30 = .ok (.bipush 20, 2) := by decide +kernel
theorem d_S_joinQueue_32 : decode prog_3_method_24_code 32 = .ok (.imul, 1) := by decide +kernel
theorem d_S_joinQueue_33 : decode prog_3_method_24_code 33 = .ok (.iload_n 3, 1) := by decide +kernel
theorem d_S_joinQueue_34 : decode prog_3_method_24_code 34 = .ok (.iadd, 1) := by decide +kernel
theorem d_S_joinQueue_35 : decode prog_3_method_24_code 35 = .ok (.iload_n 2, 1) := by decide +kernel
theorem d_S_joinQueue_36 : decode prog_3_method_24_code 36 = .ok (.iastore, 1) := by decide +kernel
theorem d_S_joinQueue_37 : decode prog_3_method_24_code 37 = .ok (.aload_n 0, 1) := by decide +kernel
theorem d_S_joinQueue_38 : decode prog_3_method_24_code 38 = .ok (.getfield 28, 3) := by decide +kernel
theorem d_S_joinQueue_41 : decode prog_3_method_24_code 41 = .ok (.iload_n 1, 1) := by decide +kernel
theorem d_S_joinQueue_42 : decode prog_3_method_24_code 42 = .ok (.iload_n 3, 1) := by decide +kernel
theorem d_S_joinQueue_43 : decode prog_3_method_24_code 43 = .ok (.iconst 1, 1) := by decide +kernel
theorem d_S_joinQueue_44 : decode prog_3_method_24_code 44 = .ok (.iadd, 1) := by decide +kernel
theorem d_S_joinQueue_45 : decode prog_3_method_24_code 45 = .ok (.iastore, 1) := by decide +kernel
theorem d_S_joinQueue_46 : decode prog_3_method_24_code 46 = .ok (.iconst 1, 1) := by decide +kernel
theorem d_S_joinQueue_47 : decode prog_3_method_24_code 47 = .ok (.ireturn, 1) := by decide +kernel
theorem d_S_sumIndex_0 : decode prog_3_method_15_code 0 = .ok (.iload_n 0, 1) := by decide +kernel
theorem d_S_sumIndex_1 : decode prog_3_method_15_code 1 = .ok (.bipush 6, 2) := by decide +kernel
theorem d_S_sumIndex_3 : decode prog_3_method_15_code 3 = .ok (.imul, 1) := by decide +kernel
theorem d_S_sumIndex_4 : decode prog_3_method_15_code 4 = .ok (.iload_n 1, 1) := by decide +kernel
theorem d_S_sumIndex_5 : decode prog_3_method_15_code 5 = .ok (.iadd, 1) := by decide +kernel
theorem d_S_sumIndex_6 : decode prog_3_method_15_code 6 = .ok (.ireturn, 1) := by decide +kernel
theorem d_S_loseFile_0 : decode prog_3_method_26_code 0 = .ok (.iload_n 1, 1) := by decide +kernel
theorem d_S_loseFile_1 : decode prog_3_method_26_code 1 = .ok (.iload_n 2, 1) := by decide +kernel
theorem d_S_loseFile_2 : decode prog_3_method_26_code 2 = .ok (.invokestatic 73, 3) := by decide +kernel
theorem d_S_loseFile_5 : decode prog_3_method_26_code 5 = .ok (.istore_n 3, 1) := by decide +kernel
theorem d_S_loseFile_6 : decode prog_3_method_26_code 6 = .ok (.aload_n 0, 1) := by decide +kernel
theorem d_S_loseFile_7 : decode prog_3_method_26_code 7 = .ok (.getfield 37, 3) := by decide +kernel
theorem d_S_loseFile_10 : decode prog_3_method_26_code 10 = .ok (.iload_n 3, 1) := by decide +kernel
theorem d_S_loseFile_11 : decode prog_3_method_26_code 11 = .ok (.iaload, 1) := by decide +kernel
theorem d_S_loseFile_12 : decode prog_3_method_26_code 12 = .ok (.iconst (-1), 1) := by decide +kernel
theorem d_S_loseFile_13 : decode prog_3_method_26_code 13 = .ok (.if_icmp .ne 5, 3) := by decide +kernel
theorem d_S_loseFile_16 : decode prog_3_method_26_code 16 = .ok (.iconst 0, 1) := by decide +kernel
theorem d_S_loseFile_17 : decode prog_3_method_26_code 17 = .ok (.ireturn, 1) := by decide +kernel
theorem d_S_loseFile_18 : decode prog_3_method_26_code 18 = .ok (.aload_n 0, 1) := by decide +kernel
theorem d_S_loseFile_19 : decode prog_3_method_26_code 19 = .ok (.getfield 37, 3) := by decide +kernel
theorem d_S_loseFile_22 : decode prog_3_method_26_code 22 = .ok (.iload_n 3, 1) := by decide +kernel
theorem d_S_loseFile_23 : decode prog_3_method_26_code 23 = .ok (.iconst (-1), 1) := by decide +kernel
theorem d_S_loseFile_24 : decode prog_3_method_26_code 24 = .ok (.iastore, 1) := by decide +kernel
theorem d_S_loseFile_25 : decode prog_3_method_26_code 25 = .ok (.iconst 1, 1) := by decide +kernel
theorem d_S_loseFile_26 : decode prog_3_method_26_code 26 = .ok (.ireturn, 1) := by decide +kernel
theorem d_S_perform_0 : decode prog_3_method_3_code 0 = .ok (.iload_n 1, 1) := by decide +kernel
theorem d_S_perform_1 : decode prog_3_method_3_code 1 = .ok (.tableswitch 153 0 10 #[59, 66, 73, 80, 89, 95, 102, 109, 128, 135, 144], 59) := by decide +kernel
theorem d_S_perform_60 : decode prog_3_method_3_code 60 = .ok (.aload_n 0, 1) := by decide +kernel
theorem d_S_perform_61 : decode prog_3_method_3_code 61 = .ok (.iload_n 2, 1) := by decide +kernel
theorem d_S_perform_62 : decode prog_3_method_3_code 62 = .ok (.iload_n 3, 1) := by decide +kernel
theorem d_S_perform_63 : decode prog_3_method_3_code 63 = .ok (.invokevirtual 49, 3) := by decide +kernel
theorem d_S_perform_66 : decode prog_3_method_3_code 66 = .ok (.ireturn, 1) := by decide +kernel
theorem d_S_perform_67 : decode prog_3_method_3_code 67 = .ok (.aload_n 0, 1) := by decide +kernel
theorem d_S_perform_68 : decode prog_3_method_3_code 68 = .ok (.iload_n 2, 1) := by decide +kernel
theorem d_S_perform_69 : decode prog_3_method_3_code 69 = .ok (.iload_n 3, 1) := by decide +kernel
theorem d_S_perform_70 : decode prog_3_method_3_code 70 = .ok (.invokevirtual 53, 3) := by decide +kernel
theorem d_S_perform_73 : decode prog_3_method_3_code 73 = .ok (.ireturn, 1) := by decide +kernel
theorem d_S_perform_74 : decode prog_3_method_3_code 74 = .ok (.aload_n 0, 1) := by decide +kernel
theorem d_S_perform_75 : decode prog_3_method_3_code 75 = .ok (.iload_n 2, 1) := by decide +kernel
theorem d_S_perform_76 : decode prog_3_method_3_code 76 = .ok (.iload_n 3, 1) := by decide +kernel
theorem d_S_perform_77 : decode prog_3_method_3_code 77 = .ok (.invokevirtual 56, 3) := by decide +kernel
theorem d_S_perform_80 : decode prog_3_method_3_code 80 = .ok (.ireturn, 1) := by decide +kernel
theorem d_S_perform_81 : decode prog_3_method_3_code 81 = .ok (.aload_n 0, 1) := by decide +kernel
theorem d_S_perform_82 : decode prog_3_method_3_code 82 = .ok (.iload_n 2, 1) := by decide +kernel
theorem d_S_perform_83 : decode prog_3_method_3_code 83 = .ok (.iload_n 3, 1) := by decide +kernel
theorem d_S_perform_84 : decode prog_3_method_3_code 84 = .ok (.lload 4, 2) := by decide +kernel
theorem d_S_perform_86 : decode prog_3_method_3_code 86 = .ok (.invokevirtual 59, 3) := by decide +kernel
theorem d_S_perform_89 : decode prog_3_method_3_code 89 = .ok (.ireturn, 1) := by decide +kernel
theorem d_S_perform_90 : decode prog_3_method_3_code 90 = .ok (.aload_n 0, 1) := by decide +kernel
theorem d_S_perform_91 : decode prog_3_method_3_code 91 = .ok (.iload_n 2, 1) := by decide +kernel
theorem d_S_perform_92 : decode prog_3_method_3_code 92 = .ok (.invokevirtual 63, 3) := by decide +kernel
theorem d_S_perform_95 : decode prog_3_method_3_code 95 = .ok (.ireturn, 1) := by decide +kernel
theorem d_S_perform_96 : decode prog_3_method_3_code 96 = .ok (.aload_n 0, 1) := by decide +kernel
theorem d_S_perform_97 : decode prog_3_method_3_code 97 = .ok (.iload_n 2, 1) := by decide +kernel
theorem d_S_perform_98 : decode prog_3_method_3_code 98 = .ok (.iload_n 3, 1) := by decide +kernel
theorem d_S_perform_99 : decode prog_3_method_3_code 99 = .ok (.invokevirtual 67, 3) := by decide +kernel
theorem d_S_perform_102 : decode prog_3_method_3_code 102 = .ok (.ireturn, 1) := by decide +kernel
theorem d_S_perform_103 : decode prog_3_method_3_code 103 = .ok (.aload_n 0, 1) := by decide +kernel
theorem d_S_perform_104 : decode prog_3_method_3_code 104 = .ok (.iload_n 2, 1) := by decide +kernel
theorem d_S_perform_105 : decode prog_3_method_3_code 105 = .ok (.iload_n 3, 1) := by decide +kernel
theorem d_S_perform_106 : decode prog_3_method_3_code 106 = .ok (.invokevirtual 70, 3) := by decide +kernel
theorem d_S_perform_109 : decode prog_3_method_3_code 109 = .ok (.ireturn, 1) := by decide +kernel
theorem d_S_perform_110 : decode prog_3_method_3_code 110 = .ok (.aload_n 0, 1) := by decide +kernel
theorem d_S_perform_111 : decode prog_3_method_3_code 111 = .ok (.getfield 37, 3) := by decide +kernel
theorem d_S_perform_114 : decode prog_3_method_3_code 114 = .ok (.iload_n 2, 1) := by decide +kernel
theorem d_S_perform_115 : decode prog_3_method_3_code 115 = .ok (.iload_n 3, 1) := by decide +kernel
theorem d_S_perform_116 : decode prog_3_method_3_code 116 = .ok (.invokestatic 73, 3) := by decide +kernel
theorem d_S_perform_119 : decode prog_3_method_3_code 119 = .ok (.lload 4, 2) := by decide +kernel
theorem d_S_perform_121 : decode prog_3_method_3_code 121 = .ok (.ldc2_w 77, 3) := by decide +kernel
theorem d_S_perform_124 : decode prog_3_method_3_code 124 = .ok (.lrem, 1) := by decide +kernel
theorem d_S_perform_125 : decode prog_3_method_3_code 125 = .ok (.l2i, 1) := by decide +kernel
theorem d_S_perform_126 : decode prog_3_method_3_code 126 = .ok (.iastore, 1) := by decide +kernel
theorem d_S_perform_127 : decode prog_3_method_3_code 127 = .ok (.iconst 1, 1) := by decide +kernel
theorem d_S_perform_128 : decode prog_3_method_3_code 128 = .ok (.ireturn, 1) := by decide +kernel
theorem d_S_perform_129 : decode prog_3_method_3_code 129 = .ok (.aload_n 0, 1) := by decide +kernel
theorem d_S_perform_130 : decode prog_3_method_3_code 130 = .ok (.iload_n 2, 1) := by decide +kernel
theorem d_S_perform_131 : decode prog_3_method_3_code 131 = .ok (.iload_n 3, 1) := by decide +kernel
theorem d_S_perform_132 : decode prog_3_method_3_code 132 = .ok (.invokevirtual 79, 3) := by decide +kernel
theorem d_S_perform_135 : decode prog_3_method_3_code 135 = .ok (.ireturn, 1) := by decide +kernel
theorem d_S_perform_136 : decode prog_3_method_3_code 136 = .ok (.aload_n 0, 1) := by decide +kernel
theorem d_S_perform_137 : decode prog_3_method_3_code 137 = .ok (.getfield 31, 3) := by decide +kernel
theorem d_S_perform_140 : decode prog_3_method_3_code 140 = .ok (.iload_n 2, 1) := by decide +kernel
theorem d_S_perform_141 : decode prog_3_method_3_code 141 = .ok (.iload_n 3, 1) := by decide +kernel
theorem d_S_perform_142 : decode prog_3_method_3_code 142 = .ok (.iastore, 1) := by decide +kernel
theorem d_S_perform_143 : decode prog_3_method_3_code 143 = .ok (.iconst 1, 1) := by decide +kernel
theorem d_S_perform_144 : decode prog_3_method_3_code 144 = .ok (.ireturn, 1) := by decide +kernel
theorem d_S_perform_145 : decode prog_3_method_3_code 145 = .ok (.aload_n 0, 1) := by decide +kernel
theorem d_S_perform_146 : decode prog_3_method_3_code 146 = .ok (.getfield 34, 3) := by decide +kernel
theorem d_S_perform_149 : decode prog_3_method_3_code 149 = .ok (.iload_n 2, 1) := by decide +kernel
theorem d_S_perform_150 : decode prog_3_method_3_code 150 = .ok (.iload_n 3, 1) := by decide +kernel
theorem d_S_perform_151 : decode prog_3_method_3_code 151 = .ok (.iastore, 1) := by decide +kernel
theorem d_S_perform_152 : decode prog_3_method_3_code 152 = .ok (.iconst 1, 1) := by decide +kernel
theorem d_S_perform_153 : decode prog_3_method_3_code 153 = .ok (.ireturn, 1) := by decide +kernel
theorem d_S_perform_154 : decode prog_3_method_3_code 154 = .ok (.iconst 0, 1) := by decide +kernel
theorem d_S_perform_155 : decode prog_3_method_3_code 155 = .ok (.ireturn, 1) := by decide +kernel
theorem d_R_perform_0 : decode prog_2_method_5_code 0 = .ok (.aload_n 2, 1) := by decide +kernel
theorem d_R_perform_1 : decode prog_2_method_5_code 1 = .ok (.aload_n 0, 1) := by decide +kernel
theorem d_R_perform_2 : decode prog_2_method_5_code 2 = .ok (.getfield 9, 3) := by decide +kernel
theorem d_R_perform_5 : decode prog_2_method_5_code 5 = .ok (.iload_n 1, 1) := by decide +kernel
theorem d_R_perform_6 : decode prog_2_method_5_code 6 = .ok (.iaload, 1) := by decide +kernel
theorem d_R_perform_7 : decode prog_2_method_5_code 7 = .ok (.aload_n 0, 1) := by decide +kernel
theorem d_R_perform_8 : decode prog_2_method_5_code 8 = .ok (.getfield 15, 3) := by decide +kernel
theorem d_R_perform_11 : decode prog_2_method_5_code 11 = .ok (.iload_n 1, 1) := by decide +kernel
theorem d_R_perform_12 : decode prog_2_method_5_code 12 = .ok (.iaload, 1) := by decide +kernel
theorem d_R_perform_13 : decode prog_2_method_5_code 13 = .ok (.aload_n 0, 1) := by decide +kernel
theorem d_R_perform_14 : decode prog_2_method_5_code 14 = .ok (.getfield 18, 3) := by decide +kernel
theorem d_R_perform_17 : decode prog_2_method_5_code 17 = .ok (.iload_n 1, 1) := by decide +kernel
theorem d_R_perform_18 : decode prog_2_method_5_code 18 = .ok (.iaload, 1) := by decide +kernel
theorem d_R_perform_19 : decode prog_2_method_5_code 19 = .ok (.aload_n 0, 1) := by decide +kernel
theorem d_R_perform_20 : decode prog_2_method_5_code 20 = .ok (.getfield 21, 3) := by decide +kernel
theorem d_R_perform_23 : decode prog_2_method_5_code 23 = .ok (.iload_n 1, 1) := by decide +kernel
theorem d_R_perform_24 : decode prog_2_method_5_code 24 = .ok (.laload, 1) := by decide +kernel
theorem d_R_perform_25 : decode prog_2_method_5_code 25 = .ok (.invokevirtual 29, 3) := by decide +kernel
theorem d_R_perform_28 : decode prog_2_method_5_code 28 = .ok (.ireturn, 1) := by decide +kernel
theorem d_R_dayOf_0 : decode prog_2_method_3_code 0 = .ok (.aload_n 0, 1) := by decide +kernel
theorem d_R_dayOf_1 : decode prog_2_method_3_code 1 = .ok (.getfield 21, 3) := by decide +kernel
theorem d_R_dayOf_4 : decode prog_2_method_3_code 4 = .ok (.iload_n 1, 1) := by decide +kernel
theorem d_R_dayOf_5 : decode prog_2_method_3_code 5 = .ok (.laload, 1) := by decide +kernel
theorem d_R_dayOf_6 : decode prog_2_method_3_code 6 = .ok (.lreturn, 1) := by decide +kernel
theorem d_S_recordOf_0 : decode prog_3_method_4_code 0 = .ok (.aload_n 0, 1) := by decide +kernel
theorem d_S_recordOf_1 : decode prog_3_method_4_code 1 = .ok (.getfield 15, 3) := by decide +kernel
theorem d_S_recordOf_4 : decode prog_3_method_4_code 4 = .ok (.iload_n 1, 1) := by decide +kernel
theorem d_S_recordOf_5 : decode prog_3_method_4_code 5 = .ok (.iaload, 1) := by decide +kernel
theorem d_S_recordOf_6 : decode prog_3_method_4_code 6 = .ok (.ireturn, 1) := by decide +kernel
theorem d_S_personWith_0 : decode prog_3_method_5_code 0 = .ok (.aload_n 0, 1) := by decide +kernel
theorem d_S_personWith_1 : decode prog_3_method_5_code 1 = .ok (.getfield 19, 3) := by decide +kernel
theorem d_S_personWith_4 : decode prog_3_method_5_code 4 = .ok (.iload_n 1, 1) := by decide +kernel
theorem d_S_personWith_5 : decode prog_3_method_5_code 5 = .ok (.iaload, 1) := by decide +kernel
theorem d_S_personWith_6 : decode prog_3_method_5_code 6 = .ok (.ireturn, 1) := by decide +kernel
theorem d_S_classOf_0 : decode prog_3_method_6_code 0 = .ok (.aload_n 0, 1) := by decide +kernel
theorem d_S_classOf_1 : decode prog_3_method_6_code 1 = .ok (.getfield 31, 3) := by decide +kernel
theorem d_S_classOf_4 : decode prog_3_method_6_code 4 = .ok (.iload_n 1, 1) := by decide +kernel
theorem d_S_classOf_5 : decode prog_3_method_6_code 5 = .ok (.iaload, 1) := by decide +kernel
theorem d_S_classOf_6 : decode prog_3_method_6_code 6 = .ok (.ireturn, 1) := by decide +kernel
theorem d_S_copiesThereOf_0 : decode prog_3_method_7_code 0 = .ok (.iconst 0, 1) := by decide +kernel
theorem d_S_copiesThereOf_1 : decode prog_3_method_7_code 1 = .ok (.istore_n 2, 1) := by decide +kernel
theorem d_S_copiesThereOf_2 : decode prog_3_method_7_code 2 = .ok (.iconst 1, 1) := by decide +kernel
theorem d_S_copiesThereOf_3 : decode prog_3_method_7_code 3 = .ok (.istore_n 3, 1) := by decide +kernel
theorem d_S_copiesThereOf_4 : decode prog_3_method_7_code 4 = .ok (.iload_n 3, 1) := by decide +kernel
theorem d_S_copiesThereOf_5 : decode prog_3_method_7_code 5 = .ok (.bipush 20, 2) := by decide +kernel
theorem d_S_copiesThereOf_7 : decode prog_3_method_7_code 7 = .ok (.if_icmp .gt 31, 3) := by decide +kernel
theorem d_S_copiesThereOf_10 : decode prog_3_method_7_code 10 = .ok (.aload_n 0, 1) := by decide +kernel
theorem d_S_copiesThereOf_11 : decode prog_3_method_7_code 11 = .ok (.getfield 15, 3) := by decide +kernel
theorem d_S_copiesThereOf_14 : decode prog_3_method_7_code 14 = .ok (.iload_n 3, 1) := by decide +kernel
theorem d_S_copiesThereOf_15 : decode prog_3_method_7_code 15 = .ok (.iaload, 1) := by decide +kernel
theorem d_S_copiesThereOf_16 : decode prog_3_method_7_code 16 = .ok (.iload_n 1, 1) := by decide +kernel
theorem d_S_copiesThereOf_17 : decode prog_3_method_7_code 17 = .ok (.if_icmp .ne 15, 3) := by decide +kernel
theorem d_S_copiesThereOf_20 : decode prog_3_method_7_code 20 = .ok (.aload_n 0, 1) := by decide +kernel
theorem d_S_copiesThereOf_21 : decode prog_3_method_7_code 21 = .ok (.getfield 19, 3) := by decide +kernel
theorem d_S_copiesThereOf_24 : decode prog_3_method_7_code 24 = .ok (.iload_n 3, 1) := by decide +kernel
theorem d_S_copiesThereOf_25 : decode prog_3_method_7_code 25 = .ok (.iaload, 1) := by decide +kernel
theorem d_S_copiesThereOf_26 : decode prog_3_method_7_code 26 = .ok (.ifCond .ne 6, 3) := by decide +kernel
theorem d_S_copiesThereOf_29 : decode prog_3_method_7_code 29 = .ok (.iinc 2 1, 3) := by decide +kernel
theorem d_S_copiesThereOf_32 : decode prog_3_method_7_code 32 = .ok (.iinc 3 1, 3) := by decide +kernel
theorem d_S_copiesThereOf_35 : decode prog_3_method_7_code 35 = .ok (.goto (-31), 3) := by decide +kernel
theorem d_S_copiesThereOf_38 : decode prog_3_method_7_code 38 = .ok (.iload_n 2, 1) := by decide +kernel
theorem d_S_copiesThereOf_39 : decode prog_3_method_7_code 39 = .ok (.ireturn, 1) := by decide +kernel
theorem d_S_headingAt_0 : decode prog_3_method_10_code 0 = .ok (.iconst 0, 1) := by decide +kernel
theorem d_S_headingAt_1 : decode prog_3_method_10_code 1 = .ok (.istore_n 3, 1) := by decide +kernel
theorem d_S_headingAt_2 : decode prog_3_method_10_code 2 = .ok (.iconst 1, 1) := by decide +kernel
theorem d_S_headingAt_3 : decode prog_3_method_10_code 3 = .ok (.istore 4, 2) := by decide +kernel
theorem d_S_headingAt_5 : decode prog_3_method_10_code 5 = .ok (.iload 4, 2) := by decide +kernel
theorem d_S_headingAt_7 : decode prog_3_method_10_code 7 = .ok (.bipush 99, 2) := by decide +kernel
theorem d_S_headingAt_9 : decode prog_3_method_10_code 9 = .ok (.if_icmp .gt 30, 3) := by decide +kernel
theorem d_S_headingAt_12 : decode prog_3_method_10_code 12 = .ok (.aload_n 0, 1) := by decide +kernel
theorem d_S_headingAt_13 : decode prog_3_method_10_code 13 = .ok (.iload_n 1, 1) := by decide +kernel
theorem d_S_headingAt_14 : decode prog_3_method_10_code 14 = .ok (.iload 4, 2) := by decide +kernel
theorem d_S_headingAt_16 : decode prog_3_method_10_code 16 = .ok (.invokevirtual 89, 3) := by decide +kernel
theorem d_S_headingAt_19 : decode prog_3_method_10_code 19 = .ok (.ifCond .eq 14, 3) := by decide +kernel
theorem d_S_headingAt_22 : decode prog_3_method_10_code 22 = .ok (.iload_n 3, 1) := by decide +kernel
theorem d_S_headingAt_23 : decode prog_3_method_10_code 23 = .ok (.iload_n 2, 1) := by decide +kernel
theorem d_S_headingAt_24 : decode prog_3_method_10_code 24 = .ok (.if_icmp .ne 6, 3) := by decide +kernel
theorem d_S_headingAt_27 : decode prog_3_method_10_code 27 = .ok (.iload 4, 2) := by decide +kernel
theorem d_S_headingAt_29 : decode prog_3_method_10_code 29 = .ok (.ireturn, 1) := by decide +kernel
theorem d_S_headingAt_30 : decode prog_3_method_10_code 30 = .ok (.iinc 3 1, 3) := by decide +kernel
theorem d_S_headingAt_33 : decode prog_3_method_10_code 33 = .ok (.iinc 4 1, 3) := by decide +kernel
theorem d_S_headingAt_36 : decode prog_3_method_10_code 36 = .ok (.goto (-31), 3) := by decide +kernel
theorem d_S_headingAt_39 : decode prog_3_method_10_code 39 = .ok (.iconst (-1), 1) := by decide +kernel
theorem d_S_headingAt_40 : decode prog_3_method_10_code 40 = .ok (.ireturn, 1) := by decide +kernel
theorem d_S_dueDayOf_0 : decode prog_3_method_11_code 0 = .ok (.aload_n 0, 1) := by decide +kernel
theorem d_S_dueDayOf_1 : decode prog_3_method_11_code 1 = .ok (.getfield 19, 3) := by decide +kernel
theorem d_S_dueDayOf_4 : decode prog_3_method_11_code 4 = .ok (.iload_n 1, 1) := by decide +kernel
theorem d_S_dueDayOf_5 : decode prog_3_method_11_code 5 = .ok (.iaload, 1) := by decide +kernel
theorem d_S_dueDayOf_6 : decode prog_3_method_11_code 6 = .ok (.ifCond .ne 9, 3) := by decide +kernel
theorem d_S_dueDayOf_9 : decode prog_3_method_11_code 9 = .ok (.ldc2_w 92, 3) := by decide +kernel
theorem d_S_dueDayOf_12 : decode prog_3_method_11_code 12 = .ok (.goto 9, 3) := by decide +kernel
theorem d_S_dueDayOf_15 : decode prog_3_method_11_code 15 = .ok (.aload_n 0, 1) := by decide +kernel
theorem d_S_dueDayOf_16 : decode prog_3_method_11_code 16 = .ok (.getfield 22, 3) := by decide +kernel
theorem d_S_dueDayOf_19 : decode prog_3_method_11_code 19 = .ok (.iload_n 1, 1) := by decide +kernel
theorem d_S_dueDayOf_20 : decode prog_3_method_11_code 20 = .ok (.laload, 1) := by decide +kernel
theorem d_S_dueDayOf_21 : decode prog_3_method_11_code 21 = .ok (.lreturn, 1) := by decide +kernel
theorem d_S_storesWith_0 : decode prog_3_method_14_code 0 = .ok (.iconst 0, 1) := by decide +kernel
theorem d_S_storesWith_1 : decode prog_3_method_14_code 1 = .ok (.istore_n 3, 1) := by decide +kernel
theorem d_S_storesWith_2 : decode prog_3_method_14_code 2 = .ok (.iconst 1, 1) := by decide +kernel
theorem d_S_storesWith_3 : decode prog_3_method_14_code 3 = .ok (.istore 4, 2) := by decide +kernel
theorem d_S_storesWith_5 : decode prog_3_method_14_code 5 = .ok (.iload 4, 2) := by decide +kernel
theorem d_S_storesWith_7 : decode prog_3_method_14_code 7 = .ok (.iconst 5, 1) := by decide +kernel
theorem d_S_storesWith_8 : decode prog_3_method_14_code 8 = .ok (.if_icmp .gt 27, 3) := by decide +kernel
theorem d_S_storesWith_11 : decode prog_3_method_14_code 11 = .ok (.aload_n 0, 1) := by decide +kernel
theorem d_S_storesWith_12 : decode prog_3_method_14_code 12 = .ok (.getfield 37, 3) := by decide +kernel
theorem d_S_storesWith_15 : decode prog_3_method_14_code 15 = .ok (.iload_n 1, 1) := by decide +kernel
theorem d_S_storesWith_16 : decode prog_3_method_14_code 16 = .ok (.iload 4, 2) := by decide +kernel
theorem d_S_storesWith_18 : decode prog_3_method_14_code 18 = .ok (.invokestatic 73, 3) := by decide +kernel
theorem d_S_storesWith_21 : decode prog_3_method_14_code 21 = .ok (.iaload, 1) := by decide +kernel
theorem d_S_storesWith_22 : decode prog_3_method_14_code 22 = .ok (.iload_n 2, 1) := by decide +kernel
theorem d_S_storesWith_23 : decode prog_3_method_14_code 23 = .ok (.if_icmp .ne 6, 3) := by decide +kernel
theorem d_S_storesWith_26 : decode prog_3_method_14_code 26 = .ok (.iinc 3 1, 3) := by decide +kernel
theorem d_S_storesWith_29 : decode prog_3_method_14_code 29 = .ok (.iinc 4 1, 3) := by decide +kernel
theorem d_S_storesWith_32 : decode prog_3_method_14_code 32 = .ok (.goto (-27), 3) := by decide +kernel
theorem d_S_storesWith_35 : decode prog_3_method_14_code 35 = .ok (.iload_n 3, 1) := by decide +kernel
theorem d_S_storesWith_36 : decode prog_3_method_14_code 36 = .ok (.ireturn, 1) := by decide +kernel
theorem d_S_commonSumOf_0 : decode prog_3_method_13_code 0 = .ok (.iconst 0, 1) := by decide +kernel
theorem d_S_commonSumOf_1 : decode prog_3_method_13_code 1 = .ok (.istore_n 2, 1) := by decide +kernel
theorem d_S_commonSumOf_2 : decode prog_3_method_13_code 2 = .ok (.iconst 0, 1) := by decide +kernel
theorem d_S_commonSumOf_3 : decode prog_3_method_13_code 3 = .ok (.istore_n 3, 1) := by decide +kernel
theorem d_S_commonSumOf_4 : decode prog_3_method_13_code 4 = .ok (.iload_n 3, 1) := by decide +kernel
theorem d_S_commonSumOf_5 : decode prog_3_method_13_code 5 = .ok (.bipush 7, 2) := by decide +kernel
theorem d_S_commonSumOf_7 : decode prog_3_method_13_code 7 = .ok (.if_icmp .ge 18, 3) := by decide +kernel
theorem d_S_commonSumOf_10 : decode prog_3_method_13_code 10 = .ok (.iload_n 2, 1) := by decide +kernel
theorem d_S_commonSumOf_11 : decode prog_3_method_13_code 11 = .ok (.aload_n 0, 1) := by decide +kernel
theorem d_S_commonSumOf_12 : decode prog_3_method_13_code 12 = .ok (.iload_n 1, 1) := by decide +kernel
theorem d_S_commonSumOf_13 : decode prog_3_method_13_code 13 = .ok (.iload_n 3, 1) := by decide +kernel
theorem d_S_commonSumOf_14 : decode prog_3_method_13_code 14 = .ok (.invokevirtual 94, 3) := by decide +kernel
theorem d_S_commonSumOf_17 : decode prog_3_method_13_code 17 = .ok (.iadd, 1) := by decide +kernel
theorem d_S_commonSumOf_18 : decode prog_3_method_13_code 18 = .ok (.istore_n 2, 1) := by decide +kernel
theorem d_S_commonSumOf_19 : decode prog_3_method_13_code 19 = .ok (.iinc 3 1, 3) := by decide +kernel
theorem d_S_commonSumOf_22 : decode prog_3_method_13_code 22 = .ok (.goto (-18), 3) := by decide +kernel
theorem d_S_commonSumOf_25 : decode prog_3_method_13_code 25 = .ok (.iload_n 2, 1) := by decide +kernel
theorem d_S_commonSumOf_26 : decode prog_3_method_13_code 26 = .ok (.ifCond .ne 5, 3) := by decide +kernel
theorem d_S_commonSumOf_29 : decode prog_3_method_13_code 29 = .ok (.iconst (-1), 1) := by decide +kernel
theorem d_S_commonSumOf_30 : decode prog_3_method_13_code 30 = .ok (.ireturn, 1) := by decide +kernel
theorem d_S_commonSumOf_31 : decode prog_3_method_13_code 31 = .ok (.iconst 0, 1) := by decide +kernel
theorem d_S_commonSumOf_32 : decode prog_3_method_13_code 32 = .ok (.istore_n 3, 1) := by decide +kernel
theorem d_S_commonSumOf_33 : decode prog_3_method_13_code 33 = .ok (.iload_n 3, 1) := by decide +kernel
theorem d_S_commonSumOf_34 : decode prog_3_method_13_code 34 = .ok (.bipush 7, 2) := by decide +kernel
theorem d_S_commonSumOf_36 : decode prog_3_method_13_code 36 = .ok (.if_icmp .ge 23, 3) := by decide +kernel
theorem d_S_commonSumOf_39 : decode prog_3_method_13_code 39 = .ok (.iconst 2, 1) := by decide +kernel
theorem d_S_commonSumOf_40 : decode prog_3_method_13_code 40 = .ok (.aload_n 0, 1) := by decide +kernel
theorem d_S_commonSumOf_41 : decode prog_3_method_13_code 41 = .ok (.iload_n 1, 1) := by decide +kernel
theorem d_S_commonSumOf_42 : decode prog_3_method_13_code 42 = .ok (.iload_n 3, 1) := by decide +kernel
theorem d_S_commonSumOf_43 : decode prog_3_method_13_code 43 = .ok (.invokevirtual 94, 3) := by decide +kernel
theorem d_S_commonSumOf_46 : decode prog_3_method_13_code 46 = .ok (.imul, 1) := by decide +kernel
theorem d_S_commonSumOf_47 : decode prog_3_method_13_code 47 = .ok (.iload_n 2, 1) := by decide +kernel
theorem d_S_commonSumOf_48 : decode prog_3_method_13_code 48 = .ok (.if_icmp .le 5, 3) := by decide +kernel
theorem d_S_commonSumOf_51 : decode prog_3_method_13_code 51 = .ok (.iload_n 3, 1) := by decide +kernel
theorem d_S_commonSumOf_52 : decode prog_3_method_13_code 52 = .ok (.ireturn, 1) := by decide +kernel
theorem d_S_commonSumOf_53 : decode prog_3_method_13_code 53 = .ok (.iinc 3 1, 3) := by decide +kernel
theorem d_S_commonSumOf_56 : decode prog_3_method_13_code 56 = .ok (.goto (-23), 3) := by decide +kernel
theorem d_S_commonSumOf_59 : decode prog_3_method_13_code 59 = .ok (.bipush 7, 2) := by decide +kernel
theorem d_S_commonSumOf_61 : decode prog_3_method_13_code 61 = .ok (.ireturn, 1) := by decide +kernel
theorem d_R_copyGivenBackBy_0 : decode prog_2_method_4_code 0 = .ok (.aload_n 0, 1) := by decide +kernel
theorem d_R_copyGivenBackBy_1 : decode prog_2_method_4_code 1 = .ok (.getfield 9, 3) := by decide +kernel
theorem d_R_copyGivenBackBy_4 : decode prog_2_method_4_code 4 = .ok (.iload_n 1, 1) := by decide +kernel
theorem d_R_copyGivenBackBy_5 : decode prog_2_method_4_code 5 = .ok (.iaload, 1) := by decide +kernel
theorem d_R_copyGivenBackBy_6 : decode prog_2_method_4_code 6 = .ok (.iconst 4, 1) := by decide +kernel
theorem d_R_copyGivenBackBy_7 : decode prog_2_method_4_code 7 = .ok (.if_icmp .ne 12, 3) := by decide +kernel
theorem d_R_copyGivenBackBy_10 : decode prog_2_method_4_code 10 = .ok (.aload_n 0, 1) := by decide +kernel
theorem d_R_copyGivenBackBy_11 : decode prog_2_method_4_code 11 = .ok (.getfield 15, 3) := by decide +kernel
theorem d_R_copyGivenBackBy_14 : decode prog_2_method_4_code 14 = .ok (.iload_n 1, 1) := by decide +kernel
theorem d_R_copyGivenBackBy_15 : decode prog_2_method_4_code 15 = .ok (.iaload, 1) := by decide +kernel
theorem d_R_copyGivenBackBy_16 : decode prog_2_method_4_code 16 = .ok (.goto 4, 3) := by decide +kernel
theorem d_R_copyGivenBackBy_19 : decode prog_2_method_4_code 19 = .ok (.iconst (-1), 1) := by decide +kernel
theorem d_R_copyGivenBackBy_20 : decode prog_2_method_4_code 20 = .ok (.ireturn, 1) := by decide +kernel
theorem d_S_copiesWith_0 : decode prog_3_method_8_code 0 = .ok (.iconst 0, 1) := by decide +kernel
theorem d_S_copiesWith_1 : decode prog_3_method_8_code 1 = .ok (.istore_n 2, 1) := by decide +kernel
theorem d_S_copiesWith_2 : decode prog_3_method_8_code 2 = .ok (.iconst 1, 1) := by decide +kernel
theorem d_S_copiesWith_3 : decode prog_3_method_8_code 3 = .ok (.istore_n 3, 1) := by decide +kernel
theorem d_S_copiesWith_4 : decode prog_3_method_8_code 4 = .ok (.iload_n 3, 1) := by decide +kernel
theorem d_S_copiesWith_5 : decode prog_3_method_8_code 5 = .ok (.bipush 20, 2) := by decide +kernel
theorem d_S_copiesWith_7 : decode prog_3_method_8_code 7 = .ok (.if_icmp .gt 22, 3) := by decide +kernel
theorem d_S_copiesWith_10 : decode prog_3_method_8_code 10 = .ok (.aload_n 0, 1) := by decide +kernel
theorem d_S_copiesWith_11 : decode prog_3_method_8_code 11 = .ok (.getfield 19, 3) := by decide +kernel
theorem d_S_copiesWith_14 : decode prog_3_method_8_code 14 = .ok (.iload_n 3, 1) := by decide +kernel
theorem d_S_copiesWith_15 : decode prog_3_method_8_code 15 = .ok (.iaload, 1) := by decide +kernel
theorem d_S_copiesWith_16 : decode prog_3_method_8_code 16 = .ok (.iload_n 1, 1) := by decide +kernel
theorem d_S_copiesWith_17 : decode prog_3_method_8_code 17 = .ok (.if_icmp .ne 6, 3) := by decide +kernel
theorem d_S_copiesWith_20 : decode prog_3_method_8_code 20 = .ok (.iinc 2 1, 3) := by decide +kernel
theorem d_S_copiesWith_23 : decode prog_3_method_8_code 23 = .ok (.iinc 3 1, 3) := by decide +kernel
theorem d_S_copiesWith_26 : decode prog_3_method_8_code 26 = .ok (.goto (-22), 3) := by decide +kernel
theorem d_S_copiesWith_29 : decode prog_3_method_8_code 29 = .ok (.iload_n 2, 1) := by decide +kernel
theorem d_S_copiesWith_30 : decode prog_3_method_8_code 30 = .ok (.ireturn, 1) := by decide +kernel
end
section
theorem d_L_init_0 : decode prog_1_method_1_code 0 = .ok (.aload_n 0, 1) := by decide +kernel
theorem d_L_init_1 : decode prog_1_method_1_code 1 = .ok (.invokespecial 1, 3) := by decide +kernel
theorem d_L_init_4 : decode prog_1_method_1_code 4 = .ok (.aload_n 0, 1) := by decide +kernel
theorem d_L_init_5 : decode prog_1_method_1_code 5 = .ok (.new 7, 3) := by decide +kernel
theorem d_L_init_8 : decode prog_1_method_1_code 8 = .ok (.dup, 1) := by decide +kernel
theorem d_L_init_9 : decode prog_1_method_1_code 9 = .ok (.invokespecial 9, 3) := by decide +kernel
theorem d_L_init_12 : decode prog_1_method_1_code 12 = .ok (.putfield 10, 3) := by decide +kernel
theorem d_L_init_15 : decode prog_1_method_1_code 15 = .ok (.aload_n 0, 1) := by decide +kernel
theorem d_L_init_16 : decode prog_1_method_1_code 16 = .ok (.new 16, 3) := by decide +kernel
theorem d_L_init_19 : decode prog_1_method_1_code 19 = .ok (.dup, 1) := by decide +kernel
theorem d_L_init_20 : decode prog_1_method_1_code 20 = .ok (.invokespecial 18, 3) := by decide +kernel
theorem d_L_init_23 : decode prog_1_method_1_code 23 = .ok (.putfield 19, 3) := by decide +kernel
theorem d_L_init_26 : decode prog_1_method_1_code 26 = .ok (.aload_n 0, 1) := by decide +kernel
theorem d_L_init_27 : decode prog_1_method_1_code 27 = .ok (.bipush 20, 2) := by decide +kernel
theorem d_L_init_29 : decode prog_1_method_1_code 29 = .ok (.newarray .int, 2) := by decide +kernel
theorem d_L_init_31 : decode prog_1_method_1_code 31 = .ok (.putfield 23, 3) := by decide +kernel
theorem d_L_init_34 : decode prog_1_method_1_code 34 = .ok (.aload_n 0, 1) := by decide +kernel
theorem d_L_init_35 : decode prog_1_method_1_code 35 = .ok (.iconst 0, 1) := by decide +kernel
theorem d_L_init_36 : decode prog_1_method_1_code 36 = .ok (.putfield 27, 3) := by decide +kernel
theorem d_L_init_39 : decode prog_1_method_1_code 39 = .ok (.return_, 1) := by decide +kernel
theorem d_L_isWithin_0 : decode prog_1_method_16_code 0 = .ok (.lload_n 0, 1) := by decide +kernel
theorem d_L_isWithin_1 : decode prog_1_method_16_code 1 = .ok (.lload_n 2, 1) := by decide +kernel
theorem d_L_isWithin_2 : decode prog_1_method_16_code 2 = .ok (.lcmp, 1) := by decide +kernel
theorem d_L_isWithin_3 : decode prog_1_method_16_code 3 = .ok (.ifCond .lt 14, 3) := by decide +kernel
theorem d_L_isWithin_6 : decode prog_1_method_16_code 6 = .ok (.lload_n 0, 1) := by decide +kernel
theorem d_L_isWithin_7 : decode prog_1_method_16_code 7 = .ok (.lload 4, 2) := by decide +kernel
theorem d_L_isWithin_9 : decode prog_1_method_16_code 9 = .ok (.lcmp, 1) := by decide +kernel
theorem d_L_isWithin_10 : decode prog_1_method_16_code 10 = .ok (.ifCond .gt 7, 3) := by decide +kernel
theorem d_L_isWithin_13 : decode prog_1_method_16_code 13 = .ok (.iconst 1, 1) := by decide +kernel
theorem d_L_isWithin_14 : decode prog_1_method_16_code 14 = .ok (.goto 4, 3) := by decide +kernel
theorem d_L_isWithin_17 : decode prog_1_method_16_code 17 = .ok (.iconst 0, 1) := by decide +kernel
theorem d_L_isWithin_18 : decode prog_1_method_16_code 18 = .ok (.ireturn, 1) := by decide +kernel
theorem d_L_isNumber_0 : decode prog_1_method_17_code 0 = .ok (.lload_n 0, 1) := by decide +kernel
theorem d_L_isNumber_1 : decode prog_1_method_17_code 1 = .ok (.lconst 1, 1) := by decide +kernel
theorem d_L_isNumber_2 : decode prog_1_method_17_code 2 = .ok (.ldc2_w 126, 3) := by decide +kernel
theorem d_L_isNumber_5 : decode prog_1_method_17_code 5 = .ok (.invokestatic 33, 3) := by decide +kernel
theorem d_L_isNumber_8 : decode prog_1_method_17_code 8 = .ok (.ireturn, 1) := by decide +kernel
theorem d_L_isAct_0 : decode prog_1_method_18_code 0 = .ok (.iload_n 0, 1) := by decide +kernel
theorem d_L_isAct_1 : decode prog_1_method_18_code 1 = .ok (.tableswitch 184 0 10 #[59, 59, 83, 83, 103, 83, 83, 108, 108, 132, 156], 59) := by decide +kernel
theorem d_L_isAct_60 : decode prog_1_method_18_code 60 = .ok (.lload_n 1, 1) := by decide +kernel
theorem d_L_isAct_61 : decode prog_1_method_18_code 61 = .ok (.invokestatic 56, 3) := by decide +kernel
theorem d_L_isAct_64 : decode prog_1_method_18_code 64 = .ok (.ifCond .eq 18, 3) := by decide +kernel
theorem d_L_isAct_67 : decode prog_1_method_18_code 67 = .ok (.lload_n 3, 1) := by decide +kernel
theorem d_L_isAct_68 : decode prog_1_method_18_code 68 = .ok (.lconst 1, 1) := by decide +kernel
theorem d_L_isAct_69 : decode prog_1_method_18_code 69 = .ok (.ldc2_w 84, 3) := by decide +kernel
theorem d_L_isAct_72 : decode prog_1_method_18_code 72 = .ok (.invokestatic 33, 3) := by decide +kernel
theorem d_L_isAct_75 : decode prog_1_method_18_code 75 = .ok (.ifCond .eq 7, 3) := by decide +kernel
theorem d_L_isAct_78 : decode prog_1_method_18_code 78 = .ok (.iconst 1, 1) := by decide +kernel
theorem d_L_isAct_79 : decode prog_1_method_18_code 79 = .ok (.goto 4, 3) := by decide +kernel
theorem d_L_isAct_82 : decode prog_1_method_18_code 82 = .ok (.iconst 0, 1) := by decide +kernel
theorem d_L_isAct_83 : decode prog_1_method_18_code 83 = .ok (.ireturn, 1) := by decide +kernel
theorem d_L_isAct_84 : decode prog_1_method_18_code 84 = .ok (.lload_n 1, 1) := by decide +kernel
theorem d_L_isAct_85 : decode prog_1_method_18_code 85 = .ok (.invokestatic 56, 3) := by decide +kernel
theorem d_L_isAct_88 : decode prog_1_method_18_code 88 = .ok (.ifCond .eq 14, 3) := by decide +kernel
theorem d_L_isAct_91 : decode prog_1_method_18_code 91 = .ok (.lload_n 3, 1) := by decide +kernel
theorem d_L_isAct_92 : decode prog_1_method_18_code 92 = .ok (.invokestatic 56, 3) := by decide +kernel
theorem d_L_isAct_95 : decode prog_1_method_18_code 95 = .ok (.ifCond .eq 7, 3) := by decide +kernel
theorem d_L_isAct_98 : decode prog_1_method_18_code 98 = .ok (.iconst 1, 1) := by decide +kernel
theorem d_L_isAct_99 : decode prog_1_method_18_code 99 = .ok (.goto 4, 3) := by decide +kernel
theorem d_L_isAct_102 : decode prog_1_method_18_code 102 = .ok (.iconst 0, 1) := by decide +kernel
theorem d_L_isAct_103 : decode prog_1_method_18_code 103 = .ok (.ireturn, 1) := by decide +kernel
theorem d_L_isAct_104 : decode prog_1_method_18_code 104 = .ok (.lload_n 1, 1) := by decide +kernel
theorem d_L_isAct_105 : decode prog_1_method_18_code 105 = .ok (.invokestatic 56, 3) := by decide +kernel
theorem d_L_isAct_108 : decode prog_1_method_18_code 108 = .ok (.ireturn, 1) := by decide +kernel
theorem d_L_isAct_109 : decode prog_1_method_18_code 109 = .ok (.lload_n 1, 1) := by decide +kernel
theorem d_L_isAct_110 : decode prog_1_method_18_code 110 = .ok (.invokestatic 56, 3) := by decide +kernel
theorem d_L_isAct_113 : decode prog_1_method_18_code 113 = .ok (.ifCond .eq 18, 3) := by decide +kernel
theorem d_L_isAct_116 : decode prog_1_method_18_code 116 = .ok (.lload_n 3, 1) := by decide +kernel
theorem d_L_isAct_117 : decode prog_1_method_18_code 117 = .ok (.lconst 1, 1) := by decide +kernel
theorem d_L_isAct_118 : decode prog_1_method_18_code 118 = .ok (.ldc2_w 128, 3) := by decide +kernel
theorem d_L_isAct_121 : decode prog_1_method_18_code 121 = .ok (.invokestatic 33, 3) := by decide +kernel
theorem d_L_isAct_124 : decode prog_1_method_18_code 124 = .ok (.ifCond .eq 7, 3) := by decide +kernel
theorem d_L_isAct_127 : decode prog_1_method_18_code 127 = .ok (.iconst 1, 1) := by decide +kernel
theorem d_L_isAct_128 : decode prog_1_method_18_code 128 = .ok (.goto 4, 3) := by decide +kernel
theorem d_L_isAct_131 : decode prog_1_method_18_code 131 = .ok (.iconst 0, 1) := by decide +kernel
theorem d_L_isAct_132 : decode prog_1_method_18_code 132 = .ok (.ireturn, 1) := by decide +kernel
theorem d_L_isAct_133 : decode prog_1_method_18_code 133 = .ok (.lload_n 1, 1) := by decide +kernel
theorem d_L_isAct_134 : decode prog_1_method_18_code 134 = .ok (.invokestatic 56, 3) := by decide +kernel
theorem d_L_isAct_137 : decode prog_1_method_18_code 137 = .ok (.ifCond .eq 18, 3) := by decide +kernel
theorem d_L_isAct_140 : decode prog_1_method_18_code 140 = .ok (.lload_n 3, 1) := by decide +kernel
theorem d_L_isAct_141 : decode prog_1_method_18_code 141 = .ok (.lconst 0, 1) := by decide +kernel
theorem d_L_isAct_142 : decode prog_1_method_18_code 142 = .ok (.ldc2_w 130, 3) := by decide +kernel
theorem d_L_isAct_145 : decode prog_1_method_18_code 145 = .ok (.invokestatic 33, 3) := by decide +kernel
theorem d_L_isAct_148 : decode prog_1_method_18_code 148 = .ok (.ifCond .eq 7, 3) := by decide +kernel
theorem d_L_isAct_151 : decode prog_1_method_18_code 151 = .ok (.iconst 1, 1) := by decide +kernel
theorem d_L_isAct_152 : decode prog_1_method_18_code 152 = .ok (.goto 4, 3) := by decide +kernel
theorem d_L_isAct_155 : decode prog_1_method_18_code 155 = .ok (.iconst 0, 1) := by decide +kernel
theorem d_L_isAct_156 : decode prog_1_method_18_code 156 = .ok (.ireturn, 1) := by decide +kernel
theorem d_L_isAct_157 : decode prog_1_method_18_code 157 = .ok (.lload_n 1, 1) := by decide +kernel
theorem d_L_isAct_158 : decode prog_1_method_18_code 158 = .ok (.lconst 0, 1) := by decide +kernel
theorem d_L_isAct_159 : decode prog_1_method_18_code 159 = .ok (.ldc2_w 130, 3) := by decide +kernel
theorem d_L_isAct_162 : decode prog_1_method_18_code 162 = .ok (.invokestatic 33, 3) := by decide +kernel
theorem d_L_isAct_165 : decode prog_1_method_18_code 165 = .ok (.ifCond .eq 18, 3) := by decide +kernel
theorem d_L_isAct_168 : decode prog_1_method_18_code 168 = .ok (.lload_n 3, 1) := by decide +kernel
theorem d_L_isAct_169 : decode prog_1_method_18_code 169 = .ok (.lconst 1, 1) := by decide +kernel
theorem d_L_isAct_170 : decode prog_1_method_18_code 170 = .ok (.ldc2_w 132, 3) := by decide +kernel
theorem d_L_isAct_173 : decode prog_1_method_18_code 173 = .ok (.invokestatic 33, 3) := by decide +kernel
theorem d_L_isAct_176 : decode prog_1_method_18_code 176 = .ok (.ifCond .eq 7, 3) := by decide +kernel
theorem d_L_isAct_179 : decode prog_1_method_18_code 179 = .ok (.iconst 1, 1) := by decide +kernel
theorem d_L_isAct_180 : decode prog_1_method_18_code 180 = .ok (.goto 4, 3) := by decide +kernel
theorem d_L_isAct_183 : decode prog_1_method_18_code 183 = .ok (.iconst 0, 1) := by decide +kernel
theorem d_L_isAct_184 : decode prog_1_method_18_code 184 = .ok (.ireturn, 1) := by decide +kernel
theorem d_L_isAct_185 : decode prog_1_method_18_code 185 = .ok (.iconst 0, 1) := by decide +kernel
theorem d_L_isAct_186 : decode prog_1_method_18_code 186 = .ok (.ireturn, 1) := by decide +kernel
theorem d_L_event_0 : decode prog_1_method_2_code 0 = .ok (.lload 6, 2) := by decide +kernel
theorem d_L_event_2 : decode prog_1_method_2_code 2 = .ok (.lconst 0, 1) := by decide +kernel
theorem d_L_event_3 : decode prog_1_method_2_code 3 = .ok (.ldc2_w 31, 3) := by decide +kernel
theorem d_L_event_6 : decode prog_1_method_2_code 6 = .ok (.invokestatic 33, 3) := by decide +kernel
theorem d_L_event_9 : decode prog_1_method_2_code 9 = .ok (.ifCond .eq 13, 3) := by decide +kernel
theorem d_L_event_12 : decode prog_1_method_2_code 12 = .ok (.iload_n 1, 1) := by decide +kernel
theorem d_L_event_13 : decode prog_1_method_2_code 13 = .ok (.lload_n 2, 1) := by decide +kernel
theorem d_L_event_14 : decode prog_1_method_2_code 14 = .ok (.lload 4, 2) := by decide +kernel
theorem d_L_event_16 : decode prog_1_method_2_code 16 = .ok (.invokestatic 37, 3) := by decide +kernel
theorem d_L_event_19 : decode prog_1_method_2_code 19 = .ok (.ifCond .ne 5, 3) := by decide +kernel
theorem d_L_event_22 : decode prog_1_method_2_code 22 = .ok (.iconst 0, 1) := by decide +kernel
theorem d_L_event_23 : decode prog_1_method_2_code 23 = .ok (.ireturn, 1) := by decide +kernel
theorem d_L_event_24 : decode prog_1_method_2_code 24 = .ok (.iload_n 1, 1) := by decide +kernel
theorem d_L_event_25 : decode prog_1_method_2_code 25 = .ok (.iconst 4, 1) := by decide +kernel
theorem d_L_event_26 : decode prog_1_method_2_code 26 = .ok (.if_icmp .ne 7, 3) := by decide +kernel
theorem d_L_event_29 : decode prog_1_method_2_code 29 = .ok (.iconst 0, 1) := by decide +kernel
theorem d_L_event_30 : decode prog_1_method_2_code 30 = .ok (.goto 6, 3) := by decide +kernel
theorem d_L_event_33 : decode prog_1_method_2_code 33 = .ok (.lload 4, 2) := by decide +kernel
theorem d_L_event_35 : decode prog_1_method_2_code 35 = .ok (.l2i, 1) := by decide +kernel
theorem d_L_event_36 : decode prog_1_method_2_code 36 = .ok (.istore 8, 2) := by decide +kernel
theorem d_L_event_38 : decode prog_1_method_2_code 38 = .ok (.aload_n 0, 1) := by decide +kernel
theorem d_L_event_39 : decode prog_1_method_2_code 39 = .ok (.getfield 10, 3) := by decide +kernel
theorem d_L_event_42 : decode prog_1_method_2_code 42 = .ok (.iload_n 1, 1) := by decide +kernel
theorem d_L_event_43 : decode prog_1_method_2_code 43 = .ok (.lload_n 2, 1) := by decide +kernel
theorem d_L_event_44 : decode prog_1_method_2_code 44 = .ok (.l2i, 1) := by decide +kernel
theorem d_L_event_45 : decode prog_1_method_2_code 45 = .ok (.iload 8, 2) := by decide +kernel
theorem d_L_event_47 : decode prog_1_method_2_code 47 = .ok (.lload 6, 2) := by decide +kernel
theorem d_L_event_49 : decode prog_1_method_2_code 49 = .ok (.invokevirtual 41, 3) := by decide +kernel
theorem d_L_event_52 : decode prog_1_method_2_code 52 = .ok (.ifCond .eq 13, 3) := by decide +kernel
theorem d_L_event_55 : decode prog_1_method_2_code 55 = .ok (.aload_n 0, 1) := by decide +kernel
theorem d_L_event_56 : decode prog_1_method_2_code 56 = .ok (.getfield 10, 3) := by decide +kernel
theorem d_L_event_59 : decode prog_1_method_2_code 59 = .ok (.invokevirtual 45, 3) := by decide +kernel
theorem d_L_event_62 : decode prog_1_method_2_code 62 = .ok (.goto 4, 3) := by decide +kernel
theorem d_L_event_65 : decode prog_1_method_2_code 65 = .ok (.iconst 0, 1) := by decide +kernel
theorem d_L_event_66 : decode prog_1_method_2_code 66 = .ok (.ireturn, 1) := by decide +kernel
theorem d_L_counts_0 : decode prog_1_method_3_code 0 = .ok (.iload_n 1, 1) := by decide +kernel
theorem d_L_counts_1 : decode prog_1_method_3_code 1 = .ok (.ifCond .lt 14, 3) := by decide +kernel
theorem d_L_counts_4 : decode prog_1_method_3_code 4 = .ok (.iload_n 1, 1) := by decide +kernel
theorem d_L_counts_5 : decode prog_1_method_3_code 5 = .ok (.aload_n 0, 1) := by decide +kernel
theorem d_L_counts_6 : decode prog_1_method_3_code 6 = .ok (.getfield 10, 3) := by decide +kernel
theorem d_L_counts_9 : decode prog_1_method_3_code 9 = .ok (.invokevirtual 45, 3) := by decide +kernel
theorem d_L_counts_12 : decode prog_1_method_3_code 12 = .ok (.if_icmp .lt 5, 3) := by decide +kernel
theorem d_L_counts_15 : decode prog_1_method_3_code 15 = .ok (.iconst (-1), 1) := by decide +kernel
theorem d_L_counts_16 : decode prog_1_method_3_code 16 = .ok (.ireturn, 1) := by decide +kernel
theorem d_L_counts_17 : decode prog_1_method_3_code 17 = .ok (.aload_n 0, 1) := by decide +kernel
theorem d_L_counts_18 : decode prog_1_method_3_code 18 = .ok (.getfield 19, 3) := by decide +kernel
theorem d_L_counts_21 : decode prog_1_method_3_code 21 = .ok (.invokevirtual 49, 3) := by decide +kernel
theorem d_L_counts_24 : decode prog_1_method_3_code 24 = .ok (.iconst 0, 1) := by decide +kernel
theorem d_L_counts_25 : decode prog_1_method_3_code 25 = .ok (.istore_n 2, 1) := by decide +kernel
theorem d_L_counts_26 : decode prog_1_method_3_code 26 = .ok (.iload_n 2, 1) := by decide +kernel
theorem d_L_counts_27 : decode prog_1_method_3_code 27 = .ok (.iload_n 1, 1) := by decide +kernel
theorem d_L_counts_28 : decode prog_1_method_3_code 28 = .ok (.if_icmp .ge 22, 3) := by decide +kernel
theorem d_L_counts_31 : decode prog_1_method_3_code 31 = .ok (.aload_n 0, 1) := by decide +kernel
theorem d_L_counts_32 : decode prog_1_method_3_code 32 = .ok (.getfield 10, 3) := by decide +kernel
theorem d_L_counts_35 : decode prog_1_method_3_code 35 = .ok (.iload_n 2, 1) := by decide +kernel
theorem d_L_counts_36 : decode prog_1_method_3_code 36 = .ok (.aload_n 0, 1) := by decide +kernel
theorem d_L_counts_37 : decode prog_1_method_3_code 37 = .ok (.getfield 19, 3) := by decide +kernel
theorem d_L_counts_40 : decode prog_1_method_3_code 40 = .ok (.invokevirtual 52, 3) := by decide +kernel
theorem d_L_counts_43 : decode prog_1_method_3_code 43 = .ok (.pop, 1) := by decide +kernel
theorem d_L_counts_44 : decode prog_1_method_3_code 44 = .ok (.iinc 2 1, 3) := by decide +kernel
theorem d_L_counts_47 : decode prog_1_method_3_code 47 = .ok (.goto (-21), 3) := by decide +kernel
theorem d_L_counts_50 : decode prog_1_method_3_code 50 = .ok (.aload_n 0, 1) := by decide +kernel
theorem d_L_counts_51 : decode prog_1_method_3_code 51 = .ok (.getfield 10, 3) := by decide +kernel
theorem d_L_counts_54 : decode prog_1_method_3_code 54 = .ok (.iload_n 1, 1) := by decide +kernel
theorem d_L_counts_55 : decode prog_1_method_3_code 55 = .ok (.aload_n 0, 1) := by decide +kernel
theorem d_L_counts_56 : decode prog_1_method_3_code 56 = .ok (.getfield 19, 3) := by decide +kernel
theorem d_L_counts_59 : decode prog_1_method_3_code 59 = .ok (.invokevirtual 52, 3) := by decide +kernel
theorem d_L_counts_62 : decode prog_1_method_3_code 62 = .ok (.ifCond .eq 7, 3) := by decide +kernel
theorem d_L_counts_65 : decode prog_1_method_3_code 65 = .ok (.iconst 1, 1) := by decide +kernel
theorem d_L_counts_66 : decode prog_1_method_3_code 66 = .ok (.goto 4, 3) := by decide +kernel
theorem d_L_counts_69 : decode prog_1_method_3_code 69 = .ok (.iconst 0, 1) := by decide +kernel
theorem d_L_counts_70 : decode prog_1_method_3_code 70 = .ok (.ireturn, 1) := by decide +kernel
theorem d_L_events_0 : decode prog_1_method_4_code 0 = .ok (.aload_n 0, 1) := by decide +kernel
theorem d_L_events_1 : decode prog_1_method_4_code 1 = .ok (.getfield 10, 3) := by decide +kernel
theorem d_L_events_4 : decode prog_1_method_4_code 4 = .ok (.invokevirtual 45, 3) := by decide +kernel
theorem d_L_events_7 : decode prog_1_method_4_code 7 = .ok (.ireturn, 1) := by decide +kernel
theorem d_L_refused_0 : decode prog_1_method_5_code 0 = .ok (.iconst 0, 1) := by decide +kernel
theorem d_L_refused_1 : decode prog_1_method_5_code 1 = .ok (.istore_n 1, 1) := by decide +kernel
theorem d_L_refused_2 : decode prog_1_method_5_code 2 = .ok (.aload_n 0, 1) := by decide +kernel
theorem d_L_refused_3 : decode prog_1_method_5_code 3 = .ok (.getfield 19, 3) := by decide +kernel
theorem d_L_refused_6 : decode prog_1_method_5_code 6 = .ok (.invokevirtual 49, 3) := by decide +kernel
theorem d_L_refused_9 : decode prog_1_method_5_code 9 = .ok (.iconst 0, 1) := by decide +kernel
theorem d_L_refused_10 : decode prog_1_method_5_code 10 = .ok (.istore_n 2, 1) := by decide +kernel
theorem d_L_refused_11 : decode prog_1_method_5_code 11 = .ok (.iload_n 2, 1) := by decide +kernel
theorem d_L_refused_12 : decode prog_1_method_5_code 12 = .ok (.aload_n 0, 1) := by decide +kernel
theorem d_L_refused_13 : decode prog_1_method_5_code 13 = .ok (.getfield 10, 3) := by decide +kernel
theorem d_L_refused_16 : decode prog_1_method_5_code 16 = .ok (.invokevirtual 45, 3) := by decide +kernel
theorem d_L_refused_19 : decode prog_1_method_5_code 19 = .ok (.if_icmp .ge 27, 3) := by decide +kernel
theorem d_L_refused_22 : decode prog_1_method_5_code 22 = .ok (.aload_n 0, 1) := by decide +kernel
theorem d_L_refused_23 : decode prog_1_method_5_code 23 = .ok (.getfield 10, 3) := by decide +kernel
theorem d_L_refused_26 : decode prog_1_method_5_code 26 = .ok (.iload_n 2, 1) := by decide +kernel
theorem d_L_refused_27 : decode prog_1_method_5_code 27 = .ok (.aload_n 0, 1) := by decide +kernel
theorem d_L_refused_28 : decode prog_1_method_5_code 28 = .ok (.getfield 19, 3) := by decide +kernel
theorem d_L_refused_31 : decode prog_1_method_5_code 31 = .ok (.invokevirtual 52, 3) := by decide +kernel
theorem d_L_refused_34 : decode prog_1_method_5_code 34 = .ok (.ifCond .ne 6, 3) := by decide +kernel
theorem d_L_refused_37 : decode prog_1_method_5_code 37 = .ok (.iinc 1 1, 3) := by decide +kernel
theorem d_L_refused_40 : decode prog_1_method_5_code 40 = .ok (.iinc 2 1, 3) := by decide +kernel
theorem d_L_refused_43 : decode prog_1_method_5_code 43 = .ok (.goto (-32), 3) := by decide +kernel
theorem d_L_refused_46 : decode prog_1_method_5_code 46 = .ok (.iload_n 1, 1) := by decide +kernel
theorem d_L_refused_47 : decode prog_1_method_5_code 47 = .ok (.ireturn, 1) := by decide +kernel
theorem d_L_performUpTo_0 : decode prog_1_method_20_code 0 = .ok (.aload_n 0, 1) := by decide +kernel
theorem d_L_performUpTo_1 : decode prog_1_method_20_code 1 = .ok (.getfield 19, 3) := by decide +kernel
theorem d_L_performUpTo_4 : decode prog_1_method_20_code 4 = .ok (.invokevirtual 49, 3) := by decide +kernel
theorem d_L_performUpTo_7 : decode prog_1_method_20_code 7 = .ok (.iconst 0, 1) := by decide +kernel
theorem d_L_performUpTo_8 : decode prog_1_method_20_code 8 = .ok (.istore_n 3, 1) := by decide +kernel
theorem d_L_performUpTo_9 : decode prog_1_method_20_code 9 = .ok (.iload_n 3, 1) := by decide +kernel
theorem d_L_performUpTo_10 : decode prog_1_method_20_code 10 = .ok (.aload_n 0, 1) := by decide +kernel
theorem d_L_performUpTo_11 : decode prog_1_method_20_code 11 = .ok (.getfield 10, 3) := by decide +kernel
theorem d_L_performUpTo_14 : decode prog_1_method_20_code 14 = .ok (.invokevirtual 45, 3) := by decide +kernel
theorem d_L_performUpTo_17 : decode prog_1_method_20_code 17 = .ok (.if_icmp .ge 35, 3) := by decide +kernel
theorem d_L_performUpTo_20 : decode prog_1_method_20_code 20 = .ok (.aload_n 0, 1) := by decide +kernel
theorem d_L_performUpTo_21 : decode prog_1_method_20_code 21 = .ok (.getfield 10, 3) := by decide +kernel
theorem d_L_performUpTo_24 : decode prog_1_method_20_code 24 = .ok (.iload_n 3, 1) := by decide +kernel
theorem d_L_performUpTo_25 : decode prog_1_method_20_code 25 = .ok (.invokevirtual 105, 3) := by decide +kernel
theorem d_L_performUpTo_28 : decode prog_1_method_20_code 28 = .ok (.lload_n 1, 1) := by decide +kernel
theorem d_L_performUpTo_29 : decode prog_1_method_20_code 29 = .ok (.lcmp, 1) := by decide +kernel
theorem d_L_performUpTo_30 : decode prog_1_method_20_code 30 = .ok (.ifCond .gt 22, 3) := by decide +kernel
theorem d_L_performUpTo_33 : decode prog_1_method_20_code 33 = .ok (.aload_n 0, 1) := by decide +kernel
theorem d_L_performUpTo_34 : decode prog_1_method_20_code 34 = .ok (.getfield 10, 3) := by decide +kernel
theorem d_L_performUpTo_37 : decode prog_1_method_20_code 37 = .ok (.iload_n 3, 1) := by decide +kernel
theorem d_L_performUpTo_38 : decode prog_1_method_20_code 38 = .ok (.aload_n 0, 1) := by decide +kernel
theorem d_L_performUpTo_39 : decode prog_1_method_20_code 39 = .ok (.getfield 19, 3) := by decide +kernel
theorem d_L_performUpTo_42 : decode prog_1_method_20_code 42 = .ok (.invokevirtual 52, 3) := by decide +kernel
theorem d_L_performUpTo_45 : decode prog_1_method_20_code 45 = .ok (.pop, 1) := by decide +kernel
theorem d_L_performUpTo_46 : decode prog_1_method_20_code 46 = .ok (.iinc 3 1, 3) := by decide +kernel
theorem d_L_performUpTo_49 : decode prog_1_method_20_code 49 = .ok (.goto (-40), 3) := by decide +kernel
theorem d_L_performUpTo_52 : decode prog_1_method_20_code 52 = .ok (.return_, 1) := by decide +kernel
theorem d_L_state_0 : decode prog_1_method_6_code 0 = .ok (.iload_n 2, 1) := by decide +kernel
theorem d_L_state_1 : decode prog_1_method_6_code 1 = .ok (.i2l, 1) := by decide +kernel
theorem d_L_state_2 : decode prog_1_method_6_code 2 = .ok (.invokestatic 56, 3) := by decide +kernel
theorem d_L_state_5 : decode prog_1_method_6_code 5 = .ok (.ifCond .ne 5, 3) := by decide +kernel
theorem d_L_state_8 : decode prog_1_method_6_code 8 = .ok (.iconst (-1), 1) := by decide +kernel
theorem d_L_state_9 : decode prog_1_method_6_code 9 = .ok (.ireturn, 1) := by decide +kernel
theorem d_L_state_10 : decode prog_1_method_6_code 10 = .ok (.aload_n 0, 1) := by decide +kernel
theorem d_L_state_11 : decode prog_1_method_6_code 11 = .ok (.lload_n 3, 1) := by decide +kernel
theorem d_L_state_12 : decode prog_1_method_6_code 12 = .ok (.invokevirtual 60, 3) := by decide +kernel
theorem d_L_state_15 : decode prog_1_method_6_code 15 = .ok (.iload_n 1, 1) := by decide +kernel
theorem d_L_state_16 : decode prog_1_method_6_code 16 = .ok (.tableswitch 68 0 3 #[32, 41, 50, 59], 32) := by decide +kernel
theorem d_L_state_48 : decode prog_1_method_6_code 48 = .ok (.aload_n 0, 1) := by decide +kernel
theorem d_L_state_49 : decode prog_1_method_6_code 49 = .ok (.getfield 19, 3) := by decide +kernel
theorem d_L_state_52 : decode prog_1_method_6_code 52 = .ok (.iload_n 2, 1) := by decide +kernel
theorem d_L_state_53 : decode prog_1_method_6_code 53 = .ok (.invokevirtual 64, 3) := by decide +kernel
theorem d_L_state_56 : decode prog_1_method_6_code 56 = .ok (.ireturn, 1) := by decide +kernel
theorem d_L_state_57 : decode prog_1_method_6_code 57 = .ok (.aload_n 0, 1) := by decide +kernel
theorem d_L_state_58 : decode prog_1_method_6_code 58 = .ok (.getfield 19, 3) := by decide +kernel
theorem d_L_state_61 : decode prog_1_method_6_code 61 = .ok (.iload_n 2, 1) := by decide +kernel
theorem d_L_state_62 : decode prog_1_method_6_code 62 = .ok (.invokevirtual 68, 3) := by decide +kernel
theorem d_L_state_65 : decode prog_1_method_6_code 65 = .ok (.ireturn, 1) := by decide +kernel
theorem d_L_state_66 : decode prog_1_method_6_code 66 = .ok (.aload_n 0, 1) := by decide +kernel
theorem d_L_state_67 : decode prog_1_method_6_code 67 = .ok (.getfield 19, 3) := by decide +kernel
theorem d_L_state_70 : decode prog_1_method_6_code 70 = .ok (.iload_n 2, 1) := by decide +kernel
theorem d_L_state_71 : decode prog_1_method_6_code 71 = .ok (.invokevirtual 71, 3) := by decide +kernel
theorem d_L_state_74 : decode prog_1_method_6_code 74 = .ok (.ireturn, 1) := by decide +kernel
theorem d_L_state_75 : decode prog_1_method_6_code 75 = .ok (.aload_n 0, 1) := by decide +kernel
theorem d_L_state_76 : decode prog_1_method_6_code 76 = .ok (.getfield 19, 3) := by decide +kernel
theorem d_L_state_79 : decode prog_1_method_6_code 79 = .ok (.iload_n 2, 1) := by decide +kernel
theorem d_L_state_80 : decode prog_1_method_6_code 80 = .ok (.invokevirtual 74, 3) := by decide +kernel
theorem d_L_state_83 : decode prog_1_method_6_code 83 = .ok (.ireturn, 1) := by decide +kernel
theorem d_L_state_84 : decode prog_1_method_6_code 84 = .ok (.iconst (-1), 1) := by decide +kernel
theorem d_L_state_85 : decode prog_1_method_6_code 85 = .ok (.ireturn, 1) := by decide +kernel
theorem d_L_performAll_0 : decode prog_1_method_19_code 0 = .ok (.aload_n 0, 1) := by decide +kernel
theorem d_L_performAll_1 : decode prog_1_method_19_code 1 = .ok (.ldc2_w 31, 3) := by decide +kernel
theorem d_L_performAll_4 : decode prog_1_method_19_code 4 = .ok (.invokevirtual 60, 3) := by decide +kernel
theorem d_L_performAll_7 : decode prog_1_method_19_code 7 = .ok (.return_, 1) := by decide +kernel
theorem d_L_heading_0 : decode prog_1_method_7_code 0 = .ok (.iload_n 1, 1) := by decide +kernel
theorem d_L_heading_1 : decode prog_1_method_7_code 1 = .ok (.i2l, 1) := by decide +kernel
theorem d_L_heading_2 : decode prog_1_method_7_code 2 = .ok (.invokestatic 56, 3) := by decide +kernel
theorem d_L_heading_5 : decode prog_1_method_7_code 5 = .ok (.ifCond .eq 7, 3) := by decide +kernel
theorem d_L_heading_8 : decode prog_1_method_7_code 8 = .ok (.iload_n 2, 1) := by decide +kernel
theorem d_L_heading_9 : decode prog_1_method_7_code 9 = .ok (.ifCond .ge 5, 3) := by decide +kernel
theorem d_L_heading_12 : decode prog_1_method_7_code 12 = .ok (.iconst (-1), 1) := by decide +kernel
theorem d_L_heading_13 : decode prog_1_method_7_code 13 = .ok (.ireturn, 1) := by decide +kernel
theorem d_L_heading_14 : decode prog_1_method_7_code 14 = .ok (.aload_n 0, 1) := by decide +kernel
theorem d_L_heading_15 : decode prog_1_method_7_code 15 = .ok (.invokevirtual 77, 3) := by decide +kernel
theorem d_L_heading_18 : decode prog_1_method_7_code 18 = .ok (.aload_n 0, 1) := by decide +kernel
theorem d_L_heading_19 : decode prog_1_method_7_code 19 = .ok (.getfield 19, 3) := by decide +kernel
theorem d_L_heading_22 : decode prog_1_method_7_code 22 = .ok (.iload_n 1, 1) := by decide +kernel
theorem d_L_heading_23 : decode prog_1_method_7_code 23 = .ok (.iload_n 2, 1) := by decide +kernel
theorem d_L_heading_24 : decode prog_1_method_7_code 24 = .ok (.invokevirtual 80, 3) := by decide +kernel
theorem d_L_heading_27 : decode prog_1_method_7_code 27 = .ok (.ireturn, 1) := by decide +kernel
theorem d_L_question_0 : decode prog_1_method_8_code 0 = .ok (.iload_n 1, 1) := by decide +kernel
theorem d_L_question_1 : decode prog_1_method_8_code 1 = .ok (.i2l, 1) := by decide +kernel
theorem d_L_question_2 : decode prog_1_method_8_code 2 = .ok (.lconst 1, 1) := by decide +kernel
theorem d_L_question_3 : decode prog_1_method_8_code 3 = .ok (.ldc2_w 84, 3) := by decide +kernel
theorem d_L_question_6 : decode prog_1_method_8_code 6 = .ok (.invokestatic 33, 3) := by decide +kernel
theorem d_L_question_9 : decode prog_1_method_8_code 9 = .ok (.ifCond .eq 15, 3) := by decide +kernel
theorem d_L_question_12 : decode prog_1_method_8_code 12 = .ok (.iload_n 2, 1) := by decide +kernel
theorem d_L_question_13 : decode prog_1_method_8_code 13 = .ok (.i2l, 1) := by decide +kernel
theorem d_L_question_14 : decode prog_1_method_8_code 14 = .ok (.lconst 0, 1) := by decide +kernel
theorem d_L_question_15 : decode prog_1_method_8_code 15 = .ok (.ldc2_w 84, 3) := by decide +kernel
theorem d_L_question_18 : decode prog_1_method_8_code 18 = .ok (.invokestatic 33, 3) := by decide +kernel
theorem d_L_question_21 : decode prog_1_method_8_code 21 = .ok (.ifCond .ne 5, 3) := by decide +kernel
theorem d_L_question_24 : decode prog_1_method_8_code 24 = .ok (.iconst (-1), 1) := by decide +kernel
theorem d_L_question_25 : decode prog_1_method_8_code 25 = .ok (.ireturn, 1) := by decide +kernel
theorem d_L_question_26 : decode prog_1_method_8_code 26 = .ok (.aload_n 0, 1) := by decide +kernel
theorem d_L_question_27 : decode prog_1_method_8_code 27 = .ok (.invokevirtual 77, 3) := by decide +kernel
theorem d_L_question_30 : decode prog_1_method_8_code 30 = .ok (.aload_n 0, 1) := by decide +kernel
theorem d_L_question_31 : decode prog_1_method_8_code 31 = .ok (.iconst 0, 1) := by decide +kernel
theorem d_L_question_32 : decode prog_1_method_8_code 32 = .ok (.putfield 27, 3) := by decide +kernel
theorem d_L_question_35 : decode prog_1_method_8_code 35 = .ok (.iconst 1, 1) := by decide +kernel
theorem d_L_question_36 : decode prog_1_method_8_code 36 = .ok (.istore_n 3, 1) := by decide +kernel
theorem d_L_question_37 : decode prog_1_method_8_code 37 = .ok (.iload_n 3, 1) := by decide +kernel
theorem d_L_question_38 : decode prog_1_method_8_code 38 = .ok (.bipush 20, 2) := by decide +kernel
theorem d_L_question_40 : decode prog_1_method_8_code 40 = .ok (.if_icmp .gt 53, 3) := by decide +kernel
theorem d_L_question_43 : decode prog_1_method_8_code 43 = .ok (.aload_n 0, 1) := by decide +kernel
theorem d_L_question_44 : decode prog_1_method_8_code 44 = .ok (.getfield 19, 3) := by decide +kernel
theorem d_L_question_47 : decode prog_1_method_8_code 47 = .ok (.iload_n 3, 1) := by decide +kernel
theorem d_L_question_48 : decode prog_1_method_8_code 48 = .ok (.iload_n 1, 1) := by decide +kernel
theorem d_L_question_49 : decode prog_1_method_8_code 49 = .ok (.invokevirtual 86, 3) := by decide +kernel
theorem d_L_question_52 : decode prog_1_method_8_code 52 = .ok (.ifCond .eq 35, 3) := by decide +kernel
theorem d_L_question_55 : decode prog_1_method_8_code 55 = .ok (.aload_n 0, 1) := by decide +kernel
theorem d_L_question_56 : decode prog_1_method_8_code 56 = .ok (.getfield 19, 3) := by decide +kernel
theorem d_L_question_59 : decode prog_1_method_8_code 59 = .ok (.iload_n 3, 1) := by decide +kernel
theorem d_L_question_60 : decode prog_1_method_8_code 60 = .ok (.iload_n 2, 1) := by decide +kernel
theorem d_L_question_61 : decode prog_1_method_8_code 61 = .ok (.invokevirtual 86, 3) := by decide +kernel
theorem d_L_question_64 : decode prog_1_method_8_code 64 = .ok (.ifCond .ne 23, 3) := by decide +kernel
theorem d_L_question_67 : decode prog_1_method_8_code 67 = .ok (.aload_n 0, 1) := by decide +kernel
theorem d_L_question_68 : decode prog_1_method_8_code 68 = .ok (.getfield 23, 3) := by decide +kernel
theorem d_L_question_71 : decode prog_1_method_8_code 71 = .ok (.aload_n 0, 1) := by decide +kernel
theorem d_L_question_72 : decode prog_1_method_8_code 72 = .ok (.getfield 27, 3) := by decide +kernel
theorem d_L_question_75 : decode prog_1_method_8_code 75 = .ok (.iload_n 3, 1) := by decide +kernel
theorem d_L_question_76 : decode prog_1_method_8_code 76 = .ok (.iastore, 1) := by decide +kernel
theorem d_L_question_77 : decode prog_1_method_8_code 77 = .ok (.aload_n 0, 1) := by decide +kernel
theorem d_L_question_78 : decode prog_1_method_8_code 78 = .ok (.dup, 1) := by decide +kernel
theorem d_L_question_79 : decode prog_1_method_8_code 79 = .ok (.getfield 27, 3) := by decide +kernel
theorem d_L_question_82 : decode prog_1_method_8_code 82 = .ok (.iconst 1, 1) := by decide +kernel
theorem d_L_question_83 : decode prog_1_method_8_code 83 = .ok (.iadd, 1) := by decide +kernel
theorem d_L_question_84 : decode prog_1_method_8_code 84 = .ok (.putfield 27, 3) := by decide +kernel
theorem d_L_question_87 : decode prog_1_method_8_code 87 = .ok (.iinc 3 1, 3) := by decide +kernel
theorem d_L_question_90 : decode prog_1_method_8_code 90 = .ok (.goto (-53), 3) := by decide +kernel
theorem d_L_question_93 : decode prog_1_method_8_code 93 = .ok (.aload_n 0, 1) := by decide +kernel
theorem d_L_question_94 : decode prog_1_method_8_code 94 = .ok (.getfield 27, 3) := by decide +kernel
theorem d_L_question_97 : decode prog_1_method_8_code 97 = .ok (.ireturn, 1) := by decide +kernel
theorem d_L_hit_0 : decode prog_1_method_9_code 0 = .ok (.iload_n 1, 1) := by decide +kernel
theorem d_L_hit_1 : decode prog_1_method_9_code 1 = .ok (.ifCond .lt 20, 3) := by decide +kernel
theorem d_L_hit_4 : decode prog_1_method_9_code 4 = .ok (.iload_n 1, 1) := by decide +kernel
theorem d_L_hit_5 : decode prog_1_method_9_code 5 = .ok (.aload_n 0, 1) := by decide +kernel
theorem d_L_hit_6 : decode prog_1_method_9_code 6 = .ok (.getfield 27, 3) := by decide +kernel
theorem d_L_hit_9 : decode prog_1_method_9_code 9 = .ok (.if_icmp .ge 12, 3) := by decide +kernel
theorem d_L_hit_12 : decode prog_1_method_9_code 12 = .ok (.aload_n 0, 1) := by decide +kernel
theorem d_L_hit_13 : decode prog_1_method_9_code 13 = .ok (.getfield 23, 3) := by decide +kernel
theorem d_L_hit_16 : decode prog_1_method_9_code 16 = .ok (.iload_n 1, 1) := by decide +kernel
theorem d_L_hit_17 : decode prog_1_method_9_code 17 = .ok (.iaload, 1) := by decide +kernel
theorem d_L_hit_18 : decode prog_1_method_9_code 18 = .ok (.goto 4, 3) := by decide +kernel
theorem d_L_hit_21 : decode prog_1_method_9_code 21 = .ok (.iconst (-1), 1) := by decide +kernel
theorem d_L_hit_22 : decode prog_1_method_9_code 22 = .ok (.ireturn, 1) := by decide +kernel
theorem d_L_due_0 : decode prog_1_method_10_code 0 = .ok (.iload_n 1, 1) := by decide +kernel
theorem d_L_due_1 : decode prog_1_method_10_code 1 = .ok (.i2l, 1) := by decide +kernel
theorem d_L_due_2 : decode prog_1_method_10_code 2 = .ok (.invokestatic 56, 3) := by decide +kernel
theorem d_L_due_5 : decode prog_1_method_10_code 5 = .ok (.ifCond .ne 7, 3) := by decide +kernel
theorem d_L_due_8 : decode prog_1_method_10_code 8 = .ok (.ldc2_w 90, 3) := by decide +kernel
theorem d_L_due_11 : decode prog_1_method_10_code 11 = .ok (.lreturn, 1) := by decide +kernel
theorem d_L_due_12 : decode prog_1_method_10_code 12 = .ok (.aload_n 0, 1) := by decide +kernel
theorem d_L_due_13 : decode prog_1_method_10_code 13 = .ok (.invokevirtual 77, 3) := by decide +kernel
theorem d_L_due_16 : decode prog_1_method_10_code 16 = .ok (.aload_n 0, 1) := by decide +kernel
theorem d_L_due_17 : decode prog_1_method_10_code 17 = .ok (.getfield 19, 3) := by decide +kernel
theorem d_L_due_20 : decode prog_1_method_10_code 20 = .ok (.iload_n 1, 1) := by decide +kernel
theorem d_L_due_21 : decode prog_1_method_10_code 21 = .ok (.invokevirtual 92, 3) := by decide +kernel
theorem d_L_due_24 : decode prog_1_method_10_code 24 = .ok (.lreturn, 1) := by decide +kernel
theorem d_L_queue_0 : decode prog_1_method_11_code 0 = .ok (.iload_n 1, 1) := by decide +kernel
theorem d_L_queue_1 : decode prog_1_method_11_code 1 = .ok (.i2l, 1) := by decide +kernel
theorem d_L_queue_2 : decode prog_1_method_11_code 2 = .ok (.invokestatic 56, 3) := by decide +kernel
theorem d_L_queue_5 : decode prog_1_method_11_code 5 = .ok (.ifCond .eq 7, 3) := by decide +kernel
theorem d_L_queue_8 : decode prog_1_method_11_code 8 = .ok (.iload_n 2, 1) := by decide +kernel
theorem d_L_queue_9 : decode prog_1_method_11_code 9 = .ok (.ifCond .ge 5, 3) := by decide +kernel
theorem d_L_queue_12 : decode prog_1_method_11_code 12 = .ok (.iconst (-1), 1) := by decide +kernel
theorem d_L_queue_13 : decode prog_1_method_11_code 13 = .ok (.ireturn, 1) := by decide +kernel
theorem d_L_queue_14 : decode prog_1_method_11_code 14 = .ok (.aload_n 0, 1) := by decide +kernel
theorem d_L_queue_15 : decode prog_1_method_11_code 15 = .ok (.invokevirtual 77, 3) := by decide +kernel
theorem d_L_queue_18 : decode prog_1_method_11_code 18 = .ok (.aload_n 0, 1) := by decide +kernel
theorem d_L_queue_19 : decode prog_1_method_11_code 19 = .ok (.getfield 19, 3) := by decide +kernel
theorem d_L_queue_22 : decode prog_1_method_11_code 22 = .ok (.iload_n 1, 1) := by decide +kernel
theorem d_L_queue_23 : decode prog_1_method_11_code 23 = .ok (.iload_n 2, 1) := by decide +kernel
theorem d_L_queue_24 : decode prog_1_method_11_code 24 = .ok (.invokevirtual 96, 3) := by decide +kernel
theorem d_L_queue_27 : decode prog_1_method_11_code 27 = .ok (.ireturn, 1) := by decide +kernel
theorem d_L_poll_0 : decode prog_1_method_12_code 0 = .ok (.iload_n 1, 1) := by decide +kernel
theorem d_L_poll_1 : decode prog_1_method_12_code 1 = .ok (.i2l, 1) := by decide +kernel
theorem d_L_poll_2 : decode prog_1_method_12_code 2 = .ok (.invokestatic 56, 3) := by decide +kernel
theorem d_L_poll_5 : decode prog_1_method_12_code 5 = .ok (.ifCond .ne 5, 3) := by decide +kernel
theorem d_L_poll_8 : decode prog_1_method_12_code 8 = .ok (.iconst (-1), 1) := by decide +kernel
theorem d_L_poll_9 : decode prog_1_method_12_code 9 = .ok (.ireturn, 1) := by decide +kernel
theorem d_L_poll_10 : decode prog_1_method_12_code 10 = .ok (.aload_n 0, 1) := by decide +kernel
theorem d_L_poll_11 : decode prog_1_method_12_code 11 = .ok (.invokevirtual 77, 3) := by decide +kernel
theorem d_L_poll_14 : decode prog_1_method_12_code 14 = .ok (.aload_n 0, 1) := by decide +kernel
theorem d_L_poll_15 : decode prog_1_method_12_code 15 = .ok (.getfield 19, 3) := by decide +kernel
theorem d_L_poll_18 : decode prog_1_method_12_code 18 = .ok (.iload_n 1, 1) := by decide +kernel
theorem d_L_poll_19 : decode prog_1_method_12_code 19 = .ok (.invokevirtual 99, 3) := by decide +kernel
theorem d_L_poll_22 : decode prog_1_method_12_code 22 = .ok (.ireturn, 1) := by decide +kernel
theorem d_L_kept_0 : decode prog_1_method_13_code 0 = .ok (.iload_n 1, 1) := by decide +kernel
theorem d_L_kept_1 : decode prog_1_method_13_code 1 = .ok (.i2l, 1) := by decide +kernel
theorem d_L_kept_2 : decode prog_1_method_13_code 2 = .ok (.invokestatic 56, 3) := by decide +kernel
theorem d_L_kept_5 : decode prog_1_method_13_code 5 = .ok (.ifCond .eq 7, 3) := by decide +kernel
theorem d_L_kept_8 : decode prog_1_method_13_code 8 = .ok (.iload_n 2, 1) := by decide +kernel
theorem d_L_kept_9 : decode prog_1_method_13_code 9 = .ok (.ifCond .ge 5, 3) := by decide +kernel
theorem d_L_kept_12 : decode prog_1_method_13_code 12 = .ok (.iconst (-1), 1) := by decide +kernel
theorem d_L_kept_13 : decode prog_1_method_13_code 13 = .ok (.ireturn, 1) := by decide +kernel
theorem d_L_kept_14 : decode prog_1_method_13_code 14 = .ok (.iconst 0, 1) := by decide +kernel
theorem d_L_kept_15 : decode prog_1_method_13_code 15 = .ok (.istore 6, 2) := by decide +kernel
theorem d_L_kept_17 : decode prog_1_method_13_code 17 = .ok (.aload_n 0, 1) := by decide +kernel
theorem d_L_kept_18 : decode prog_1_method_13_code 18 = .ok (.getfield 19, 3) := by decide +kernel
theorem d_L_kept_21 : decode prog_1_method_13_code 21 = .ok (.invokevirtual 49, 3) := by decide +kernel
theorem d_L_kept_24 : decode prog_1_method_13_code 24 = .ok (.iconst 0, 1) := by decide +kernel
theorem d_L_kept_25 : decode prog_1_method_13_code 25 = .ok (.istore 7, 2) := by decide +kernel
theorem d_L_kept_27 : decode prog_1_method_13_code 27 = .ok (.iload 7, 2) := by decide +kernel
theorem d_L_kept_29 : decode prog_1_method_13_code 29 = .ok (.aload_n 0, 1) := by decide +kernel
theorem d_L_kept_30 : decode prog_1_method_13_code 30 = .ok (.getfield 10, 3) := by decide +kernel
theorem d_L_kept_33 : decode prog_1_method_13_code 33 = .ok (.invokevirtual 45, 3) := by decide +kernel
theorem d_L_kept_36 : decode prog_1_method_13_code 36 = .ok (.if_icmp .ge 101, 3) := by decide +kernel
theorem d_L_kept_39 : decode prog_1_method_13_code 39 = .ok (.aload_n 0, 1) := by decide +kernel
theorem d_L_kept_40 : decode prog_1_method_13_code 40 = .ok (.getfield 10, 3) := by decide +kernel
theorem d_L_kept_43 : decode prog_1_method_13_code 43 = .ok (.iload 7, 2) := by decide +kernel
theorem d_L_kept_45 : decode prog_1_method_13_code 45 = .ok (.invokevirtual 102, 3) := by decide +kernel
theorem d_L_kept_48 : decode prog_1_method_13_code 48 = .ok (.istore 8, 2) := by decide +kernel
theorem d_L_kept_50 : decode prog_1_method_13_code 50 = .ok (.iload 8, 2) := by decide +kernel
theorem d_L_kept_52 : decode prog_1_method_13_code 52 = .ok (.iconst (-1), 1) := by decide +kernel
theorem d_L_kept_53 : decode prog_1_method_13_code 53 = .ok (.if_icmp .eq 20, 3) := by decide +kernel
theorem d_L_kept_56 : decode prog_1_method_13_code 56 = .ok (.aload_n 0, 1) := by decide +kernel
theorem d_L_kept_57 : decode prog_1_method_13_code 57 = .ok (.getfield 19, 3) := by decide +kernel
theorem d_L_kept_60 : decode prog_1_method_13_code 60 = .ok (.iload 8, 2) := by decide +kernel
theorem d_L_kept_62 : decode prog_1_method_13_code 62 = .ok (.invokevirtual 68, 3) := by decide +kernel
theorem d_L_kept_65 : decode prog_1_method_13_code 65 = .ok (.iload_n 1, 1) := by decide +kernel
theorem d_L_kept_66 : decode prog_1_method_13_code 66 = .ok (.if_icmp .ne 7, 3) := by decide +kernel
theorem d_L_kept_69 : decode prog_1_method_13_code 69 = .ok (.iconst 1, 1) := by decide +kernel
theorem d_L_kept_70 : decode prog_1_method_13_code 70 = .ok (.goto 4, 3) := by decide +kernel
theorem d_L_kept_73 : decode prog_1_method_13_code 73 = .ok (.iconst 0, 1) := by decide +kernel
theorem d_L_kept_74 : decode prog_1_method_13_code 74 = .ok (.istore 9, 2) := by decide +kernel
theorem d_L_kept_76 : decode prog_1_method_13_code 76 = .ok (.aload_n 0, 1) := by decide +kernel
theorem d_L_kept_77 : decode prog_1_method_13_code 77 = .ok (.getfield 10, 3) := by decide +kernel
theorem d_L_kept_80 : decode prog_1_method_13_code 80 = .ok (.iload 7, 2) := by decide +kernel
theorem d_L_kept_82 : decode prog_1_method_13_code 82 = .ok (.aload_n 0, 1) := by decide +kernel
theorem d_L_kept_83 : decode prog_1_method_13_code 83 = .ok (.getfield 19, 3) := by decide +kernel
theorem d_L_kept_86 : decode prog_1_method_13_code 86 = .ok (.invokevirtual 52, 3) := by decide +kernel
theorem d_L_kept_89 : decode prog_1_method_13_code 89 = .ok (.istore 10, 2) := by decide +kernel
theorem d_L_kept_91 : decode prog_1_method_13_code 91 = .ok (.iload 9, 2) := by decide +kernel
theorem d_L_kept_93 : decode prog_1_method_13_code 93 = .ok (.ifCond .eq 38, 3) := by decide +kernel
theorem d_L_kept_96 : decode prog_1_method_13_code 96 = .ok (.iload 10, 2) := by decide +kernel
theorem d_L_kept_98 : decode prog_1_method_13_code 98 = .ok (.ifCond .eq 33, 3) := by decide +kernel
theorem d_L_kept_101 : decode prog_1_method_13_code 101 = .ok (.aload_n 0, 1) := by decide +kernel
theorem d_L_kept_102 : decode prog_1_method_13_code 102 = .ok (.getfield 10, 3) := by decide +kernel
theorem d_L_kept_105 : decode prog_1_method_13_code 105 = .ok (.iload 7, 2) := by decide +kernel
theorem d_L_kept_107 : decode prog_1_method_13_code 107 = .ok (.invokevirtual 105, 3) := by decide +kernel
theorem d_L_kept_110 : decode prog_1_method_13_code 110 = .ok (.iload 5, 2) := by decide +kernel
theorem d_L_kept_112 : decode prog_1_method_13_code 112 = .ok (.i2l, 1) := by decide +kernel
theorem d_L_kept_113 : decode prog_1_method_13_code 113 = .ok (.ladd, 1) := by decide +kernel
theorem d_L_kept_114 : decode prog_1_method_13_code 114 = .ok (.lload_n 3, 1) := by decide +kernel
theorem d_L_kept_115 : decode prog_1_method_13_code 115 = .ok (.lcmp, 1) := by decide +kernel
theorem d_L_kept_116 : decode prog_1_method_13_code 116 = .ok (.ifCond .lt 15, 3) := by decide +kernel
theorem d_L_kept_119 : decode prog_1_method_13_code 119 = .ok (.iload 6, 2) := by decide +kernel
theorem d_L_kept_121 : decode prog_1_method_13_code 121 = .ok (.iload_n 2, 1) := by decide +kernel
theorem d_L_kept_122 : decode prog_1_method_13_code 122 = .ok (.if_icmp .ne 6, 3) := by decide +kernel
theorem d_L_kept_125 : decode prog_1_method_13_code 125 = .ok (.iload 8, 2) := by decide +kernel
theorem d_L_kept_127 : decode prog_1_method_13_code 127 = .ok (.ireturn, 1) := by decide +kernel
theorem d_L_kept_128 : decode prog_1_method_13_code 128 = .ok (.iinc 6 1, 3) := by decide +kernel
theorem d_L_kept_131 : decode prog_1_method_13_code 131 = .ok (.iinc 7 1, 3) := by decide +kernel
theorem d_L_kept_134 : decode prog_1_method_13_code 134 = .ok (.goto (-107), 3) := by decide +kernel
theorem d_L_kept_137 : decode prog_1_method_13_code 137 = .ok (.iconst (-1), 1) := by decide +kernel
theorem d_L_kept_138 : decode prog_1_method_13_code 138 = .ok (.ireturn, 1) := by decide +kernel
theorem d_L_most_0 : decode prog_1_method_14_code 0 = .ok (.iload_n 1, 1) := by decide +kernel
theorem d_L_most_1 : decode prog_1_method_14_code 1 = .ok (.i2l, 1) := by decide +kernel
theorem d_L_most_2 : decode prog_1_method_14_code 2 = .ok (.invokestatic 56, 3) := by decide +kernel
theorem d_L_most_5 : decode prog_1_method_14_code 5 = .ok (.ifCond .ne 5, 3) := by decide +kernel
theorem d_L_most_8 : decode prog_1_method_14_code 8 = .ok (.iconst (-1), 1) := by decide +kernel
theorem d_L_most_9 : decode prog_1_method_14_code 9 = .ok (.ireturn, 1) := by decide +kernel
theorem d_L_most_10 : decode prog_1_method_14_code 10 = .ok (.aload_n 0, 1) := by decide +kernel
theorem d_L_most_11 : decode prog_1_method_14_code 11 = .ok (.getfield 10, 3) := by decide +kernel
theorem d_L_most_14 : decode prog_1_method_14_code 14 = .ok (.invokevirtual 45, 3) := by decide +kernel
theorem d_L_most_17 : decode prog_1_method_14_code 17 = .ok (.bipush 100, 2) := by decide +kernel
theorem d_L_most_19 : decode prog_1_method_14_code 19 = .ok (.if_icmp .le 6, 3) := by decide +kernel
theorem d_L_most_22 : decode prog_1_method_14_code 22 = .ok (.bipush (-9), 2) := by decide +kernel
theorem d_L_most_24 : decode prog_1_method_14_code 24 = .ok (.ireturn, 1) := by decide +kernel
theorem d_L_most_25 : decode prog_1_method_14_code 25 = .ok (.iconst 0, 1) := by decide +kernel
theorem d_L_most_26 : decode prog_1_method_14_code 26 = .ok (.istore_n 2, 1) := by decide +kernel
theorem d_L_most_27 : decode prog_1_method_14_code 27 = .ok (.aload_n 0, 1) := by decide +kernel
theorem d_L_most_28 : decode prog_1_method_14_code 28 = .ok (.getfield 19, 3) := by decide +kernel
theorem d_L_most_31 : decode prog_1_method_14_code 31 = .ok (.invokevirtual 49, 3) := by decide +kernel
theorem d_L_most_34 : decode prog_1_method_14_code 34 = .ok (.iconst 0, 1) := by decide +kernel
theorem d_L_most_35 : decode prog_1_method_14_code 35 = .ok (.istore_n 3, 1) := by decide +kernel
theorem d_L_most_36 : decode prog_1_method_14_code 36 = .ok (.iload_n 3, 1) := by decide +kernel
theorem d_L_most_37 : decode prog_1_method_14_code 37 = .ok (.aload_n 0, 1) := by decide +kernel
theorem d_L_most_38 : decode prog_1_method_14_code 38 = .ok (.getfield 10, 3) := by decide +kernel
theorem d_L_most_41 : decode prog_1_method_14_code 41 = .ok (.invokevirtual 45, 3) := by decide +kernel
theorem d_L_most_44 : decode prog_1_method_14_code 44 = .ok (.if_icmp .ge 35, 3) := by decide +kernel
theorem d_L_most_47 : decode prog_1_method_14_code 47 = .ok (.aload_n 0, 1) := by decide +kernel
theorem d_L_most_48 : decode prog_1_method_14_code 48 = .ok (.getfield 10, 3) := by decide +kernel
theorem d_L_most_51 : decode prog_1_method_14_code 51 = .ok (.iload_n 3, 1) := by decide +kernel
theorem d_L_most_52 : decode prog_1_method_14_code 52 = .ok (.aload_n 0, 1) := by decide +kernel
theorem d_L_most_53 : decode prog_1_method_14_code 53 = .ok (.getfield 19, 3) := by decide +kernel
theorem d_L_most_56 : decode prog_1_method_14_code 56 = .ok (.invokevirtual 52, 3) := by decide +kernel
theorem d_L_most_59 : decode prog_1_method_14_code 59 = .ok (.pop, 1) := by decide +kernel
theorem d_L_most_60 : decode prog_1_method_14_code 60 = .ok (.iload_n 2, 1) := by decide +kernel
theorem d_L_most_61 : decode prog_1_method_14_code 61 = .ok (.aload_n 0, 1) := by decide +kernel
theorem d_L_most_62 : decode prog_1_method_14_code 62 = .ok (.getfield 19, 3) := by decide +kernel
theorem d_L_most_65 : decode prog_1_method_14_code 65 = .ok (.iload_n 1, 1) := by decide +kernel
theorem d_L_most_66 : decode prog_1_method_14_code 66 = .ok (.invokevirtual 108, 3) := by decide +kernel
theorem d_L_most_69 : decode prog_1_method_14_code 69 = .ok (.invokestatic 111, 3) := by decide +kernel
theorem d_L_most_72 : decode prog_1_method_14_code 72 = .ok (.istore_n 2, 1) := by decide +kernel
theorem d_L_most_73 : decode prog_1_method_14_code 73 = .ok (.iinc 3 1, 3) := by decide +kernel
theorem d_L_most_76 : decode prog_1_method_14_code 76 = .ok (.goto (-40), 3) := by decide +kernel
theorem d_L_most_79 : decode prog_1_method_14_code 79 = .ok (.iload_n 2, 1) := by decide +kernel
theorem d_L_most_80 : decode prog_1_method_14_code 80 = .ok (.ireturn, 1) := by decide +kernel
theorem d_L_firstVoidWithout_0 : decode prog_1_method_21_code 0 = .ok (.aload_n 0, 1) := by decide +kernel
theorem d_L_firstVoidWithout_1 : decode prog_1_method_21_code 1 = .ok (.getfield 19, 3) := by decide +kernel
theorem d_L_firstVoidWithout_4 : decode prog_1_method_21_code 4 = .ok (.invokevirtual 49, 3) := by decide +kernel
theorem d_L_firstVoidWithout_7 : decode prog_1_method_21_code 7 = .ok (.iconst 0, 1) := by decide +kernel
theorem d_L_firstVoidWithout_8 : decode prog_1_method_21_code 8 = .ok (.istore_n 3, 1) := by decide +kernel
theorem d_L_firstVoidWithout_9 : decode prog_1_method_21_code 9 = .ok (.iload_n 3, 1) := by decide +kernel
theorem d_L_firstVoidWithout_10 : decode prog_1_method_21_code 10 = .ok (.aload_n 0, 1) := by decide +kernel
theorem d_L_firstVoidWithout_11 : decode prog_1_method_21_code 11 = .ok (.getfield 10, 3) := by decide +kernel
theorem d_L_firstVoidWithout_14 : decode prog_1_method_21_code 14 = .ok (.invokevirtual 45, 3) := by decide +kernel
theorem d_L_firstVoidWithout_17 : decode prog_1_method_21_code 17 = .ok (.if_icmp .ge 36, 3) := by decide +kernel
theorem d_L_firstVoidWithout_20 : decode prog_1_method_21_code 20 = .ok (.iload_n 3, 1) := by decide +kernel
theorem d_L_firstVoidWithout_21 : decode prog_1_method_21_code 21 = .ok (.iload_n 1, 1) := by decide +kernel
theorem d_L_firstVoidWithout_22 : decode prog_1_method_21_code 22 = .ok (.if_icmp .eq 25, 3) := by decide +kernel
theorem d_L_firstVoidWithout_25 : decode prog_1_method_21_code 25 = .ok (.iload_n 3, 1) := by decide +kernel
theorem d_L_firstVoidWithout_26 : decode prog_1_method_21_code 26 = .ok (.iload_n 2, 1) := by decide +kernel
theorem d_L_firstVoidWithout_27 : decode prog_1_method_21_code 27 = .ok (.if_icmp .eq 20, 3) := by decide +kernel
theorem d_L_firstVoidWithout_30 : decode prog_1_method_21_code 30 = .ok (.aload_n 0, 1) := by decide +kernel
theorem d_L_firstVoidWithout_31 : decode prog_1_method_21_code 31 = .ok (.getfield 10, 3) := by decide +kernel
theorem d_L_firstVoidWithout_34 : decode prog_1_method_21_code 34 = .ok (.iload_n 3, 1) := by decide +kernel
theorem d_L_firstVoidWithout_35 : decode prog_1_method_21_code 35 = .ok (.aload_n 0, 1) := by decide +kernel
theorem d_L_firstVoidWithout_36 : decode prog_1_method_21_code 36 = .ok (.getfield 19, 3) := by decide +kernel
theorem d_L_firstVoidWithout_39 : decode prog_1_method_21_code 39 = .ok (.invokevirtual 52, 3) := by decide +kernel
theorem d_L_firstVoidWithout_42 : decode prog_1_method_21_code 42 = .ok (.ifCond .ne 5, 3) := by decide +kernel
theorem d_L_firstVoidWithout_45 : decode prog_1_method_21_code 45 = .ok (.iload_n 3, 1) := by decide +kernel
theorem d_L_firstVoidWithout_46 : decode prog_1_method_21_code 46 = .ok (.ireturn, 1) := by decide +kernel
theorem d_L_firstVoidWithout_47 : decode prog_1_method_21_code 47 = .ok (.iinc 3 1, 3) := by decide +kernel
theorem d_L_firstVoidWithout_50 : decode prog_1_method_21_code 50 = .ok (.goto (-41), 3) := by decide +kernel
theorem d_L_firstVoidWithout_53 : decode prog_1_method_21_code 53 = .ok (.iconst (-1), 1) := by decide +kernel
theorem d_L_firstVoidWithout_54 : decode prog_1_method_21_code 54 = .ok (.ireturn, 1) := by decide +kernel
theorem d_L_oneLessIsEnough_0 : decode prog_1_method_22_code 0 = .ok (.iconst 0, 1) := by decide +kernel
theorem d_L_oneLessIsEnough_1 : decode prog_1_method_22_code 1 = .ok (.istore_n 2, 1) := by decide +kernel
theorem d_L_oneLessIsEnough_2 : decode prog_1_method_22_code 2 = .ok (.iload_n 2, 1) := by decide +kernel
theorem d_L_oneLessIsEnough_3 : decode prog_1_method_22_code 3 = .ok (.iload_n 1, 1) := by decide +kernel
theorem d_L_oneLessIsEnough_4 : decode prog_1_method_22_code 4 = .ok (.if_icmp .gt 21, 3) := by decide +kernel
theorem d_L_oneLessIsEnough_7 : decode prog_1_method_22_code 7 = .ok (.aload_n 0, 1) := by decide +kernel
theorem d_L_oneLessIsEnough_8 : decode prog_1_method_22_code 8 = .ok (.iload_n 2, 1) := by decide +kernel
theorem d_L_oneLessIsEnough_9 : decode prog_1_method_22_code 9 = .ok (.iconst (-1), 1) := by decide +kernel
theorem d_L_oneLessIsEnough_10 : decode prog_1_method_22_code 10 = .ok (.invokevirtual 116, 3) := by decide +kernel
theorem d_L_oneLessIsEnough_13 : decode prog_1_method_22_code 13 = .ok (.iconst (-1), 1) := by decide +kernel
theorem d_L_oneLessIsEnough_14 : decode prog_1_method_22_code 14 = .ok (.if_icmp .ne 5, 3) := by decide +kernel
theorem d_L_oneLessIsEnough_17 : decode prog_1_method_22_code 17 = .ok (.iconst 1, 1) := by decide +kernel
theorem d_L_oneLessIsEnough_18 : decode prog_1_method_22_code 18 = .ok (.ireturn, 1) := by decide +kernel
theorem d_L_oneLessIsEnough_19 : decode prog_1_method_22_code 19 = .ok (.iinc 2 1, 3) := by decide +kernel
theorem d_L_oneLessIsEnough_22 : decode prog_1_method_22_code 22 = .ok (.goto (-20), 3) := by decide +kernel
theorem d_L_oneLessIsEnough_25 : decode prog_1_method_22_code 25 = .ok (.iconst 0, 1) := by decide +kernel
theorem d_L_oneLessIsEnough_26 : decode prog_1_method_22_code 26 = .ok (.ireturn, 1) := by decide +kernel
theorem d_L_twoLessAreEnough_0 : decode prog_1_method_23_code 0 = .ok (.iconst 0, 1) := by decide +kernel
theorem d_L_twoLessAreEnough_1 : decode prog_1_method_23_code 1 = .ok (.istore_n 2, 1) := by decide +kernel
theorem d_L_twoLessAreEnough_2 : decode prog_1_method_23_code 2 = .ok (.iload_n 2, 1) := by decide +kernel
theorem d_L_twoLessAreEnough_3 : decode prog_1_method_23_code 3 = .ok (.iload_n 1, 1) := by decide +kernel
theorem d_L_twoLessAreEnough_4 : decode prog_1_method_23_code 4 = .ok (.if_icmp .gt 46, 3) := by decide +kernel
theorem d_L_twoLessAreEnough_7 : decode prog_1_method_23_code 7 = .ok (.aload_n 0, 1) := by decide +kernel
theorem d_L_twoLessAreEnough_8 : decode prog_1_method_23_code 8 = .ok (.iload_n 2, 1) := by decide +kernel
theorem d_L_twoLessAreEnough_9 : decode prog_1_method_23_code 9 = .ok (.iconst (-1), 1) := by decide +kernel
theorem d_L_twoLessAreEnough_10 : decode prog_1_method_23_code 10 = .ok (.invokevirtual 116, 3) := by decide +kernel
theorem d_L_twoLessAreEnough_13 : decode prog_1_method_23_code 13 = .ok (.istore_n 3, 1) := by decide +kernel
theorem d_L_twoLessAreEnough_14 : decode prog_1_method_23_code 14 = .ok (.iload_n 2, 1) := by decide +kernel
theorem d_L_twoLessAreEnough_15 : decode prog_1_method_23_code 15 = .ok (.iconst 1, 1) := by decide +kernel
theorem d_L_twoLessAreEnough_16 : decode prog_1_method_23_code 16 = .ok (.iadd, 1) := by decide +kernel
theorem d_L_twoLessAreEnough_17 : decode prog_1_method_23_code 17 = .ok (.istore 4, 2) := by decide +kernel
theorem d_L_twoLessAreEnough_19 : decode prog_1_method_23_code 19 = .ok (.iload 4, 2) := by decide +kernel
theorem d_L_twoLessAreEnough_21 : decode prog_1_method_23_code 21 = .ok (.iload_n 3, 1) := by decide +kernel
theorem d_L_twoLessAreEnough_22 : decode prog_1_method_23_code 22 = .ok (.if_icmp .gt 22, 3) := by decide +kernel
theorem d_L_twoLessAreEnough_25 : decode prog_1_method_23_code 25 = .ok (.aload_n 0, 1) := by decide +kernel
theorem d_L_twoLessAreEnough_26 : decode prog_1_method_23_code 26 = .ok (.iload_n 2, 1) := by decide +kernel
theorem d_L_twoLessAreEnough_27 : decode prog_1_method_23_code 27 = .ok (.iload 4, 2) := by decide +kernel
theorem d_L_twoLessAreEnough_29 : decode prog_1_method_23_code 29 = .ok (.invokevirtual 116, 3) := by decide +kernel
theorem d_L_twoLessAreEnough_32 : decode prog_1_method_23_code 32 = .ok (.iconst (-1), 1) := by decide +kernel
theorem d_L_twoLessAreEnough_33 : decode prog_1_method_23_code 33 = .ok (.if_icmp .ne 5, 3) := by decide +kernel
theorem d_L_twoLessAreEnough_36 : decode prog_1_method_23_code 36 = .ok (.iconst 1, 1) := by decide +kernel
theorem d_L_twoLessAreEnough_37 : decode prog_1_method_23_code 37 = .ok (.ireturn, 1) := by decide +kernel
theorem d_L_twoLessAreEnough_38 : decode prog_1_method_23_code 38 = .ok (.iinc 4 1, 3) := by decide +kernel
theorem d_L_twoLessAreEnough_41 : decode prog_1_method_23_code 41 = .ok (.goto (-22), 3) := by decide +kernel
theorem d_L_twoLessAreEnough_44 : decode prog_1_method_23_code 44 = .ok (.iinc 2 1, 3) := by decide +kernel
theorem d_L_twoLessAreEnough_47 : decode prog_1_method_23_code 47 = .ok (.goto (-45), 3) := by decide +kernel
theorem d_L_twoLessAreEnough_50 : decode prog_1_method_23_code 50 = .ok (.iconst 0, 1) := by decide +kernel
theorem d_L_twoLessAreEnough_51 : decode prog_1_method_23_code 51 = .ok (.ireturn, 1) := by decide +kernel
theorem d_L_least_0 : decode prog_1_method_15_code 0 = .ok (.aload_n 0, 1) := by decide +kernel
theorem d_L_least_1 : decode prog_1_method_15_code 1 = .ok (.getfield 10, 3) := by decide +kernel
theorem d_L_least_4 : decode prog_1_method_15_code 4 = .ok (.invokevirtual 45, 3) := by decide +kernel
theorem d_L_least_7 : decode prog_1_method_15_code 7 = .ok (.bipush 30, 2) := by decide +kernel
theorem d_L_least_9 : decode prog_1_method_15_code 9 = .ok (.if_icmp .le 6, 3) := by decide +kernel
theorem d_L_least_12 : decode prog_1_method_15_code 12 = .ok (.bipush (-9), 2) := by decide +kernel
theorem d_L_least_14 : decode prog_1_method_15_code 14 = .ok (.ireturn, 1) := by decide +kernel
theorem d_L_least_15 : decode prog_1_method_15_code 15 = .ok (.aload_n 0, 1) := by decide +kernel
theorem d_L_least_16 : decode prog_1_method_15_code 16 = .ok (.iconst (-1), 1) := by decide +kernel
theorem d_L_least_17 : decode prog_1_method_15_code 17 = .ok (.iconst (-1), 1) := by decide +kernel
theorem d_L_least_18 : decode prog_1_method_15_code 18 = .ok (.invokevirtual 116, 3) := by decide +kernel
theorem d_L_least_21 : decode prog_1_method_15_code 21 = .ok (.istore_n 1, 1) := by decide +kernel
theorem d_L_least_22 : decode prog_1_method_15_code 22 = .ok (.iload_n 1, 1) := by decide +kernel
theorem d_L_least_23 : decode prog_1_method_15_code 23 = .ok (.iconst (-1), 1) := by decide +kernel
theorem d_L_least_24 : decode prog_1_method_15_code 24 = .ok (.if_icmp .ne 5, 3) := by decide +kernel
theorem d_L_least_27 : decode prog_1_method_15_code 27 = .ok (.iconst 0, 1) := by decide +kernel
theorem d_L_least_28 : decode prog_1_method_15_code 28 = .ok (.ireturn, 1) := by decide +kernel
theorem d_L_least_29 : decode prog_1_method_15_code 29 = .ok (.aload_n 0, 1) := by decide +kernel
theorem d_L_least_30 : decode prog_1_method_15_code 30 = .ok (.iload_n 1, 1) := by decide +kernel
theorem d_L_least_31 : decode prog_1_method_15_code 31 = .ok (.invokevirtual 119, 3) := by decide +kernel
theorem d_L_least_34 : decode prog_1_method_15_code 34 = .ok (.ifCond .eq 5, 3) := by decide +kernel
theorem d_L_least_37 : decode prog_1_method_15_code 37 = .ok (.iconst 1, 1) := by decide +kernel
theorem d_L_least_38 : decode prog_1_method_15_code 38 = .ok (.ireturn, 1) := by decide +kernel
theorem d_L_least_39 : decode prog_1_method_15_code 39 = .ok (.aload_n 0, 1) := by decide +kernel
theorem d_L_least_40 : decode prog_1_method_15_code 40 = .ok (.iload_n 1, 1) := by decide +kernel
theorem d_L_least_41 : decode prog_1_method_15_code 41 = .ok (.invokevirtual 123, 3) := by decide +kernel
theorem d_L_least_44 : decode prog_1_method_15_code 44 = .ok (.ifCond .eq 7, 3) := by decide +kernel
theorem d_L_least_47 : decode prog_1_method_15_code 47 = .ok (.iconst 2, 1) := by decide +kernel
theorem d_L_least_48 : decode prog_1_method_15_code 48 = .ok (.goto 4, 3) := by decide +kernel
theorem d_L_least_51 : decode prog_1_method_15_code 51 = .ok (.iconst 3, 1) := by decide +kernel
theorem d_L_least_52 : decode prog_1_method_15_code 52 = .ok (.ireturn, 1) := by decide +kernel
end
section
theorem d_M_init_0 : decode prog_5_method_1_code 0 = .ok (.aload_n 0, 1) := by decide +kernel
theorem d_M_init_1 : decode prog_5_method_1_code 1 = .ok (.invokespecial 1, 3) := by decide +kernel
theorem d_M_init_4 : decode prog_5_method_1_code 4 = .ok (.aload_n 0, 1) := by decide +kernel
theorem d_M_init_5 : decode prog_5_method_1_code 5 = .ok (.sipush 200, 3) := by decide +kernel
theorem d_M_init_8 : decode prog_5_method_1_code 8 = .ok (.newarray .int, 2) := by decide +kernel
theorem d_M_init_10 : decode prog_5_method_1_code 10 = .ok (.putfield 7, 3) := by decide +kernel
theorem d_M_init_13 : decode prog_5_method_1_code 13 = .ok (.aload_n 0, 1) := by decide +kernel
theorem d_M_init_14 : decode prog_5_method_1_code 14 = .ok (.sipush 200, 3) := by decide +kernel
theorem d_M_init_17 : decode prog_5_method_1_code 17 = .ok (.newarray .int, 2) := by decide +kernel
theorem d_M_init_19 : decode prog_5_method_1_code 19 = .ok (.putfield 13, 3) := by decide +kernel
theorem d_M_init_22 : decode prog_5_method_1_code 22 = .ok (.aload_n 0, 1) := by decide +kernel
theorem d_M_init_23 : decode prog_5_method_1_code 23 = .ok (.sipush 200, 3) := by decide +kernel
theorem d_M_init_26 : decode prog_5_method_1_code 26 = .ok (.newarray .long, 2) := by decide +kernel
theorem d_M_init_28 : decode prog_5_method_1_code 28 = .ok (.putfield 16, 3) := by decide +kernel
theorem d_M_init_31 : decode prog_5_method_1_code 31 = .ok (.aload_n 0, 1) := by decide +kernel
theorem d_M_init_32 : decode prog_5_method_1_code 32 = .ok (.sipush 200, 3) := by decide +kernel
theorem d_M_init_35 : decode prog_5_method_1_code 35 = .ok (.newarray .long, 2) := by decide +kernel
theorem d_M_init_37 : decode prog_5_method_1_code 37 = .ok (.putfield 20, 3) := by decide +kernel
theorem d_M_init_40 : decode prog_5_method_1_code 40 = .ok (.aload_n 0, 1) := by decide +kernel
theorem d_M_init_41 : decode prog_5_method_1_code 41 = .ok (.sipush 2100, 3) := by decide +kernel
theorem d_M_init_44 : decode prog_5_method_1_code 44 = .ok (.newarray .boolean, 2) := by decide +kernel
theorem d_M_init_46 : decode prog_5_method_1_code 46 = .ok (.putfield 23, 3) := by decide +kernel
theorem d_M_init_49 : decode prog_5_method_1_code 49 = .ok (.aload_n 0, 1) := by decide +kernel
theorem d_M_init_50 : decode prog_5_method_1_code 50 = .ok (.bipush 21, 2) := by decide +kernel
theorem d_M_init_52 : decode prog_5_method_1_code 52 = .ok (.newarray .int, 2) := by decide +kernel
theorem d_M_init_54 : decode prog_5_method_1_code 54 = .ok (.putfield 27, 3) := by decide +kernel
theorem d_M_init_57 : decode prog_5_method_1_code 57 = .ok (.aload_n 0, 1) := by decide +kernel
theorem d_M_init_58 : decode prog_5_method_1_code 58 = .ok (.bipush 21, 2) := by decide +kernel
theorem d_M_init_60 : decode prog_5_method_1_code 60 = .ok (.newarray .int, 2) := by decide +kernel
theorem d_M_init_62 : decode prog_5_method_1_code 62 = .ok (.putfield 30, 3) := by decide +kernel
theorem d_M_init_65 : decode prog_5_method_1_code 65 = .ok (.aload_n 0, 1) := by decide +kernel
theorem d_M_init_66 : decode prog_5_method_1_code 66 = .ok (.bipush 21, 2) := by decide +kernel
theorem d_M_init_68 : decode prog_5_method_1_code 68 = .ok (.newarray .long, 2) := by decide +kernel
theorem d_M_init_70 : decode prog_5_method_1_code 70 = .ok (.putfield 33, 3) := by decide +kernel
theorem d_M_init_73 : decode prog_5_method_1_code 73 = .ok (.aload_n 0, 1) := by decide +kernel
theorem d_M_init_74 : decode prog_5_method_1_code 74 = .ok (.sipush 420, 3) := by decide +kernel
theorem d_M_init_77 : decode prog_5_method_1_code 77 = .ok (.newarray .int, 2) := by decide +kernel
theorem d_M_init_79 : decode prog_5_method_1_code 79 = .ok (.putfield 36, 3) := by decide +kernel
theorem d_M_init_82 : decode prog_5_method_1_code 82 = .ok (.aload_n 0, 1) := by decide +kernel
theorem d_M_init_83 : decode prog_5_method_1_code 83 = .ok (.bipush 21, 2) := by decide +kernel
theorem d_M_init_85 : decode prog_5_method_1_code 85 = .ok (.newarray .int, 2) := by decide +kernel
theorem d_M_init_87 : decode prog_5_method_1_code 87 = .ok (.putfield 39, 3) := by decide +kernel
theorem d_M_init_90 : decode prog_5_method_1_code 90 = .ok (.aload_n 0, 1) := by decide +kernel
theorem d_M_init_91 : decode prog_5_method_1_code 91 = .ok (.bipush 126, 2) := by decide +kernel
theorem d_M_init_93 : decode prog_5_method_1_code 93 = .ok (.newarray .int, 2) := by decide +kernel
theorem d_M_init_95 : decode prog_5_method_1_code 95 = .ok (.putfield 42, 3) := by decide +kernel
theorem d_M_init_98 : decode prog_5_method_1_code 98 = .ok (.aload_n 0, 1) := by decide +kernel
theorem d_M_init_99 : decode prog_5_method_1_code 99 = .ok (.bipush 21, 2) := by decide +kernel
theorem d_M_init_101 : decode prog_5_method_1_code 101 = .ok (.newarray .int, 2) := by decide +kernel
theorem d_M_init_103 : decode prog_5_method_1_code 103 = .ok (.putfield 45, 3) := by decide +kernel
theorem d_M_init_106 : decode prog_5_method_1_code 106 = .ok (.aload_n 0, 1) := by decide +kernel
theorem d_M_init_107 : decode prog_5_method_1_code 107 = .ok (.bipush 10, 2) := by decide +kernel
theorem d_M_init_109 : decode prog_5_method_1_code 109 = .ok (.newarray .int, 2) := by decide +kernel
theorem d_M_init_111 : decode prog_5_method_1_code 111 = .ok (.putfield 48, 3) := by decide +kernel
theorem d_M_init_114 : decode prog_5_method_1_code 114 = .ok (.aload_n 0, 1) := by decide +kernel
theorem d_M_init_115 : decode prog_5_method_1_code 115 = .ok (.sipush 200, 3) := by decide +kernel
theorem d_M_init_118 : decode prog_5_method_1_code 118 = .ok (.newarray .boolean, 2) := by decide +kernel
theorem d_M_init_120 : decode prog_5_method_1_code 120 = .ok (.putfield 51, 3) := by decide +kernel
theorem d_M_init_123 : decode prog_5_method_1_code 123 = .ok (.aload_n 0, 1) := by decide +kernel
theorem d_M_init_124 : decode prog_5_method_1_code 124 = .ok (.sipush 200, 3) := by decide +kernel
theorem d_M_init_127 : decode prog_5_method_1_code 127 = .ok (.newarray .int, 2) := by decide +kernel
theorem d_M_init_129 : decode prog_5_method_1_code 129 = .ok (.putfield 54, 3) := by decide +kernel
theorem d_M_init_132 : decode prog_5_method_1_code 132 = .ok (.aload_n 0, 1) := by decide +kernel
theorem d_M_init_133 : decode prog_5_method_1_code 133 = .ok (.bipush 20, 2) := by decide +kernel
theorem d_M_init_135 : decode prog_5_method_1_code 135 = .ok (.newarray .int, 2) := by decide +kernel
theorem d_M_init_137 : decode prog_5_method_1_code 137 = .ok (.putfield 57, 3) := by decide +kernel
theorem d_M_init_140 : decode prog_5_method_1_code 140 = .ok (.return_, 1) := by decide +kernel
theorem d_M_in_0 : decode prog_5_method_3_code 0 = .ok (.lload_n 0, 1) := by decide +kernel
theorem d_M_in_1 : decode prog_5_method_3_code 1 = .ok (.lload_n 2, 1) := by decide +kernel
theorem d_M_in_2 : decode prog_5_method_3_code 2 = .ok (.lcmp, 1) := by decide +kernel
theorem d_M_in_3 : decode prog_5_method_3_code 3 = .ok (.ifCond .lt 14, 3) := by decide +kernel
theorem d_M_in_6 : decode prog_5_method_3_code 6 = .ok (.lload_n 0, 1) := by decide +kernel
theorem d_M_in_7 : decode prog_5_method_3_code 7 = .ok (.lload 4, 2) := by decide +kernel
theorem d_M_in_9 : decode prog_5_method_3_code 9 = .ok (.lcmp, 1) := by decide +kernel
theorem d_M_in_10 : decode prog_5_method_3_code 10 = .ok (.ifCond .gt 7, 3) := by decide +kernel
theorem d_M_in_13 : decode prog_5_method_3_code 13 = .ok (.iconst 1, 1) := by decide +kernel
theorem d_M_in_14 : decode prog_5_method_3_code 14 = .ok (.goto 4, 3) := by decide +kernel
theorem d_M_in_17 : decode prog_5_method_3_code 17 = .ok (.iconst 0, 1) := by decide +kernel
theorem d_M_in_18 : decode prog_5_method_3_code 18 = .ok (.ireturn, 1) := by decide +kernel
theorem d_M_can_0 : decode prog_5_method_4_code 0 = .ok (.iload_n 0, 1) := by decide +kernel
theorem d_M_can_1 : decode prog_5_method_4_code 1 = .ok (.tableswitch 208 0 10 #[59, 59, 87, 87, 115, 87, 87, 124, 124, 152, 180], 59) := by decide +kernel
theorem d_M_can_60 : decode prog_5_method_4_code 60 = .ok (.lload_n 1, 1) := by decide +kernel
theorem d_M_can_61 : decode prog_5_method_4_code 61 = .ok (.lconst 1, 1) := by decide +kernel
theorem d_M_can_62 : decode prog_5_method_4_code 62 = .ok (.ldc2_w 64, 3) := by decide +kernel
theorem d_M_can_65 : decode prog_5_method_4_code 65 = .ok (.invokestatic 66, 3) := by decide +kernel
theorem d_M_can_68 : decode prog_5_method_4_code 68 = .ok (.ifCond .eq 18, 3) := by decide +kernel
theorem d_M_can_71 : decode prog_5_method_4_code 71 = .ok (.lload_n 3, 1) := by decide +kernel
theorem d_M_can_72 : decode prog_5_method_4_code 72 = .ok (.lconst 1, 1) := by decide +kernel
theorem d_M_can_73 : decode prog_5_method_4_code 73 = .ok (.ldc2_w 70, 3) := by decide +kernel
theorem d_M_can_76 : decode prog_5_method_4_code 76 = .ok (.invokestatic 66, 3) := by decide +kernel
theorem d_M_can_79 : decode prog_5_method_4_code 79 = .ok (.ifCond .eq 7, 3) := by decide +kernel
theorem d_M_can_82 : decode prog_5_method_4_code 82 = .ok (.iconst 1, 1) := by decide +kernel
theorem d_M_can_83 : decode prog_5_method_4_code 83 = .ok (.goto 4, 3) := by decide +kernel
theorem d_M_can_86 : decode prog_5_method_4_code 86 = .ok (.iconst 0, 1) := by decide +kernel
theorem d_M_can_87 : decode prog_5_method_4_code 87 = .ok (.ireturn, 1) := by decide +kernel
theorem d_M_can_88 : decode prog_5_method_4_code 88 = .ok (.lload_n 1, 1) := by decide +kernel
theorem d_M_can_89 : decode prog_5_method_4_code 89 = .ok (.lconst 1, 1) := by decide +kernel
theorem d_M_can_90 : decode prog_5_method_4_code 90 = .ok (.ldc2_w 64, 3) := by decide +kernel
theorem d_M_can_93 : decode prog_5_method_4_code 93 = .ok (.invokestatic 66, 3) := by decide +kernel
theorem d_M_can_96 : decode prog_5_method_4_code 96 = .ok (.ifCond .eq 18, 3) := by decide +kernel
theorem d_M_can_99 : decode prog_5_method_4_code 99 = .ok (.lload_n 3, 1) := by decide +kernel
theorem d_M_can_100 : decode prog_5_method_4_code 100 = .ok (.lconst 1, 1) := by decide +kernel
theorem d_M_can_101 : decode prog_5_method_4_code 101 = .ok (.ldc2_w 64, 3) := by decide +kernel
theorem d_M_can_104 : decode prog_5_method_4_code 104 = .ok (.invokestatic 66, 3) := by decide +kernel
theorem d_M_can_107 : decode prog_5_method_4_code 107 = .ok (.ifCond .eq 7, 3) := by decide +kernel
theorem d_M_can_110 : decode prog_5_method_4_code 110 = .ok (.iconst 1, 1) := by decide +kernel
theorem d_M_can_111 : decode prog_5_method_4_code 111 = .ok (.goto 4, 3) := by decide +kernel
theorem d_M_can_114 : decode prog_5_method_4_code 114 = .ok (.iconst 0, 1) := by decide +kernel
theorem d_M_can_115 : decode prog_5_method_4_code 115 = .ok (.ireturn, 1) := by decide +kernel
theorem d_M_can_116 : decode prog_5_method_4_code 116 = .ok (.lload_n 1, 1) := by decide +kernel
theorem d_M_can_117 : decode prog_5_method_4_code 117 = .ok (.lconst 1, 1) := by decide +kernel
theorem d_M_can_118 : decode prog_5_method_4_code 118 = .ok (.ldc2_w 64, 3) := by decide +kernel
theorem d_M_can_121 : decode prog_5_method_4_code 121 = .ok (.invokestatic 66, 3) := by decide +kernel
theorem d_M_can_124 : decode prog_5_method_4_code 124 = .ok (.ireturn, 1) := by decide +kernel
theorem d_M_can_125 : decode prog_5_method_4_code 125 = .ok (.lload_n 1, 1) := by decide +kernel
theorem d_M_can_126 : decode prog_5_method_4_code 126 = .ok (.lconst 1, 1) := by decide +kernel
theorem d_M_can_127 : decode prog_5_method_4_code 127 = .ok (.ldc2_w 64, 3) := by decide +kernel
theorem d_M_can_130 : decode prog_5_method_4_code 130 = .ok (.invokestatic 66, 3) := by decide +kernel
theorem d_M_can_133 : decode prog_5_method_4_code 133 = .ok (.ifCond .eq 18, 3) := by decide +kernel
theorem d_M_can_136 : decode prog_5_method_4_code 136 = .ok (.lload_n 3, 1) := by decide +kernel
theorem d_M_can_137 : decode prog_5_method_4_code 137 = .ok (.lconst 1, 1) := by decide +kernel
theorem d_M_can_138 : decode prog_5_method_4_code 138 = .ok (.ldc2_w 72, 3) := by decide +kernel
theorem d_M_can_141 : decode prog_5_method_4_code 141 = .ok (.invokestatic 66, 3) := by decide +kernel
theorem d_M_can_144 : decode prog_5_method_4_code 144 = .ok (.ifCond .eq 7, 3) := by decide +kernel
theorem d_M_can_147 : decode prog_5_method_4_code 147 = .ok (.iconst 1, 1) := by decide +kernel
theorem d_M_can_148 : decode prog_5_method_4_code 148 = .ok (.goto 4, 3) := by decide +kernel
theorem d_M_can_151 : decode prog_5_method_4_code 151 = .ok (.iconst 0, 1) := by decide +kernel
theorem d_M_can_152 : decode prog_5_method_4_code 152 = .ok (.ireturn, 1) := by decide +kernel
theorem d_M_can_153 : decode prog_5_method_4_code 153 = .ok (.lload_n 1, 1) := by decide +kernel
theorem d_M_can_154 : decode prog_5_method_4_code 154 = .ok (.lconst 1, 1) := by decide +kernel
theorem d_M_can_155 : decode prog_5_method_4_code 155 = .ok (.ldc2_w 64, 3) := by decide +kernel
theorem d_M_can_158 : decode prog_5_method_4_code 158 = .ok (.invokestatic 66, 3) := by decide +kernel
theorem d_M_can_161 : decode prog_5_method_4_code 161 = .ok (.ifCond .eq 18, 3) := by decide +kernel
theorem d_M_can_164 : decode prog_5_method_4_code 164 = .ok (.lload_n 3, 1) := by decide +kernel
theorem d_M_can_165 : decode prog_5_method_4_code 165 = .ok (.lconst 0, 1) := by decide +kernel
theorem d_M_can_166 : decode prog_5_method_4_code 166 = .ok (.ldc2_w 74, 3) := by decide +kernel
theorem d_M_can_169 : decode prog_5_method_4_code 169 = .ok (.invokestatic 66, 3) := by decide +kernel
theorem d_M_can_172 : decode prog_5_method_4_code 172 = .ok (.ifCond .eq 7, 3) := by decide +kernel
theorem d_M_can_175 : decode prog_5_method_4_code 175 = .ok (.iconst 1, 1) := by decide +kernel
theorem d_M_can_176 : decode prog_5_method_4_code 176 = .ok (.goto 4, 3) := by decide +kernel
theorem d_M_can_179 : decode prog_5_method_4_code 179 = .ok (.iconst 0, 1) := by decide +kernel
theorem d_M_can_180 : decode prog_5_method_4_code 180 = .ok (.ireturn, 1) := by decide +kernel
theorem d_M_can_181 : decode prog_5_method_4_code 181 = .ok (.lload_n 1, 1) := by decide +kernel
theorem d_M_can_182 : decode prog_5_method_4_code 182 = .ok (.lconst 0, 1) := by decide +kernel
theorem d_M_can_183 : decode prog_5_method_4_code 183 = .ok (.ldc2_w 74, 3) := by decide +kernel
theorem d_M_can_186 : decode prog_5_method_4_code 186 = .ok (.invokestatic 66, 3) := by decide +kernel
theorem d_M_can_189 : decode prog_5_method_4_code 189 = .ok (.ifCond .eq 18, 3) := by decide +kernel
theorem d_M_can_192 : decode prog_5_method_4_code 192 = .ok (.lload_n 3, 1) := by decide +kernel
theorem d_M_can_193 : decode prog_5_method_4_code 193 = .ok (.lconst 1, 1) := by decide +kernel
theorem d_M_can_194 : decode prog_5_method_4_code 194 = .ok (.ldc2_w 76, 3) := by decide +kernel
theorem d_M_can_197 : decode prog_5_method_4_code 197 = .ok (.invokestatic 66, 3) := by decide +kernel
theorem d_M_can_200 : decode prog_5_method_4_code 200 = .ok (.ifCond .eq 7, 3) := by decide +kernel
theorem d_M_can_203 : decode prog_5_method_4_code 203 = .ok (.iconst 1, 1) := by decide +kernel
theorem d_M_can_204 : decode prog_5_method_4_code 204 = .ok (.goto 4, 3) := by decide +kernel
theorem d_M_can_207 : decode prog_5_method_4_code 207 = .ok (.iconst 0, 1) := by decide +kernel
theorem d_M_can_208 : decode prog_5_method_4_code 208 = .ok (.ireturn, 1) := by decide +kernel
theorem d_M_can_209 : decode prog_5_method_4_code 209 = .ok (.iconst 0, 1) := by decide +kernel
theorem d_M_can_210 : decode prog_5_method_4_code 210 = .ok (.ireturn, 1) := by decide +kernel
theorem d_M_event_0 : decode prog_5_method_5_code 0 = .ok (.aload_n 0, 1) := by decide +kernel
theorem d_M_event_1 : decode prog_5_method_5_code 1 = .ok (.iconst 0, 1) := by decide +kernel
theorem d_M_event_2 : decode prog_5_method_5_code 2 = .ok (.putfield 60, 3) := by decide +kernel
theorem d_M_event_5 : decode prog_5_method_5_code 5 = .ok (.iload_n 1, 1) := by decide +kernel
theorem d_M_event_6 : decode prog_5_method_5_code 6 = .ok (.lload_n 2, 1) := by decide +kernel
theorem d_M_event_7 : decode prog_5_method_5_code 7 = .ok (.lload 4, 2) := by decide +kernel
theorem d_M_event_9 : decode prog_5_method_5_code 9 = .ok (.invokestatic 78, 3) := by decide +kernel
theorem d_M_event_12 : decode prog_5_method_5_code 12 = .ok (.ifCond .eq 25, 3) := by decide +kernel
theorem d_M_event_15 : decode prog_5_method_5_code 15 = .ok (.lload 6, 2) := by decide +kernel
theorem d_M_event_17 : decode prog_5_method_5_code 17 = .ok (.lconst 0, 1) := by decide +kernel
theorem d_M_event_18 : decode prog_5_method_5_code 18 = .ok (.ldc2_w 82, 3) := by decide +kernel
theorem d_M_event_21 : decode prog_5_method_5_code 21 = .ok (.invokestatic 66, 3) := by decide +kernel
theorem d_M_event_24 : decode prog_5_method_5_code 24 = .ok (.ifCond .eq 13, 3) := by decide +kernel
theorem d_M_event_27 : decode prog_5_method_5_code 27 = .ok (.aload_n 0, 1) := by decide +kernel
theorem d_M_event_28 : decode prog_5_method_5_code 28 = .ok (.getfield 84, 3) := by decide +kernel
theorem d_M_event_31 : decode prog_5_method_5_code 31 = .ok (.sipush 200, 3) := by decide +kernel
theorem d_M_event_34 : decode prog_5_method_5_code 34 = .ok (.if_icmp .ne 5, 3) := by decide +kernel
theorem d_M_event_37 : decode prog_5_method_5_code 37 = .ok (.iconst 0, 1) := by decide +kernel
theorem d_M_event_38 : decode prog_5_method_5_code 38 = .ok (.ireturn, 1) := by decide +kernel
theorem d_M_event_39 : decode prog_5_method_5_code 39 = .ok (.aload_n 0, 1) := by decide +kernel
theorem d_M_event_40 : decode prog_5_method_5_code 40 = .ok (.getfield 84, 3) := by decide +kernel
theorem d_M_event_43 : decode prog_5_method_5_code 43 = .ok (.istore 8, 2) := by decide +kernel
theorem d_M_event_45 : decode prog_5_method_5_code 45 = .ok (.iload 8, 2) := by decide +kernel
theorem d_M_event_47 : decode prog_5_method_5_code 47 = .ok (.ifCond .le 88, 3) := by decide +kernel
theorem d_M_event_50 : decode prog_5_method_5_code 50 = .ok (.aload_n 0, 1) := by decide +kernel
theorem d_M_event_51 : decode prog_5_method_5_code 51 = .ok (.getfield 20, 3) := by decide +kernel
theorem d_M_event_54 : decode prog_5_method_5_code 54 = .ok (.iload 8, 2) := by decide +kernel
theorem d_M_event_56 : decode prog_5_method_5_code 56 = .ok (.iconst 1, 1) := by decide +kernel
theorem d_M_event_57 : decode prog_5_method_5_code 57 = .ok (.isub, 1) := by decide +kernel
theorem d_M_event_58 : decode prog_5_method_5_code 58 = .ok (.laload, 1) := by decide +kernel
theorem d_M_event_59 : decode prog_5_method_5_code 59 = .ok (.lload 6, 2) := by decide +kernel
theorem d_M_event_61 : decode prog_5_method_5_code 61 = .ok (.lcmp, 1) := by decide +kernel
theorem d_M_event_62 : decode prog_5_method_5_code 62 = .ok (.ifCond .le 73, 3) := by decide +kernel
theorem d_M_event_65 : decode prog_5_method_5_code 65 = .ok (.aload_n 0, 1) := by decide +kernel
theorem d_M_event_66 : decode prog_5_method_5_code 66 = .ok (.getfield 7, 3) := by decide +kernel
theorem d_M_event_69 : decode prog_5_method_5_code 69 = .ok (.iload 8, 2) := by decide +kernel
theorem d_M_event_71 : decode prog_5_method_5_code 71 = .ok (.aload_n 0, 1) := by decide +kernel
theorem d_M_event_72 : decode prog_5_method_5_code 72 = .ok (.getfield 7, 3) := by decide +kernel
theorem d_M_event_75 : decode prog_5_method_5_code 75 = .ok (.iload 8, 2) := by decide +kernel
theorem d_M_event_77 : decode prog_5_method_5_code 77 = .ok (.iconst 1, 1) := by decide +kernel
theorem d_M_event_78 : decode prog_5_method_5_code 78 = .ok (.isub, 1) := by decide +kernel
theorem d_M_event_79 : decode prog_5_method_5_code 79 = .ok (.iaload, 1) := by decide +kernel
theorem d_M_event_80 : decode prog_5_method_5_code 80 = .ok (.iastore, 1) := by decide +kernel
theorem d_M_event_81 : decode prog_5_method_5_code 81 = .ok (.aload_n 0, 1) := by decide +kernel
theorem d_M_event_82 : decode prog_5_method_5_code 82 = .ok (.getfield 13, 3) := by decide +kernel
theorem d_M_event_85 : decode prog_5_method_5_code 85 = .ok (.iload 8, 2) := by decide +kernel
theorem d_M_event_87 : decode prog_5_method_5_code 87 = .ok (.aload_n 0, 1) := by decide +kernel
theorem d_M_event_88 : decode prog_5_method_5_code 88 = .ok (.getfield 13, 3) := by decide +kernel
theorem d_M_event_91 : decode prog_5_method_5_code 91 = .ok (.iload 8, 2) := by decide +kernel
theorem d_M_event_93 : decode prog_5_method_5_code 93 = .ok (.iconst 1, 1) := by decide +kernel
theorem d_M_event_94 : decode prog_5_method_5_code 94 = .ok (.isub, 1) := by decide +kernel
theorem d_M_event_95 : decode prog_5_method_5_code 95 = .ok (.iaload, 1) := by decide +kernel
theorem d_M_event_96 : decode prog_5_method_5_code 96 = .ok (.iastore, 1) := by decide +kernel
theorem d_M_event_97 : decode prog_5_method_5_code 97 = .ok (.aload_n 0, 1) := by decide +kernel
theorem d_M_event_98 : decode prog_5_method_5_code 98 = .ok (.getfield 16, 3) := by decide +kernel
theorem d_M_event_101 : decode prog_5_method_5_code 101 = .ok (.iload 8, 2) := by decide +kernel
theorem d_M_event_103 : decode prog_5_method_5_code 103 = .ok (.aload_n 0, 1) := by decide +kernel
theorem d_M_event_104 : decode prog_5_method_5_code 104 = .ok (.getfield 16, 3) := by decide +kernel
theorem d_M_event_107 : decode prog_5_method_5_code 107 = .ok (.iload 8, 2) := by decide +kernel
theorem d_M_event_109 : decode prog_5_method_5_code 109 = .ok (.iconst 1, 1) := by decide +kernel
theorem d_M_event_110 : decode prog_5_method_5_code 110 = .ok (.isub, 1) := by decide +kernel
theorem d_M_event_111 : decode prog_5_method_5_code 111 = .ok (.laload, 1) := by decide +kernel
theorem d_M_event_112 : decode prog_5_method_5_code 112 = .ok (.lastore, 1) := by decide +kernel
theorem d_M_event_113 : decode prog_5_method_5_code 113 = .ok (.aload_n 0, 1) := by decide +kernel
theorem d_M_event_114 : decode prog_5_method_5_code 114 = .ok (.getfield 20, 3) := by decide +kernel
theorem d_M_event_117 : decode prog_5_method_5_code 117 = .ok (.iload 8, 2) := by decide +kernel
theorem d_M_event_119 : decode prog_5_method_5_code 119 = .ok (.aload_n 0, 1) := by decide +kernel
theorem d_M_event_120 : decode prog_5_method_5_code 120 = .ok (.getfield 20, 3) := by decide +kernel
theorem d_M_event_123 : decode prog_5_method_5_code 123 = .ok (.iload 8, 2) := by decide +kernel
theorem d_M_event_125 : decode prog_5_method_5_code 125 = .ok (.iconst 1, 1) := by decide +kernel
theorem d_M_event_126 : decode prog_5_method_5_code 126 = .ok (.isub, 1) := by decide +kernel
theorem d_M_event_127 : decode prog_5_method_5_code 127 = .ok (.laload, 1) := by decide +kernel
theorem d_M_event_128 : decode prog_5_method_5_code 128 = .ok (.lastore, 1) := by decide +kernel
theorem d_M_event_129 : decode prog_5_method_5_code 129 = .ok (.iinc 8 (-1), 3) := by decide +kernel
theorem d_M_event_132 : decode prog_5_method_5_code 132 = .ok (.goto (-87), 3) := by decide +kernel
theorem d_M_event_135 : decode prog_5_method_5_code 135 = .ok (.aload_n 0, 1) := by decide +kernel
theorem d_M_event_136 : decode prog_5_method_5_code 136 = .ok (.getfield 7, 3) := by decide +kernel
theorem d_M_event_139 : decode prog_5_method_5_code 139 = .ok (.iload 8, 2) := by decide +kernel
theorem d_M_event_141 : decode prog_5_method_5_code 141 = .ok (.iload_n 1, 1) := by decide +kernel
theorem d_M_event_142 : decode prog_5_method_5_code 142 = .ok (.iastore, 1) := by decide +kernel
theorem d_M_event_143 : decode prog_5_method_5_code 143 = .ok (.aload_n 0, 1) := by decide +kernel
theorem d_M_event_144 : decode prog_5_method_5_code 144 = .ok (.getfield 13, 3) := by decide +kernel
theorem d_M_event_147 : decode prog_5_method_5_code 147 = .ok (.iload 8, 2) := by decide +kernel
theorem d_M_event_149 : decode prog_5_method_5_code 149 = .ok (.lload_n 2, 1) := by decide +kernel
theorem d_M_event_150 : decode prog_5_method_5_code 150 = .ok (.l2i, 1) := by decide +kernel
theorem d_M_event_151 : decode prog_5_method_5_code 151 = .ok (.iastore, 1) := by decide +kernel
theorem d_M_event_152 : decode prog_5_method_5_code 152 = .ok (.aload_n 0, 1) := by decide +kernel
theorem d_M_event_153 : decode prog_5_method_5_code 153 = .ok (.getfield 16, 3) := by decide +kernel
theorem d_M_event_156 : decode prog_5_method_5_code 156 = .ok (.iload 8, 2) := by decide +kernel
theorem d_M_event_158 : decode prog_5_method_5_code 158 = .ok (.lload 4, 2) := by decide +kernel
theorem d_M_event_160 : decode prog_5_method_5_code 160 = .ok (.lastore, 1) := by decide +kernel
theorem d_M_event_161 : decode prog_5_method_5_code 161 = .ok (.aload_n 0, 1) := by decide +kernel
theorem d_M_event_162 : decode prog_5_method_5_code 162 = .ok (.getfield 20, 3) := by decide +kernel
theorem d_M_event_165 : decode prog_5_method_5_code 165 = .ok (.iload 8, 2) := by decide +kernel
theorem d_M_event_167 : decode prog_5_method_5_code 167 = .ok (.lload 6, 2) := by decide +kernel
theorem d_M_event_169 : decode prog_5_method_5_code 169 = .ok (.lastore, 1) := by decide +kernel
theorem d_M_event_170 : decode prog_5_method_5_code 170 = .ok (.aload_n 0, 1) := by decide +kernel
theorem d_M_event_171 : decode prog_5_method_5_code 171 = .ok (.dup, 1) := by decide +kernel
theorem d_M_event_172 : decode prog_5_method_5_code 172 = .ok (.getfield 84, 3) := by decide +kernel
theorem d_M_event_175 : decode prog_5_method_5_code 175 = .ok (.iconst 1, 1) := by decide +kernel
theorem d_M_event_176 : decode prog_5_method_5_code 176 = .ok (.iadd, 1) := by decide +kernel
theorem d_M_event_177 : decode prog_5_method_5_code 177 = .ok (.putfield 84, 3) := by decide +kernel
theorem d_M_event_180 : decode prog_5_method_5_code 180 = .ok (.aload_n 0, 1) := by decide +kernel
theorem d_M_event_181 : decode prog_5_method_5_code 181 = .ok (.getfield 84, 3) := by decide +kernel
theorem d_M_event_184 : decode prog_5_method_5_code 184 = .ok (.ireturn, 1) := by decide +kernel
theorem d_M_clear_0 : decode prog_5_method_6_code 0 = .ok (.iconst 0, 1) := by decide +kernel
theorem d_M_clear_1 : decode prog_5_method_6_code 1 = .ok (.istore_n 1, 1) := by decide +kernel
theorem d_M_clear_2 : decode prog_5_method_6_code 2 = .ok (.iload_n 1, 1) := by decide +kernel
theorem d_M_clear_3 : decode prog_5_method_6_code 3 = .ok (.sipush 2100, 3) := by decide +kernel
theorem d_M_clear_6 : decode prog_5_method_6_code 6 = .ok (.if_icmp .ge 16, 3) := by decide +kernel
theorem d_M_clear_9 : decode prog_5_method_6_code 9 = .ok (.aload_n 0, 1) := by decide +kernel
theorem d_M_clear_10 : decode prog_5_method_6_code 10 = .ok (.getfield 23, 3) := by decide +kernel
theorem d_M_clear_13 : decode prog_5_method_6_code 13 = .ok (.iload_n 1, 1) := by decide +kernel
theorem d_M_clear_14 : decode prog_5_method_6_code 14 = .ok (.iconst 0, 1) := by decide +kernel
theorem d_M_clear_15 : decode prog_5_method_6_code 15 = .ok (.bastore, 1) := by decide +kernel
theorem d_M_clear_16 : decode prog_5_method_6_code 16 = .ok (.iinc 1 1, 3) := by decide +kernel
theorem d_M_clear_19 : decode prog_5_method_6_code 19 = .ok (.goto (-17), 3) := by decide +kernel
theorem d_M_clear_22 : decode prog_5_method_6_code 22 = .ok (.iconst 0, 1) := by decide +kernel
theorem d_M_clear_23 : decode prog_5_method_6_code 23 = .ok (.istore_n 1, 1) := by decide +kernel
theorem d_M_clear_24 : decode prog_5_method_6_code 24 = .ok (.iload_n 1, 1) := by decide +kernel
theorem d_M_clear_25 : decode prog_5_method_6_code 25 = .ok (.bipush 21, 2) := by decide +kernel
theorem d_M_clear_27 : decode prog_5_method_6_code 27 = .ok (.if_icmp .ge 44, 3) := by decide +kernel
theorem d_M_clear_30 : decode prog_5_method_6_code 30 = .ok (.aload_n 0, 1) := by decide +kernel
theorem d_M_clear_31 : decode prog_5_method_6_code 31 = .ok (.getfield 27, 3) := by decide +kernel
theorem d_M_clear_34 : decode prog_5_method_6_code 34 = .ok (.iload_n 1, 1) := by decide +kernel
theorem d_M_clear_35 : decode prog_5_method_6_code 35 = .ok (.iconst 0, 1) := by decide +kernel
theorem d_M_clear_36 : decode prog_5_method_6_code 36 = .ok (.iastore, 1) := by decide +kernel
theorem d_M_clear_37 : decode prog_5_method_6_code 37 = .ok (.aload_n 0, 1) := by decide +kernel
theorem d_M_clear_38 : decode prog_5_method_6_code 38 = .ok (.getfield 30, 3) := by decide +kernel
theorem d_M_clear_41 : decode prog_5_method_6_code 41 = .ok (.iload_n 1, 1) := by decide +kernel
theorem d_M_clear_42 : decode prog_5_method_6_code 42 = .ok (.iconst 0, 1) := by decide +kernel
theorem d_M_clear_43 : decode prog_5_method_6_code 43 = .ok (.iastore, 1) := by decide +kernel
theorem d_M_clear_44 : decode prog_5_method_6_code 44 = .ok (.aload_n 0, 1) := by decide +kernel
theorem d_M_clear_45 : decode prog_5_method_6_code 45 = .ok (.getfield 33, 3) := by decide +kernel
theorem d_M_clear_48 : decode prog_5_method_6_code 48 = .ok (.iload_n 1, 1) := by decide +kernel
theorem d_M_clear_49 : decode prog_5_method_6_code 49 = .ok (.lconst 0, 1) := by decide +kernel
theorem d_M_clear_50 : decode prog_5_method_6_code 50 = .ok (.lastore, 1) := by decide +kernel
theorem d_M_clear_51 : decode prog_5_method_6_code 51 = .ok (.aload_n 0, 1) := by decide +kernel
theorem d_M_clear_52 : decode prog_5_method_6_code 52 = .ok (.getfield 39, 3) := by decide +kernel
theorem d_M_clear_55 : decode prog_5_method_6_code 55 = .ok (.iload_n 1, 1) := by decide +kernel
theorem d_M_clear_56 : decode prog_5_method_6_code 56 = .ok (.iconst 0, 1) := by decide +kernel
theorem d_M_clear_57 : decode prog_5_method_6_code 57 = .ok (.iastore, 1) := by decide +kernel
theorem d_M_clear_58 : decode prog_5_method_6_code 58 = .ok (.aload_n 0, 1) := by decide +kernel
theorem d_M_clear_59 : decode prog_5_method_6_code 59 = .ok (.getfield 45, 3) := by decide +kernel
theorem d_M_clear_62 : decode prog_5_method_6_code 62 = .ok (.iload_n 1, 1) := by decide +kernel
theorem d_M_clear_63 : decode prog_5_method_6_code 63 = .ok (.iconst 0, 1) := by decide +kernel
theorem d_M_clear_64 : decode prog_5_method_6_code 64 = .ok (.iastore, 1) := by decide +kernel
theorem d_M_clear_65 : decode prog_5_method_6_code 65 = .ok (.iinc 1 1, 3) := by decide +kernel
theorem d_M_clear_68 : decode prog_5_method_6_code 68 = .ok (.goto (-44), 3) := by decide +kernel
theorem d_M_clear_71 : decode prog_5_method_6_code 71 = .ok (.iconst 0, 1) := by decide +kernel
theorem d_M_clear_72 : decode prog_5_method_6_code 72 = .ok (.istore_n 1, 1) := by decide +kernel
theorem d_M_clear_73 : decode prog_5_method_6_code 73 = .ok (.iload_n 1, 1) := by decide +kernel
theorem d_M_clear_74 : decode prog_5_method_6_code 74 = .ok (.bipush 126, 2) := by decide +kernel
theorem d_M_clear_76 : decode prog_5_method_6_code 76 = .ok (.if_icmp .ge 16, 3) := by decide +kernel
theorem d_M_clear_79 : decode prog_5_method_6_code 79 = .ok (.aload_n 0, 1) := by decide +kernel
theorem d_M_clear_80 : decode prog_5_method_6_code 80 = .ok (.getfield 42, 3) := by decide +kernel
theorem d_M_clear_83 : decode prog_5_method_6_code 83 = .ok (.iload_n 1, 1) := by decide +kernel
theorem d_M_clear_84 : decode prog_5_method_6_code 84 = .ok (.iconst (-1), 1) := by decide +kernel
theorem d_M_clear_85 : decode prog_5_method_6_code 85 = .ok (.iastore, 1) := by decide +kernel
theorem d_M_clear_86 : decode prog_5_method_6_code 86 = .ok (.iinc 1 1, 3) := by decide +kernel
theorem d_M_clear_89 : decode prog_5_method_6_code 89 = .ok (.goto (-16), 3) := by decide +kernel
theorem d_M_clear_92 : decode prog_5_method_6_code 92 = .ok (.iconst 0, 1) := by decide +kernel
theorem d_M_clear_93 : decode prog_5_method_6_code 93 = .ok (.istore_n 1, 1) := by decide +kernel
theorem d_M_clear_94 : decode prog_5_method_6_code 94 = .ok (.iload_n 1, 1) := by decide +kernel
theorem d_M_clear_95 : decode prog_5_method_6_code 95 = .ok (.bipush 10, 2) := by decide +kernel
theorem d_M_clear_97 : decode prog_5_method_6_code 97 = .ok (.if_icmp .ge 17, 3) := by decide +kernel
theorem d_M_clear_100 : decode prog_5_method_6_code 100 = .ok (.aload_n 0, 1) := by decide +kernel
theorem d_M_clear_101 : decode prog_5_method_6_code 101 = .ok (.getfield 48, 3) := by decide +kernel
theorem d_M_clear_104 : decode prog_5_method_6_code 104 = .ok (.iload_n 1, 1) := by decide +kernel
theorem d_M_clear_105 : decode prog_5_method_6_code 105 = .ok (.bipush 28, 2) := by decide +kernel
theorem d_M_clear_107 : decode prog_5_method_6_code 107 = .ok (.iastore, 1) := by decide +kernel
theorem d_M_clear_108 : decode prog_5_method_6_code 108 = .ok (.iinc 1 1, 3) := by decide +kernel
theorem d_M_clear_111 : decode prog_5_method_6_code 111 = .ok (.goto (-17), 3) := by decide +kernel
theorem d_M_clear_114 : decode prog_5_method_6_code 114 = .ok (.aload_n 0, 1) := by decide +kernel
theorem d_M_clear_115 : decode prog_5_method_6_code 115 = .ok (.iconst 0, 1) := by decide +kernel
theorem d_M_clear_116 : decode prog_5_method_6_code 116 = .ok (.putfield 87, 3) := by decide +kernel
theorem d_M_clear_119 : decode prog_5_method_6_code 119 = .ok (.aload_n 0, 1) := by decide +kernel
theorem d_M_clear_120 : decode prog_5_method_6_code 120 = .ok (.iconst 0, 1) := by decide +kernel
theorem d_M_clear_121 : decode prog_5_method_6_code 121 = .ok (.putfield 90, 3) := by decide +kernel
theorem d_M_clear_124 : decode prog_5_method_6_code 124 = .ok (.return_, 1) := by decide +kernel
theorem d_M_placeOf_0 : decode prog_5_method_7_code 0 = .ok (.iconst 0, 1) := by decide +kernel
theorem d_M_placeOf_1 : decode prog_5_method_7_code 1 = .ok (.istore_n 3, 1) := by decide +kernel
theorem d_M_placeOf_2 : decode prog_5_method_7_code 2 = .ok (.iload_n 3, 1) := by decide +kernel
theorem d_M_placeOf_3 : decode prog_5_method_7_code 3 = .ok (.aload_n 0, 1) := by decide +kernel
theorem d_M_placeOf_4 : decode prog_5_method_7_code 4 = .ok (.getfield 39, 3) := by decide +kernel
theorem d_M_placeOf_7 : decode prog_5_method_7_code 7 = .ok (.iload_n 1, 1) := by decide +kernel
theorem d_M_placeOf_8 : decode prog_5_method_7_code 8 = .ok (.iaload, 1) := by decide +kernel
theorem d_M_placeOf_9 : decode prog_5_method_7_code 9 = .ok (.if_icmp .ge 26, 3) := by decide +kernel
theorem d_M_placeOf_12 : decode prog_5_method_7_code 12 = .ok (.aload_n 0, 1) := by decide +kernel
theorem d_M_placeOf_13 : decode prog_5_method_7_code 13 = .ok (.getfield 36, 3) := by decide +kernel
theorem d_M_placeOf_16 : decode prog_5_method_7_code 16 = .ok (.bipush 20, 2) := by decide +kernel
theorem d_M_placeOf_18 : decode prog_5_method_7_code 18 = .ok (.iload_n 1, 1) := by decide +kernel
theorem d_M_placeOf_19 : decode prog_5_method_7_code 19 = .ok (.imul, 1) := by decide +kernel
theorem d_M_placeOf_20 : decode prog_5_method_7_code 20 = .ok (.iload_n 3, 1) := by decide +kernel
theorem d_M_placeOf_21 : decode prog_5_method_7_code 21 = .ok (.iadd, 1) := by decide +kernel
theorem d_M_placeOf_22 : decode prog_5_method_7_code 22 = .ok (.iaload, 1) := by decide +kernel
theorem d_M_placeOf_23 : decode prog_5_method_7_code 23 = .ok (.iload_n 2, 1) := by decide +kernel
theorem d_M_placeOf_24 : decode prog_5_method_7_code 24 = .ok (.if_icmp .ne 5, 3) := by decide +kernel
theorem d_M_placeOf_27 : decode prog_5_method_7_code 27 = .ok (.iload_n 3, 1) := by decide +kernel
theorem d_M_placeOf_28 : decode prog_5_method_7_code 28 = .ok (.ireturn, 1) := by decide +kernel
theorem d_M_placeOf_29 : decode prog_5_method_7_code 29 = .ok (.iinc 3 1, 3) := by decide +kernel
theorem d_M_placeOf_32 : decode prog_5_method_7_code 32 = .ok (.goto (-30), 3) := by decide +kernel
theorem d_M_placeOf_35 : decode prog_5_method_7_code 35 = .ok (.iconst (-1), 1) := by decide +kernel
theorem d_M_placeOf_36 : decode prog_5_method_7_code 36 = .ok (.ireturn, 1) := by decide +kernel
theorem d_M_leave_0 : decode prog_5_method_8_code 0 = .ok (.aload_n 0, 1) := by decide +kernel
theorem d_M_leave_1 : decode prog_5_method_8_code 1 = .ok (.iload_n 1, 1) := by decide +kernel
theorem d_M_leave_2 : decode prog_5_method_8_code 2 = .ok (.iload_n 2, 1) := by decide +kernel
theorem d_M_leave_3 : decode prog_5_method_8_code 3 = .ok (.invokevirtual 93, 3) := by decide +kernel
theorem d_M_leave_6 : decode prog_5_method_8_code 6 = .ok (.istore_n 3, 1) := by decide +kernel
theorem d_M_leave_7 : decode prog_5_method_8_code 7 = .ok (.iload_n 3, 1) := by decide +kernel
theorem d_M_leave_8 : decode prog_5_method_8_code 8 = .ok (.iconst (-1), 1) := by decide +kernel
theorem d_M_leave_9 : decode prog_5_method_8_code 9 = .ok (.if_icmp .ne 5, 3) := by decide +kernel
theorem d_M_leave_12 : decode prog_5_method_8_code 12 = .ok (.iconst 0, 1) := by decide +kernel
theorem d_M_leave_13 : decode prog_5_method_8_code 13 = .ok (.ireturn, 1) := by decide +kernel
theorem d_M_leave_14 : decode prog_5_method_8_code 14 = .ok (.aload_n 0, 1) := by decide +kernel
theorem d_M_leave_15 : decode prog_5_method_8_code 15 = .ok (.getfield 39, 3) := by decide +kernel
theorem d_M_leave_18 : decode prog_5_method_8_code 18 = .ok (.iload_n 1, 1) := by decide +kernel
theorem d_M_leave_19 : decode prog_5_method_8_code 19 = .ok (.dup2, 1) := by decide +kernel
theorem d_M_leave_20 : decode prog_5_method_8_code 20 = .ok (.iaload, 1) := by decide +kernel
theorem d_M_leave_21 : decode prog_5_method_8_code 21 = .ok (.iconst 1, 1) := by decide +kernel
theorem d_M_leave_22 : decode prog_5_method_8_code 22 = .ok (.isub, 1) := by decide +kernel
theorem d_M_leave_23 : decode prog_5_method_8_code 23 = .ok (.iastore, 1) := by decide +kernel
theorem d_M_leave_24 : decode prog_5_method_8_code 24 = .ok (.iload_n 3, 1) := by decide +kernel
theorem d_M_leave_25 : decode prog_5_method_8_code 25 = .ok (.istore 4, 2) := by decide +kernel
theorem d_M_leave_27 : decode prog_5_method_8_code 27 = .ok (.iload 4, 2) := by decide +kernel
theorem d_M_leave_29 : decode prog_5_method_8_code 29 = .ok (.aload_n 0, 1) := by decide +kernel
theorem d_M_leave_30 : decode prog_5_method_8_code 30 = .ok (.getfield 39, 3) := by decide +kernel
theorem d_M_leave_33 : decode prog_5_method_8_code 33 = .ok (.iload_n 1, 1) := by decide +kernel
theorem d_M_leave_34 : decode prog_5_method_8_code 34 = .ok (.iaload, 1) := by decide +kernel
theorem d_M_leave_35 : decode prog_5_method_8_code 35 = .ok (.if_icmp .ge 35, 3) := by decide +kernel
theorem d_M_leave_38 : decode prog_5_method_8_code 38 = .ok (.aload_n 0, 1) := by decide +kernel
theorem d_M_leave_39 : decode prog_5_method_8_code 39 = .ok (.getfield 36, 3) := by decide +kernel
theorem d_M_leave_42 : decode prog_5_method_8_code 42 = .ok (.bipush 20, 2) := by decide +kernel
theorem d_M_leave_44 : decode prog_5_method_8_code 44 = .ok (.iload_n 1, 1) := by decide +kernel
theorem d_M_leave_45 : decode prog_5_method_8_code 45 = .ok (.imul, 1) := by decide +kernel
theorem d_M_leave_46 : decode prog_5_method_8_code 46 = .ok (.iload 4, 2) := by decide +kernel
theorem d_M_leave_48 : decode prog_5_method_8_code 48 = .ok (.iadd, 1) := by decide +kernel
theorem d_M_leave_49 : decode prog_5_method_8_code 49 = .ok (.aload_n 0, 1) := by decide +kernel
theorem d_M_leave_50 : decode prog_5_method_8_code 50 = .ok (.getfield 36, 3) := by decide +kernel
theorem d_M_leave_53 : decode prog_5_method_8_code 53 = .ok (.bipush 20, 2) := by decide +kernel
theorem d_M_leave_55 : decode prog_5_method_8_code 55 = .ok (.iload_n 1, 1) := by decide +kernel
theorem d_M_leave_56 : decode prog_5_method_8_code 56 = .ok (.imul, 1) := by decide +kernel
theorem d_M_leave_57 : decode prog_5_method_8_code 57 = .ok (.iload 4, 2) := by decide +kernel
theorem d_M_leave_59 : decode prog_5_method_8_code 59 = .ok (.iadd, 1) := by decide +kernel
theorem d_M_leave_60 : decode prog_5_method_8_code 60 = .ok (.iconst 1, 1) := by decide +kernel
theorem d_M_leave_61 : decode prog_5_method_8_code 61 = .ok (.iadd, 1) := by decide +kernel
theorem d_M_leave_62 : decode prog_5_method_8_code 62 = .ok (.iaload, 1) := by decide +kernel
theorem d_M_leave_63 : decode prog_5_method_8_code 63 = .ok (.iastore, 1) := by decide +kernel
theorem d_M_leave_64 : decode prog_5_method_8_code 64 = .ok (.iinc 4 1, 3) := by decide +kernel
theorem d_M_leave_67 : decode prog_5_method_8_code 67 = .ok (.goto (-40), 3) := by decide +kernel
theorem d_M_leave_70 : decode prog_5_method_8_code 70 = .ok (.iconst 1, 1) := by decide +kernel
theorem d_M_leave_71 : decode prog_5_method_8_code 71 = .ok (.ireturn, 1) := by decide +kernel
theorem d_M_stand_0 : decode prog_5_method_9_code 0 = .ok (.aload_n 0, 1) := by decide +kernel
theorem d_M_stand_1 : decode prog_5_method_9_code 1 = .ok (.iload_n 1, 1) := by decide +kernel
theorem d_M_stand_2 : decode prog_5_method_9_code 2 = .ok (.iload_n 2, 1) := by decide +kernel
theorem d_M_stand_3 : decode prog_5_method_9_code 3 = .ok (.invokevirtual 93, 3) := by decide +kernel
theorem d_M_stand_6 : decode prog_5_method_9_code 6 = .ok (.iconst (-1), 1) := by decide +kernel
theorem d_M_stand_7 : decode prog_5_method_9_code 7 = .ok (.if_icmp .eq 5, 3) := by decide +kernel
theorem d_M_stand_10 : decode prog_5_method_9_code 10 = .ok (.iconst 0, 1) := by decide +kernel
theorem d_M_stand_11 : decode prog_5_method_9_code 11 = .ok (.ireturn, 1) := by decide +kernel
theorem d_M_stand_12 : decode prog_5_method_9_code 12 = .ok (.aload_n 0, 1) := by decide +kernel
theorem d_M_stand_13 : decode prog_5_method_9_code 13 = .ok (.getfield 36, 3) := by decide +kernel
theorem d_M_stand_16 : decode prog_5_method_9_code 16 = .ok (.bipush 20, 2) := by decide +kernel
theorem d_M_stand_18 : decode prog_5_method_9_code 18 = .ok (.iload_n 1, 1) := by decide +kernel
theorem d_M_stand_19 : decode prog_5_method_9_code 19 = .ok (.imul, 1) := by decide +kernel
theorem d_M_stand_20 : decode prog_5_method_9_code 20 = .ok (.aload_n 0, 1) := by decide +kernel
theorem d_M_stand_21 : decode prog_5_method_9_code 21 = .ok (.getfield 39, 3) := by decide +kernel
theorem d_M_stand_24 : decode prog_5_method_9_code 24 = .ok (.iload_n 1, 1) := by decide +kernel
theorem d_M_stand_25 : decode prog_5_method_9_code 25 = .ok (.iaload, 1) := by decide +kernel
theorem d_M_stand_26 : decode prog_5_method_9_code 26 = .ok (.iadd, 1) := by decide +kernel
theorem d_M_stand_27 : decode prog_5_method_9_code 27 = .ok (.iload_n 2, 1) := by decide +kernel
theorem d_M_stand_28 : decode prog_5_method_9_code 28 = .ok (.iastore, 1) := by decide +kernel
theorem d_M_stand_29 : decode prog_5_method_9_code 29 = .ok (.aload_n 0, 1) := by decide +kernel
theorem d_M_stand_30 : decode prog_5_method_9_code 30 = .ok (.getfield 39, 3) := by decide +kernel
theorem d_M_stand_33 : decode prog_5_method_9_code 33 = .ok (.iload_n 1, 1) := by decide +kernel
theorem d_M_stand_34 : decode prog_5_method_9_code 34 = .ok (.dup2, 1) := by decide +kernel
theorem d_M_stand_35 : decode prog_5_method_9_code 35 = .ok (.iaload, 1) := by decide +kernel
theorem d_M_stand_36 : decode prog_5_method_9_code 36 = .ok (.iconst 1, 1) := by decide +kernel
theorem d_M_stand_37 : decode prog_5_method_9_code 37 = .ok (.iadd, 1) := by decide +kernel
theorem d_M_stand_38 : decode prog_5_method_9_code 38 = .ok (.iastore, 1) := by decide +kernel
theorem d_M_stand_39 : decode prog_5_method_9_code 39 = .ok (.iconst 1, 1) := by decide +kernel
theorem d_M_stand_40 : decode prog_5_method_9_code 40 = .ok (.ireturn, 1) := by decide +kernel
theorem d_M_lend_0 : decode prog_5_method_10_code 0 = .ok (.aload_n 0, 1) := by decide +kernel
theorem d_M_lend_1 : decode prog_5_method_10_code 1 = .ok (.getfield 27, 3) := by decide +kernel
theorem d_M_lend_4 : decode prog_5_method_10_code 4 = .ok (.iload_n 1, 1) := by decide +kernel
theorem d_M_lend_5 : decode prog_5_method_10_code 5 = .ok (.iaload, 1) := by decide +kernel
theorem d_M_lend_6 : decode prog_5_method_10_code 6 = .ok (.istore 5, 2) := by decide +kernel
theorem d_M_lend_8 : decode prog_5_method_10_code 8 = .ok (.iload 5, 2) := by decide +kernel
theorem d_M_lend_10 : decode prog_5_method_10_code 10 = .ok (.ifCond .eq 36, 3) := by decide +kernel
theorem d_M_lend_13 : decode prog_5_method_10_code 13 = .ok (.aload_n 0, 1) := by decide +kernel
theorem d_M_lend_14 : decode prog_5_method_10_code 14 = .ok (.getfield 30, 3) := by decide +kernel
theorem d_M_lend_17 : decode prog_5_method_10_code 17 = .ok (.iload_n 1, 1) := by decide +kernel
theorem d_M_lend_18 : decode prog_5_method_10_code 18 = .ok (.iaload, 1) := by decide +kernel
theorem d_M_lend_19 : decode prog_5_method_10_code 19 = .ok (.ifCond .ne 27, 3) := by decide +kernel
theorem d_M_lend_22 : decode prog_5_method_10_code 22 = .ok (.aload_n 0, 1) := by decide +kernel
theorem d_M_lend_23 : decode prog_5_method_10_code 23 = .ok (.getfield 39, 3) := by decide +kernel
theorem d_M_lend_26 : decode prog_5_method_10_code 26 = .ok (.iload 5, 2) := by decide +kernel
theorem d_M_lend_28 : decode prog_5_method_10_code 28 = .ok (.iaload, 1) := by decide +kernel
theorem d_M_lend_29 : decode prog_5_method_10_code 29 = .ok (.ifCond .le 19, 3) := by decide +kernel
theorem d_M_lend_32 : decode prog_5_method_10_code 32 = .ok (.aload_n 0, 1) := by decide +kernel
theorem d_M_lend_33 : decode prog_5_method_10_code 33 = .ok (.getfield 36, 3) := by decide +kernel
theorem d_M_lend_36 : decode prog_5_method_10_code 36 = .ok (.bipush 20, 2) := by decide +kernel
theorem d_M_lend_38 : decode prog_5_method_10_code 38 = .ok (.iload 5, 2) := by decide +kernel
theorem d_M_lend_40 : decode prog_5_method_10_code 40 = .ok (.imul, 1) := by decide +kernel
theorem d_M_lend_41 : decode prog_5_method_10_code 41 = .ok (.iaload, 1) := by decide +kernel
theorem d_M_lend_42 : decode prog_5_method_10_code 42 = .ok (.iload_n 2, 1) := by decide +kernel
theorem d_M_lend_43 : decode prog_5_method_10_code 43 = .ok (.if_icmp .eq 5, 3) := by decide +kernel
theorem d_M_lend_46 : decode prog_5_method_10_code 46 = .ok (.iconst 0, 1) := by decide +kernel
theorem d_M_lend_47 : decode prog_5_method_10_code 47 = .ok (.ireturn, 1) := by decide +kernel
theorem d_M_lend_48 : decode prog_5_method_10_code 48 = .ok (.aload_n 0, 1) := by decide +kernel
theorem d_M_lend_49 : decode prog_5_method_10_code 49 = .ok (.iload 5, 2) := by decide +kernel
theorem d_M_lend_51 : decode prog_5_method_10_code 51 = .ok (.iload_n 2, 1) := by decide +kernel
theorem d_M_lend_52 : decode prog_5_method_10_code 52 = .ok (.invokevirtual 97, 3) := by decide +kernel
theorem d_M_lend_55 : decode prog_5_method_10_code 55 = .ok (.istore 6, 2) := by decide +kernel
theorem d_M_lend_57 : decode prog_5_method_10_code 57 = .ok (.aload_n 0, 1) := by decide +kernel
theorem d_M_lend_58 : decode prog_5_method_10_code 58 = .ok (.getfield 30, 3) := by decide +kernel
theorem d_M_lend_61 : decode prog_5_method_10_code 61 = .ok (.iload_n 1, 1) := by decide +kernel
theorem d_M_lend_62 : decode prog_5_method_10_code 62 = .ok (.iload_n 2, 1) := by decide +kernel
theorem d_M_lend_63 : decode prog_5_method_10_code 63 = .ok (.iastore, 1) := by decide +kernel
theorem d_M_lend_64 : decode prog_5_method_10_code 64 = .ok (.aload_n 0, 1) := by decide +kernel
theorem d_M_lend_65 : decode prog_5_method_10_code 65 = .ok (.getfield 33, 3) := by decide +kernel
theorem d_M_lend_68 : decode prog_5_method_10_code 68 = .ok (.iload_n 1, 1) := by decide +kernel
theorem d_M_lend_69 : decode prog_5_method_10_code 69 = .ok (.lload_n 3, 1) := by decide +kernel
theorem d_M_lend_70 : decode prog_5_method_10_code 70 = .ok (.aload_n 0, 1) := by decide +kernel
theorem d_M_lend_71 : decode prog_5_method_10_code 71 = .ok (.getfield 48, 3) := by decide +kernel
theorem d_M_lend_74 : decode prog_5_method_10_code 74 = .ok (.aload_n 0, 1) := by decide +kernel
theorem d_M_lend_75 : decode prog_5_method_10_code 75 = .ok (.getfield 45, 3) := by decide +kernel
theorem d_M_lend_78 : decode prog_5_method_10_code 78 = .ok (.iload 5, 2) := by decide +kernel
theorem d_M_lend_80 : decode prog_5_method_10_code 80 = .ok (.iaload, 1) := by decide +kernel
theorem d_M_lend_81 : decode prog_5_method_10_code 81 = .ok (.iaload, 1) := by decide +kernel
theorem d_M_lend_82 : decode prog_5_method_10_code 82 = .ok (.i2l, 1) := by decide +kernel
theorem d_M_lend_83 : decode prog_5_method_10_code 83 = .ok (.ladd, 1) := by decide +kernel
theorem d_M_lend_84 : decode prog_5_method_10_code 84 = .ok (.lastore, 1) := by decide +kernel
theorem d_M_lend_85 : decode prog_5_method_10_code 85 = .ok (.iload 6, 2) := by decide +kernel
theorem d_M_lend_87 : decode prog_5_method_10_code 87 = .ok (.ifCond .ne 13, 3) := by decide +kernel
theorem d_M_lend_90 : decode prog_5_method_10_code 90 = .ok (.aload_n 0, 1) := by decide +kernel
theorem d_M_lend_91 : decode prog_5_method_10_code 91 = .ok (.getfield 30, 3) := by decide +kernel
theorem d_M_lend_94 : decode prog_5_method_10_code 94 = .ok (.iload_n 1, 1) := by decide +kernel
theorem d_M_lend_95 : decode prog_5_method_10_code 95 = .ok (.iaload, 1) := by decide +kernel
theorem d_M_lend_96 : decode prog_5_method_10_code 96 = .ok (.iload_n 2, 1) := by decide +kernel
theorem d_M_lend_97 : decode prog_5_method_10_code 97 = .ok (.if_icmp .ne 7, 3) := by decide +kernel
theorem d_M_lend_100 : decode prog_5_method_10_code 100 = .ok (.iconst 1, 1) := by decide +kernel
theorem d_M_lend_101 : decode prog_5_method_10_code 101 = .ok (.goto 4, 3) := by decide +kernel
theorem d_M_lend_104 : decode prog_5_method_10_code 104 = .ok (.iconst 0, 1) := by decide +kernel
theorem d_M_lend_105 : decode prog_5_method_10_code 105 = .ok (.ireturn, 1) := by decide +kernel
theorem d_M_sets_0 : decode prog_5_method_11_code 0 = .ok (.aload_n 0, 1) := by decide +kernel
theorem d_M_sets_1 : decode prog_5_method_11_code 1 = .ok (.getfield 23, 3) := by decide +kernel
theorem d_M_sets_4 : decode prog_5_method_11_code 4 = .ok (.iload_n 1, 1) := by decide +kernel
theorem d_M_sets_5 : decode prog_5_method_11_code 5 = .ok (.baload, 1) := by decide +kernel
theorem d_M_sets_6 : decode prog_5_method_11_code 6 = .ok (.istore_n 3, 1) := by decide +kernel
theorem d_M_sets_7 : decode prog_5_method_11_code 7 = .ok (.aload_n 0, 1) := by decide +kernel
theorem d_M_sets_8 : decode prog_5_method_11_code 8 = .ok (.getfield 23, 3) := by decide +kernel
theorem d_M_sets_11 : decode prog_5_method_11_code 11 = .ok (.iload_n 1, 1) := by decide +kernel
theorem d_M_sets_12 : decode prog_5_method_11_code 12 = .ok (.iload_n 2, 1) := by decide +kernel
theorem d_M_sets_13 : decode prog_5_method_11_code 13 = .ok (.bastore, 1) := by decide +kernel
theorem d_M_sets_14 : decode prog_5_method_11_code 14 = .ok (.iload_n 3, 1) := by decide +kernel
theorem d_M_sets_15 : decode prog_5_method_11_code 15 = .ok (.iload_n 2, 1) := by decide +kernel
theorem d_M_sets_16 : decode prog_5_method_11_code 16 = .ok (.if_icmp .eq 7, 3) := by decide +kernel
theorem d_M_sets_19 : decode prog_5_method_11_code 19 = .ok (.iconst 1, 1) := by decide +kernel
theorem d_M_sets_20 : decode prog_5_method_11_code 20 = .ok (.goto 4, 3) := by decide +kernel
theorem d_M_sets_23 : decode prog_5_method_11_code 23 = .ok (.iconst 0, 1) := by decide +kernel
theorem d_M_sets_24 : decode prog_5_method_11_code 24 = .ok (.ireturn, 1) := by decide +kernel
theorem d_M_stores_0 : decode prog_5_method_12_code 0 = .ok (.aload_n 0, 1) := by decide +kernel
theorem d_M_stores_1 : decode prog_5_method_12_code 1 = .ok (.getfield 42, 3) := by decide +kernel
theorem d_M_stores_4 : decode prog_5_method_12_code 4 = .ok (.iload_n 1, 1) := by decide +kernel
theorem d_M_stores_5 : decode prog_5_method_12_code 5 = .ok (.iaload, 1) := by decide +kernel
theorem d_M_stores_6 : decode prog_5_method_12_code 6 = .ok (.iconst (-1), 1) := by decide +kernel
theorem d_M_stores_7 : decode prog_5_method_12_code 7 = .ok (.if_icmp .eq 7, 3) := by decide +kernel
theorem d_M_stores_10 : decode prog_5_method_12_code 10 = .ok (.iconst 1, 1) := by decide +kernel
theorem d_M_stores_11 : decode prog_5_method_12_code 11 = .ok (.goto 4, 3) := by decide +kernel
theorem d_M_stores_14 : decode prog_5_method_12_code 14 = .ok (.iconst 0, 1) := by decide +kernel
theorem d_M_stores_15 : decode prog_5_method_12_code 15 = .ok (.istore_n 3, 1) := by decide +kernel
theorem d_M_stores_16 : decode prog_5_method_12_code 16 = .ok (.aload_n 0, 1) := by decide +kernel
theorem d_M_stores_17 : decode prog_5_method_12_code 17 = .ok (.getfield 42, 3) := by decide +kernel
theorem d_M_stores_20 : decode prog_5_method_12_code 20 = .ok (.iload_n 1, 1) := by decide +kernel
theorem d_M_stores_21 : decode prog_5_method_12_code 21 = .ok (.iload_n 2, 1) := by decide +kernel
theorem d_M_stores_22 : decode prog_5_method_12_code 22 = .ok (.iastore, 1) := by decide +kernel
theorem d_M_stores_23 : decode prog_5_method_12_code 23 = .ok (.iload_n 3, 1) := by decide +kernel
theorem d_M_stores_24 : decode prog_5_method_12_code 24 = .ok (.ifCond .ne 8, 3) := by decide +kernel
theorem d_M_stores_27 : decode prog_5_method_12_code 27 = .ok (.iload_n 2, 1) := by decide +kernel
theorem d_M_stores_28 : decode prog_5_method_12_code 28 = .ok (.iconst (-1), 1) := by decide +kernel
theorem d_M_stores_29 : decode prog_5_method_12_code 29 = .ok (.if_icmp .eq 7, 3) := by decide +kernel
theorem d_M_stores_32 : decode prog_5_method_12_code 32 = .ok (.iconst 1, 1) := by decide +kernel
theorem d_M_stores_33 : decode prog_5_method_12_code 33 = .ok (.goto 4, 3) := by decide +kernel
theorem d_M_stores_36 : decode prog_5_method_12_code 36 = .ok (.iconst 0, 1) := by decide +kernel
theorem d_M_stores_37 : decode prog_5_method_12_code 37 = .ok (.ireturn, 1) := by decide +kernel
theorem d_M_does_0 : decode prog_5_method_13_code 0 = .ok (.aload_n 0, 1) := by decide +kernel
theorem d_M_does_1 : decode prog_5_method_13_code 1 = .ok (.getfield 13, 3) := by decide +kernel
theorem d_M_does_4 : decode prog_5_method_13_code 4 = .ok (.iload_n 1, 1) := by decide +kernel
theorem d_M_does_5 : decode prog_5_method_13_code 5 = .ok (.iaload, 1) := by decide +kernel
theorem d_M_does_6 : decode prog_5_method_13_code 6 = .ok (.istore_n 2, 1) := by decide +kernel
theorem d_M_does_7 : decode prog_5_method_13_code 7 = .ok (.aload_n 0, 1) := by decide +kernel
theorem d_M_does_8 : decode prog_5_method_13_code 8 = .ok (.getfield 16, 3) := by decide +kernel
theorem d_M_does_11 : decode prog_5_method_13_code 11 = .ok (.iload_n 1, 1) := by decide +kernel
theorem d_M_does_12 : decode prog_5_method_13_code 12 = .ok (.laload, 1) := by decide +kernel
theorem d_M_does_13 : decode prog_5_method_13_code 13 = .ok (.l2i, 1) := by decide +kernel
theorem d_M_does_14 : decode prog_5_method_13_code 14 = .ok (.istore_n 3, 1) := by decide +kernel
theorem d_M_does_15 : decode prog_5_method_13_code 15 = .ok (.aload_n 0, 1) := by decide +kernel
theorem d_M_does_16 : decode prog_5_method_13_code 16 = .ok (.getfield 7, 3) := by decide +kernel
theorem d_M_does_19 : decode prog_5_method_13_code 19 = .ok (.iload_n 1, 1) := by decide +kernel
theorem d_M_does_20 : decode prog_5_method_13_code 20 = .ok (.iaload, 1) := by decide +kernel
theorem d_M_does_21 : decode prog_5_method_13_code 21 = .ok (.tableswitch 203 0 9 #[55, 67, 79, 99, 112, 146, 153, 160, 182, 194], 55) := by decide +kernel
theorem d_M_does_76 : decode prog_5_method_13_code 76 = .ok (.aload_n 0, 1) := by decide +kernel
theorem d_M_does_77 : decode prog_5_method_13_code 77 = .ok (.bipush 100, 2) := by decide +kernel
theorem d_M_does_79 : decode prog_5_method_13_code 79 = .ok (.iload_n 2, 1) := by decide +kernel
theorem d_M_does_80 : decode prog_5_method_13_code 80 = .ok (.imul, 1) := by decide +kernel
theorem d_M_does_81 : decode prog_5_method_13_code 81 = .ok (.iload_n 3, 1) := by decide +kernel
theorem d_M_does_82 : decode prog_5_method_13_code 82 = .ok (.iadd, 1) := by decide +kernel
theorem d_M_does_83 : decode prog_5_method_13_code 83 = .ok (.iconst 1, 1) := by decide +kernel
theorem d_M_does_84 : decode prog_5_method_13_code 84 = .ok (.invokevirtual 101, 3) := by decide +kernel
theorem d_M_does_87 : decode prog_5_method_13_code 87 = .ok (.ireturn, 1) := by decide +kernel
theorem d_M_does_88 : decode prog_5_method_13_code 88 = .ok (.aload_n 0, 1) := by decide +kernel
theorem d_M_does_89 : decode prog_5_method_13_code 89 = .ok (.bipush 100, 2) := by decide +kernel
theorem d_M_does_91 : decode prog_5_method_13_code 91 = .ok (.iload_n 2, 1) := by decide +kernel
theorem d_M_does_92 : decode prog_5_method_13_code 92 = .ok (.imul, 1) := by decide +kernel
theorem d_M_does_93 : decode prog_5_method_13_code 93 = .ok (.iload_n 3, 1) := by decide +kernel
theorem d_M_does_94 : decode prog_5_method_13_code 94 = .ok (.iadd, 1) := by decide +kernel
theorem d_M_does_95 : decode prog_5_method_13_code 95 = .ok (.iconst 0, 1) := by decide +kernel
theorem d_M_does_96 : decode prog_5_method_13_code 96 = .ok (.invokevirtual 101, 3) := by decide +kernel
theorem d_M_does_99 : decode prog_5_method_13_code 99 = .ok (.ireturn, 1) := by decide +kernel
theorem d_M_does_100 : decode prog_5_method_13_code 100 = .ok (.aload_n 0, 1) := by decide +kernel
theorem d_M_does_101 : decode prog_5_method_13_code 101 = .ok (.getfield 30, 3) := by decide +kernel
theorem d_M_does_104 : decode prog_5_method_13_code 104 = .ok (.iload_n 2, 1) := by decide +kernel
theorem d_M_does_105 : decode prog_5_method_13_code 105 = .ok (.iaload, 1) := by decide +kernel
theorem d_M_does_106 : decode prog_5_method_13_code 106 = .ok (.ifCond .eq 5, 3) := by decide +kernel
theorem d_M_does_109 : decode prog_5_method_13_code 109 = .ok (.iconst 0, 1) := by decide +kernel
theorem d_M_does_110 : decode prog_5_method_13_code 110 = .ok (.ireturn, 1) := by decide +kernel
theorem d_M_does_111 : decode prog_5_method_13_code 111 = .ok (.aload_n 0, 1) := by decide +kernel
theorem d_M_does_112 : decode prog_5_method_13_code 112 = .ok (.getfield 27, 3) := by decide +kernel
theorem d_M_does_115 : decode prog_5_method_13_code 115 = .ok (.iload_n 2, 1) := by decide +kernel
theorem d_M_does_116 : decode prog_5_method_13_code 116 = .ok (.iload_n 3, 1) := by decide +kernel
theorem d_M_does_117 : decode prog_5_method_13_code 117 = .ok (.iastore, 1) := by decide +kernel
theorem d_M_does_118 : decode prog_5_method_13_code 118 = .ok (.iconst 1, 1) := by decide +kernel
theorem d_M_does_119 : decode prog_5_method_13_code 119 = .ok (.ireturn, 1) := by decide +kernel
theorem d_M_does_120 : decode prog_5_method_13_code 120 = .ok (.aload_n 0, 1) := by decide +kernel
theorem d_M_does_121 : decode prog_5_method_13_code 121 = .ok (.iload_n 2, 1) := by decide +kernel
theorem d_M_does_122 : decode prog_5_method_13_code 122 = .ok (.iload_n 3, 1) := by decide +kernel
theorem d_M_does_123 : decode prog_5_method_13_code 123 = .ok (.aload_n 0, 1) := by decide +kernel
theorem d_M_does_124 : decode prog_5_method_13_code 124 = .ok (.getfield 20, 3) := by decide +kernel
theorem d_M_does_127 : decode prog_5_method_13_code 127 = .ok (.iload_n 1, 1) := by decide +kernel
theorem d_M_does_128 : decode prog_5_method_13_code 128 = .ok (.laload, 1) := by decide +kernel
theorem d_M_does_129 : decode prog_5_method_13_code 129 = .ok (.invokevirtual 105, 3) := by decide +kernel
theorem d_M_does_132 : decode prog_5_method_13_code 132 = .ok (.ireturn, 1) := by decide +kernel
theorem d_M_does_133 : decode prog_5_method_13_code 133 = .ok (.aload_n 0, 1) := by decide +kernel
theorem d_M_does_134 : decode prog_5_method_13_code 134 = .ok (.getfield 54, 3) := by decide +kernel
theorem d_M_does_137 : decode prog_5_method_13_code 137 = .ok (.iload_n 1, 1) := by decide +kernel
theorem d_M_does_138 : decode prog_5_method_13_code 138 = .ok (.aload_n 0, 1) := by decide +kernel
theorem d_M_does_139 : decode prog_5_method_13_code 139 = .ok (.getfield 30, 3) := by decide +kernel
theorem d_M_does_142 : decode prog_5_method_13_code 142 = .ok (.iload_n 2, 1) := by decide +kernel
theorem d_M_does_143 : decode prog_5_method_13_code 143 = .ok (.iaload, 1) := by decide +kernel
theorem d_M_does_144 : decode prog_5_method_13_code 144 = .ok (.iastore, 1) := by decide +kernel
theorem d_M_does_145 : decode prog_5_method_13_code 145 = .ok (.aload_n 0, 1) := by decide +kernel
theorem d_M_does_146 : decode prog_5_method_13_code 146 = .ok (.getfield 30, 3) := by decide +kernel
theorem d_M_does_149 : decode prog_5_method_13_code 149 = .ok (.iload_n 2, 1) := by decide +kernel
theorem d_M_does_150 : decode prog_5_method_13_code 150 = .ok (.iconst 0, 1) := by decide +kernel
theorem d_M_does_151 : decode prog_5_method_13_code 151 = .ok (.iastore, 1) := by decide +kernel
theorem d_M_does_152 : decode prog_5_method_13_code 152 = .ok (.aload_n 0, 1) := by decide +kernel
theorem d_M_does_153 : decode prog_5_method_13_code 153 = .ok (.getfield 54, 3) := by decide +kernel
theorem d_M_does_156 : decode prog_5_method_13_code 156 = .ok (.iload_n 1, 1) := by decide +kernel
theorem d_M_does_157 : decode prog_5_method_13_code 157 = .ok (.iaload, 1) := by decide +kernel
theorem d_M_does_158 : decode prog_5_method_13_code 158 = .ok (.ifCond .eq 7, 3) := by decide +kernel
theorem d_M_does_161 : decode prog_5_method_13_code 161 = .ok (.iconst 1, 1) := by decide +kernel
theorem d_M_does_162 : decode prog_5_method_13_code 162 = .ok (.goto 4, 3) := by decide +kernel
theorem d_M_does_165 : decode prog_5_method_13_code 165 = .ok (.iconst 0, 1) := by decide +kernel
theorem d_M_does_166 : decode prog_5_method_13_code 166 = .ok (.ireturn, 1) := by decide +kernel
theorem d_M_does_167 : decode prog_5_method_13_code 167 = .ok (.aload_n 0, 1) := by decide +kernel
theorem d_M_does_168 : decode prog_5_method_13_code 168 = .ok (.iload_n 2, 1) := by decide +kernel
theorem d_M_does_169 : decode prog_5_method_13_code 169 = .ok (.iload_n 3, 1) := by decide +kernel
theorem d_M_does_170 : decode prog_5_method_13_code 170 = .ok (.invokevirtual 109, 3) := by decide +kernel
theorem d_M_does_173 : decode prog_5_method_13_code 173 = .ok (.ireturn, 1) := by decide +kernel
theorem d_M_does_174 : decode prog_5_method_13_code 174 = .ok (.aload_n 0, 1) := by decide +kernel
theorem d_M_does_175 : decode prog_5_method_13_code 175 = .ok (.iload_n 2, 1) := by decide +kernel
theorem d_M_does_176 : decode prog_5_method_13_code 176 = .ok (.iload_n 3, 1) := by decide +kernel
theorem d_M_does_177 : decode prog_5_method_13_code 177 = .ok (.invokevirtual 97, 3) := by decide +kernel
theorem d_M_does_180 : decode prog_5_method_13_code 180 = .ok (.ireturn, 1) := by decide +kernel
theorem d_M_does_181 : decode prog_5_method_13_code 181 = .ok (.aload_n 0, 1) := by decide +kernel
theorem d_M_does_182 : decode prog_5_method_13_code 182 = .ok (.bipush 6, 2) := by decide +kernel
theorem d_M_does_184 : decode prog_5_method_13_code 184 = .ok (.iload_n 2, 1) := by decide +kernel
theorem d_M_does_185 : decode prog_5_method_13_code 185 = .ok (.imul, 1) := by decide +kernel
theorem d_M_does_186 : decode prog_5_method_13_code 186 = .ok (.iload_n 3, 1) := by decide +kernel
theorem d_M_does_187 : decode prog_5_method_13_code 187 = .ok (.iadd, 1) := by decide +kernel
theorem d_M_does_188 : decode prog_5_method_13_code 188 = .ok (.aload_n 0, 1) := by decide +kernel
theorem d_M_does_189 : decode prog_5_method_13_code 189 = .ok (.getfield 20, 3) := by decide +kernel
theorem d_M_does_192 : decode prog_5_method_13_code 192 = .ok (.iload_n 1, 1) := by decide +kernel
theorem d_M_does_193 : decode prog_5_method_13_code 193 = .ok (.laload, 1) := by decide +kernel
theorem d_M_does_194 : decode prog_5_method_13_code 194 = .ok (.ldc2_w 112, 3) := by decide +kernel
theorem d_M_does_197 : decode prog_5_method_13_code 197 = .ok (.lrem, 1) := by decide +kernel
theorem d_M_does_198 : decode prog_5_method_13_code 198 = .ok (.l2i, 1) := by decide +kernel
theorem d_M_does_199 : decode prog_5_method_13_code 199 = .ok (.invokevirtual 114, 3) := by decide +kernel
theorem d_M_does_202 : decode prog_5_method_13_code 202 = .ok (.ireturn, 1) := by decide +kernel
theorem d_M_does_203 : decode prog_5_method_13_code 203 = .ok (.aload_n 0, 1) := by decide +kernel
theorem d_M_does_204 : decode prog_5_method_13_code 204 = .ok (.bipush 6, 2) := by decide +kernel
theorem d_M_does_206 : decode prog_5_method_13_code 206 = .ok (.iload_n 2, 1) := by decide +kernel
theorem d_M_does_207 : decode prog_5_method_13_code 207 = .ok (.imul, 1) := by decide +kernel
theorem d_M_does_208 : decode prog_5_method_13_code 208 = .ok (.iload_n 3, 1) := by decide +kernel
theorem d_M_does_209 : decode prog_5_method_13_code 209 = .ok (.iadd, 1) := by decide +kernel
theorem d_M_does_210 : decode prog_5_method_13_code 210 = .ok (.iconst (-1), 1) := by decide +kernel
theorem d_M_does_211 : decode prog_5_method_13_code 211 = .ok (.invokevirtual 114, 3) := by decide +kernel
theorem d_M_does_214 : decode prog_5_method_13_code 214 = .ok (.ireturn, 1) := by decide +kernel
theorem d_M_does_215 : decode prog_5_method_13_code 215 = .ok (.aload_n 0, 1) := by decide +kernel
theorem d_M_does_216 : decode prog_5_method_13_code 216 = .ok (.getfield 45, 3) := by decide +kernel
theorem d_M_does_219 : decode prog_5_method_13_code 219 = .ok (.iload_n 2, 1) := by decide +kernel
theorem d_M_does_220 : decode prog_5_method_13_code 220 = .ok (.iload_n 3, 1) := by decide +kernel
theorem d_M_does_221 : decode prog_5_method_13_code 221 = .ok (.iastore, 1) := by decide +kernel
theorem d_M_does_222 : decode prog_5_method_13_code 222 = .ok (.iconst 1, 1) := by decide +kernel
theorem d_M_does_223 : decode prog_5_method_13_code 223 = .ok (.ireturn, 1) := by decide +kernel
theorem d_M_does_224 : decode prog_5_method_13_code 224 = .ok (.aload_n 0, 1) := by decide +kernel
theorem d_M_does_225 : decode prog_5_method_13_code 225 = .ok (.getfield 48, 3) := by decide +kernel
theorem d_M_does_228 : decode prog_5_method_13_code 228 = .ok (.iload_n 2, 1) := by decide +kernel
theorem d_M_does_229 : decode prog_5_method_13_code 229 = .ok (.iload_n 3, 1) := by decide +kernel
theorem d_M_does_230 : decode prog_5_method_13_code 230 = .ok (.iastore, 1) := by decide +kernel
theorem d_M_does_231 : decode prog_5_method_13_code 231 = .ok (.iconst 1, 1) := by decide +kernel
theorem d_M_does_232 : decode prog_5_method_13_code 232 = .ok (.ireturn, 1) := by decide +kernel
theorem d_M_go_0 : decode prog_5_method_14_code 0 = .ok (.aload_n 0, 1) := by decide +kernel
theorem d_M_go_1 : decode prog_5_method_14_code 1 = .ok (.invokevirtual 117, 3) := by decide +kernel
theorem d_M_go_4 : decode prog_5_method_14_code 4 = .ok (.iconst 0, 1) := by decide +kernel
theorem d_M_go_5 : decode prog_5_method_14_code 5 = .ok (.istore 6, 2) := by decide +kernel
theorem d_M_go_7 : decode prog_5_method_14_code 7 = .ok (.iload 6, 2) := by decide +kernel
theorem d_M_go_9 : decode prog_5_method_14_code 9 = .ok (.aload_n 0, 1) := by decide +kernel
theorem d_M_go_10 : decode prog_5_method_14_code 10 = .ok (.getfield 84, 3) := by decide +kernel
theorem d_M_go_13 : decode prog_5_method_14_code 13 = .ok (.if_icmp .ge 142, 3) := by decide +kernel
theorem d_M_go_16 : decode prog_5_method_14_code 16 = .ok (.aload_n 0, 1) := by decide +kernel
theorem d_M_go_17 : decode prog_5_method_14_code 17 = .ok (.getfield 20, 3) := by decide +kernel
theorem d_M_go_20 : decode prog_5_method_14_code 20 = .ok (.iload 6, 2) := by decide +kernel
theorem d_M_go_22 : decode prog_5_method_14_code 22 = .ok (.laload, 1) := by decide +kernel
theorem d_M_go_23 : decode prog_5_method_14_code 23 = .ok (.lload_n 1, 1) := by decide +kernel
theorem d_M_go_24 : decode prog_5_method_14_code 24 = .ok (.lcmp, 1) := by decide +kernel
theorem d_M_go_25 : decode prog_5_method_14_code 25 = .ok (.ifCond .gt 124, 3) := by decide +kernel
theorem d_M_go_28 : decode prog_5_method_14_code 28 = .ok (.iload 6, 2) := by decide +kernel
theorem d_M_go_30 : decode prog_5_method_14_code 30 = .ok (.iload_n 3, 1) := by decide +kernel
theorem d_M_go_31 : decode prog_5_method_14_code 31 = .ok (.if_icmp .eq 118, 3) := by decide +kernel
theorem d_M_go_34 : decode prog_5_method_14_code 34 = .ok (.iload 6, 2) := by decide +kernel
theorem d_M_go_36 : decode prog_5_method_14_code 36 = .ok (.iload 4, 2) := by decide +kernel
theorem d_M_go_38 : decode prog_5_method_14_code 38 = .ok (.if_icmp .eq 111, 3) := by decide +kernel
theorem d_M_go_41 : decode prog_5_method_14_code 41 = .ok (.aload_n 0, 1) := by decide +kernel
theorem d_M_go_42 : decode prog_5_method_14_code 42 = .ok (.getfield 51, 3) := by decide +kernel
theorem d_M_go_45 : decode prog_5_method_14_code 45 = .ok (.iload 6, 2) := by decide +kernel
theorem d_M_go_47 : decode prog_5_method_14_code 47 = .ok (.aload_n 0, 1) := by decide +kernel
theorem d_M_go_48 : decode prog_5_method_14_code 48 = .ok (.iload 6, 2) := by decide +kernel
theorem d_M_go_50 : decode prog_5_method_14_code 50 = .ok (.invokevirtual 120, 3) := by decide +kernel
theorem d_M_go_53 : decode prog_5_method_14_code 53 = .ok (.ifCond .ne 7, 3) := by decide +kernel
theorem d_M_go_56 : decode prog_5_method_14_code 56 = .ok (.iconst 1, 1) := by decide +kernel
theorem d_M_go_57 : decode prog_5_method_14_code 57 = .ok (.goto 4, 3) := by decide +kernel
theorem d_M_go_60 : decode prog_5_method_14_code 60 = .ok (.iconst 0, 1) := by decide +kernel
theorem d_M_go_61 : decode prog_5_method_14_code 61 = .ok (.bastore, 1) := by decide +kernel
theorem d_M_go_62 : decode prog_5_method_14_code 62 = .ok (.aload_n 0, 1) := by decide +kernel
theorem d_M_go_63 : decode prog_5_method_14_code 63 = .ok (.dup, 1) := by decide +kernel
theorem d_M_go_64 : decode prog_5_method_14_code 64 = .ok (.getfield 87, 3) := by decide +kernel
theorem d_M_go_67 : decode prog_5_method_14_code 67 = .ok (.aload_n 0, 1) := by decide +kernel
theorem d_M_go_68 : decode prog_5_method_14_code 68 = .ok (.getfield 51, 3) := by decide +kernel
theorem d_M_go_71 : decode prog_5_method_14_code 71 = .ok (.iload 6, 2) := by decide +kernel
theorem d_M_go_73 : decode prog_5_method_14_code 73 = .ok (.baload, 1) := by decide +kernel
theorem d_M_go_74 : decode prog_5_method_14_code 74 = .ok (.ifCond .eq 7, 3) := by decide +kernel
theorem d_M_go_77 : decode prog_5_method_14_code 77 = .ok (.iconst 1, 1) := by decide +kernel
theorem d_M_go_78 : decode prog_5_method_14_code 78 = .ok (.goto 4, 3) := by decide +kernel
theorem d_M_go_81 : decode prog_5_method_14_code 81 = .ok (.iconst 0, 1) := by decide +kernel
theorem d_M_go_82 : decode prog_5_method_14_code 82 = .ok (.iadd, 1) := by decide +kernel
theorem d_M_go_83 : decode prog_5_method_14_code 83 = .ok (.putfield 87, 3) := by decide +kernel
theorem d_M_go_86 : decode prog_5_method_14_code 86 = .ok (.iconst 0, 1) := by decide +kernel
theorem d_M_go_87 : decode prog_5_method_14_code 87 = .ok (.istore 7, 2) := by decide +kernel
theorem d_M_go_89 : decode prog_5_method_14_code 89 = .ok (.iconst 1, 1) := by decide +kernel
theorem d_M_go_90 : decode prog_5_method_14_code 90 = .ok (.istore 8, 2) := by decide +kernel
theorem d_M_go_92 : decode prog_5_method_14_code 92 = .ok (.iload 8, 2) := by decide +kernel
theorem d_M_go_94 : decode prog_5_method_14_code 94 = .ok (.bipush 21, 2) := by decide +kernel
theorem d_M_go_96 : decode prog_5_method_14_code 96 = .ok (.if_icmp .ge 31, 3) := by decide +kernel
theorem d_M_go_99 : decode prog_5_method_14_code 99 = .ok (.iload 7, 2) := by decide +kernel
theorem d_M_go_101 : decode prog_5_method_14_code 101 = .ok (.aload_n 0, 1) := by decide +kernel
theorem d_M_go_102 : decode prog_5_method_14_code 102 = .ok (.getfield 30, 3) := by decide +kernel
theorem d_M_go_105 : decode prog_5_method_14_code 105 = .ok (.iload 8, 2) := by decide +kernel
theorem d_M_go_107 : decode prog_5_method_14_code 107 = .ok (.iaload, 1) := by decide +kernel
theorem d_M_go_108 : decode prog_5_method_14_code 108 = .ok (.iload 5, 2) := by decide +kernel
theorem d_M_go_110 : decode prog_5_method_14_code 110 = .ok (.if_icmp .ne 7, 3) := by decide +kernel
theorem d_M_go_113 : decode prog_5_method_14_code 113 = .ok (.iconst 1, 1) := by decide +kernel
theorem d_M_go_114 : decode prog_5_method_14_code 114 = .ok (.goto 4, 3) := by decide +kernel
theorem d_M_go_117 : decode prog_5_method_14_code 117 = .ok (.iconst 0, 1) := by decide +kernel
theorem d_M_go_118 : decode prog_5_method_14_code 118 = .ok (.iadd, 1) := by decide +kernel
theorem d_M_go_119 : decode prog_5_method_14_code 119 = .ok (.istore 7, 2) := by decide +kernel
theorem d_M_go_121 : decode prog_5_method_14_code 121 = .ok (.iinc 8 1, 3) := by decide +kernel
theorem d_M_go_124 : decode prog_5_method_14_code 124 = .ok (.goto (-32), 3) := by decide +kernel
theorem d_M_go_127 : decode prog_5_method_14_code 127 = .ok (.aload_n 0, 1) := by decide +kernel
theorem d_M_go_128 : decode prog_5_method_14_code 128 = .ok (.iload 7, 2) := by decide +kernel
theorem d_M_go_130 : decode prog_5_method_14_code 130 = .ok (.aload_n 0, 1) := by decide +kernel
theorem d_M_go_131 : decode prog_5_method_14_code 131 = .ok (.getfield 90, 3) := by decide +kernel
theorem d_M_go_134 : decode prog_5_method_14_code 134 = .ok (.if_icmp .le 8, 3) := by decide +kernel
theorem d_M_go_137 : decode prog_5_method_14_code 137 = .ok (.iload 7, 2) := by decide +kernel
theorem d_M_go_139 : decode prog_5_method_14_code 139 = .ok (.goto 7, 3) := by decide +kernel
theorem d_M_go_142 : decode prog_5_method_14_code 142 = .ok (.aload_n 0, 1) := by decide +kernel
theorem d_M_go_143 : decode prog_5_method_14_code 143 = .ok (.getfield 90, 3) := by decide +kernel
theorem d_M_go_146 : decode prog_5_method_14_code 146 = .ok (.putfield 90, 3) := by decide +kernel
theorem d_M_go_149 : decode prog_5_method_14_code 149 = .ok (.iinc 6 1, 3) := by decide +kernel
theorem d_M_go_152 : decode prog_5_method_14_code 152 = .ok (.goto (-145), 3) := by decide +kernel
theorem d_M_go_155 : decode prog_5_method_14_code 155 = .ok (.return_, 1) := by decide +kernel
theorem d_M_all_0 : decode prog_5_method_15_code 0 = .ok (.aload_n 0, 1) := by decide +kernel
theorem d_M_all_1 : decode prog_5_method_15_code 1 = .ok (.ldc2_w 82, 3) := by decide +kernel
theorem d_M_all_4 : decode prog_5_method_15_code 4 = .ok (.iconst (-1), 1) := by decide +kernel
theorem d_M_all_5 : decode prog_5_method_15_code 5 = .ok (.iconst (-1), 1) := by decide +kernel
theorem d_M_all_6 : decode prog_5_method_15_code 6 = .ok (.iconst (-1), 1) := by decide +kernel
theorem d_M_all_7 : decode prog_5_method_15_code 7 = .ok (.invokevirtual 124, 3) := by decide +kernel
theorem d_M_all_10 : decode prog_5_method_15_code 10 = .ok (.return_, 1) := by decide +kernel
theorem d_M_isNumber_0 : decode prog_5_method_16_code 0 = .ok (.iload_n 0, 1) := by decide +kernel
theorem d_M_isNumber_1 : decode prog_5_method_16_code 1 = .ok (.ifCond .le 13, 3) := by decide +kernel
theorem d_M_isNumber_4 : decode prog_5_method_16_code 4 = .ok (.iload_n 0, 1) := by decide +kernel
theorem d_M_isNumber_5 : decode prog_5_method_16_code 5 = .ok (.bipush 21, 2) := by decide +kernel
theorem d_M_isNumber_7 : decode prog_5_method_16_code 7 = .ok (.if_icmp .ge 7, 3) := by decide +kernel
theorem d_M_isNumber_10 : decode prog_5_method_16_code 10 = .ok (.iconst 1, 1) := by decide +kernel
theorem d_M_isNumber_11 : decode prog_5_method_16_code 11 = .ok (.goto 4, 3) := by decide +kernel
theorem d_M_isNumber_14 : decode prog_5_method_16_code 14 = .ok (.iconst 0, 1) := by decide +kernel
theorem d_M_isNumber_15 : decode prog_5_method_16_code 15 = .ok (.ireturn, 1) := by decide +kernel
theorem d_M_counts_0 : decode prog_5_method_17_code 0 = .ok (.aload_n 0, 1) := by decide +kernel
theorem d_M_counts_1 : decode prog_5_method_17_code 1 = .ok (.iconst 0, 1) := by decide +kernel
theorem d_M_counts_2 : decode prog_5_method_17_code 2 = .ok (.putfield 60, 3) := by decide +kernel
theorem d_M_counts_5 : decode prog_5_method_17_code 5 = .ok (.iload_n 1, 1) := by decide +kernel
theorem d_M_counts_6 : decode prog_5_method_17_code 6 = .ok (.ifCond .lt 11, 3) := by decide +kernel
theorem d_M_counts_9 : decode prog_5_method_17_code 9 = .ok (.iload_n 1, 1) := by decide +kernel
theorem d_M_counts_10 : decode prog_5_method_17_code 10 = .ok (.aload_n 0, 1) := by decide +kernel
theorem d_M_counts_11 : decode prog_5_method_17_code 11 = .ok (.getfield 84, 3) := by decide +kernel
theorem d_M_counts_14 : decode prog_5_method_17_code 14 = .ok (.if_icmp .lt 5, 3) := by decide +kernel
theorem d_M_counts_17 : decode prog_5_method_17_code 17 = .ok (.iconst (-1), 1) := by decide +kernel
theorem d_M_counts_18 : decode prog_5_method_17_code 18 = .ok (.ireturn, 1) := by decide +kernel
theorem d_M_counts_19 : decode prog_5_method_17_code 19 = .ok (.aload_n 0, 1) := by decide +kernel
theorem d_M_counts_20 : decode prog_5_method_17_code 20 = .ok (.invokevirtual 128, 3) := by decide +kernel
theorem d_M_counts_23 : decode prog_5_method_17_code 23 = .ok (.aload_n 0, 1) := by decide +kernel
theorem d_M_counts_24 : decode prog_5_method_17_code 24 = .ok (.getfield 51, 3) := by decide +kernel
theorem d_M_counts_27 : decode prog_5_method_17_code 27 = .ok (.iload_n 1, 1) := by decide +kernel
theorem d_M_counts_28 : decode prog_5_method_17_code 28 = .ok (.baload, 1) := by decide +kernel
theorem d_M_counts_29 : decode prog_5_method_17_code 29 = .ok (.ifCond .eq 7, 3) := by decide +kernel
theorem d_M_counts_32 : decode prog_5_method_17_code 32 = .ok (.iconst 0, 1) := by decide +kernel
theorem d_M_counts_33 : decode prog_5_method_17_code 33 = .ok (.goto 4, 3) := by decide +kernel
theorem d_M_counts_36 : decode prog_5_method_17_code 36 = .ok (.iconst 1, 1) := by decide +kernel
theorem d_M_counts_37 : decode prog_5_method_17_code 37 = .ok (.ireturn, 1) := by decide +kernel
theorem d_M_events_0 : decode prog_5_method_18_code 0 = .ok (.aload_n 0, 1) := by decide +kernel
theorem d_M_events_1 : decode prog_5_method_18_code 1 = .ok (.iconst 0, 1) := by decide +kernel
theorem d_M_events_2 : decode prog_5_method_18_code 2 = .ok (.putfield 60, 3) := by decide +kernel
theorem d_M_events_5 : decode prog_5_method_18_code 5 = .ok (.aload_n 0, 1) := by decide +kernel
theorem d_M_events_6 : decode prog_5_method_18_code 6 = .ok (.getfield 84, 3) := by decide +kernel
theorem d_M_events_9 : decode prog_5_method_18_code 9 = .ok (.ireturn, 1) := by decide +kernel
theorem d_M_refused_0 : decode prog_5_method_19_code 0 = .ok (.aload_n 0, 1) := by decide +kernel
theorem d_M_refused_1 : decode prog_5_method_19_code 1 = .ok (.iconst 0, 1) := by decide +kernel
theorem d_M_refused_2 : decode prog_5_method_19_code 2 = .ok (.putfield 60, 3) := by decide +kernel
theorem d_M_refused_5 : decode prog_5_method_19_code 5 = .ok (.aload_n 0, 1) := by decide +kernel
theorem d_M_refused_6 : decode prog_5_method_19_code 6 = .ok (.invokevirtual 128, 3) := by decide +kernel
theorem d_M_refused_9 : decode prog_5_method_19_code 9 = .ok (.aload_n 0, 1) := by decide +kernel
theorem d_M_refused_10 : decode prog_5_method_19_code 10 = .ok (.getfield 87, 3) := by decide +kernel
theorem d_M_refused_13 : decode prog_5_method_19_code 13 = .ok (.ireturn, 1) := by decide +kernel
theorem d_M_state_0 : decode prog_5_method_20_code 0 = .ok (.aload_n 0, 1) := by decide +kernel
theorem d_M_state_1 : decode prog_5_method_20_code 1 = .ok (.iconst 0, 1) := by decide +kernel
theorem d_M_state_2 : decode prog_5_method_20_code 2 = .ok (.putfield 60, 3) := by decide +kernel
theorem d_M_state_5 : decode prog_5_method_20_code 5 = .ok (.iload_n 2, 1) := by decide +kernel
theorem d_M_state_6 : decode prog_5_method_20_code 6 = .ok (.invokestatic 131, 3) := by decide +kernel
theorem d_M_state_9 : decode prog_5_method_20_code 9 = .ok (.ifCond .ne 5, 3) := by decide +kernel
theorem d_M_state_12 : decode prog_5_method_20_code 12 = .ok (.iconst (-1), 1) := by decide +kernel
theorem d_M_state_13 : decode prog_5_method_20_code 13 = .ok (.ireturn, 1) := by decide +kernel
theorem d_M_state_14 : decode prog_5_method_20_code 14 = .ok (.aload_n 0, 1) := by decide +kernel
theorem d_M_state_15 : decode prog_5_method_20_code 15 = .ok (.lload_n 3, 1) := by decide +kernel
theorem d_M_state_16 : decode prog_5_method_20_code 16 = .ok (.iconst (-1), 1) := by decide +kernel
theorem d_M_state_17 : decode prog_5_method_20_code 17 = .ok (.iconst (-1), 1) := by decide +kernel
theorem d_M_state_18 : decode prog_5_method_20_code 18 = .ok (.iconst (-1), 1) := by decide +kernel
theorem d_M_state_19 : decode prog_5_method_20_code 19 = .ok (.invokevirtual 124, 3) := by decide +kernel
theorem d_M_state_22 : decode prog_5_method_20_code 22 = .ok (.iload_n 1, 1) := by decide +kernel
theorem d_M_state_23 : decode prog_5_method_20_code 23 = .ok (.tableswitch 103 0 3 #[29, 36, 43, 50], 29) := by decide +kernel
theorem d_M_state_52 : decode prog_5_method_20_code 52 = .ok (.aload_n 0, 1) := by decide +kernel
theorem d_M_state_53 : decode prog_5_method_20_code 53 = .ok (.getfield 27, 3) := by decide +kernel
theorem d_M_state_56 : decode prog_5_method_20_code 56 = .ok (.iload_n 2, 1) := by decide +kernel
theorem d_M_state_57 : decode prog_5_method_20_code 57 = .ok (.iaload, 1) := by decide +kernel
theorem d_M_state_58 : decode prog_5_method_20_code 58 = .ok (.ireturn, 1) := by decide +kernel
theorem d_M_state_59 : decode prog_5_method_20_code 59 = .ok (.aload_n 0, 1) := by decide +kernel
theorem d_M_state_60 : decode prog_5_method_20_code 60 = .ok (.getfield 30, 3) := by decide +kernel
theorem d_M_state_63 : decode prog_5_method_20_code 63 = .ok (.iload_n 2, 1) := by decide +kernel
theorem d_M_state_64 : decode prog_5_method_20_code 64 = .ok (.iaload, 1) := by decide +kernel
theorem d_M_state_65 : decode prog_5_method_20_code 65 = .ok (.ireturn, 1) := by decide +kernel
theorem d_M_state_66 : decode prog_5_method_20_code 66 = .ok (.aload_n 0, 1) := by decide +kernel
theorem d_M_state_67 : decode prog_5_method_20_code 67 = .ok (.getfield 45, 3) := by decide +kernel
theorem d_M_state_70 : decode prog_5_method_20_code 70 = .ok (.iload_n 2, 1) := by decide +kernel
theorem d_M_state_71 : decode prog_5_method_20_code 71 = .ok (.iaload, 1) := by decide +kernel
theorem d_M_state_72 : decode prog_5_method_20_code 72 = .ok (.ireturn, 1) := by decide +kernel
theorem d_M_state_73 : decode prog_5_method_20_code 73 = .ok (.iconst 0, 1) := by decide +kernel
theorem d_M_state_74 : decode prog_5_method_20_code 74 = .ok (.istore 5, 2) := by decide +kernel
theorem d_M_state_76 : decode prog_5_method_20_code 76 = .ok (.iconst 1, 1) := by decide +kernel
theorem d_M_state_77 : decode prog_5_method_20_code 77 = .ok (.istore 6, 2) := by decide +kernel
theorem d_M_state_79 : decode prog_5_method_20_code 79 = .ok (.iload 6, 2) := by decide +kernel
theorem d_M_state_81 : decode prog_5_method_20_code 81 = .ok (.bipush 21, 2) := by decide +kernel
theorem d_M_state_83 : decode prog_5_method_20_code 83 = .ok (.if_icmp .ge 40, 3) := by decide +kernel
theorem d_M_state_86 : decode prog_5_method_20_code 86 = .ok (.iload 5, 2) := by decide +kernel
theorem d_M_state_88 : decode prog_5_method_20_code 88 = .ok (.aload_n 0, 1) := by decide +kernel
theorem d_M_state_89 : decode prog_5_method_20_code 89 = .ok (.getfield 27, 3) := by decide +kernel
theorem d_M_state_92 : decode prog_5_method_20_code 92 = .ok (.iload 6, 2) := by decide +kernel
theorem d_M_state_94 : decode prog_5_method_20_code 94 = .ok (.iaload, 1) := by decide +kernel
theorem d_M_state_95 : decode prog_5_method_20_code 95 = .ok (.iload_n 2, 1) := by decide +kernel
theorem d_M_state_96 : decode prog_5_method_20_code 96 = .ok (.if_icmp .ne 17, 3) := by decide +kernel
theorem d_M_state_99 : decode prog_5_method_20_code 99 = .ok (.aload_n 0, 1) := by decide +kernel
theorem d_M_state_100 : decode prog_5_method_20_code 100 = .ok (.getfield 30, 3) := by decide +kernel
theorem d_M_state_103 : decode prog_5_method_20_code 103 = .ok (.iload 6, 2) := by decide +kernel
theorem d_M_state_105 : decode prog_5_method_20_code 105 = .ok (.iaload, 1) := by decide +kernel
theorem d_M_state_106 : decode prog_5_method_20_code 106 = .ok (.ifCond .ne 7, 3) := by decide +kernel
theorem d_M_state_109 : decode prog_5_method_20_code 109 = .ok (.iconst 1, 1) := by decide +kernel
theorem d_M_state_110 : decode prog_5_method_20_code 110 = .ok (.goto 4, 3) := by decide +kernel
theorem d_M_state_113 : decode prog_5_method_20_code 113 = .ok (.iconst 0, 1) := by decide +kernel
theorem d_M_state_114 : decode prog_5_method_20_code 114 = .ok (.iadd, 1) := by decide +kernel
theorem d_M_state_115 : decode prog_5_method_20_code 115 = .ok (.istore 5, 2) := by decide +kernel
theorem d_M_state_117 : decode prog_5_method_20_code 117 = .ok (.iinc 6 1, 3) := by decide +kernel
theorem d_M_state_120 : decode prog_5_method_20_code 120 = .ok (.goto (-41), 3) := by decide +kernel
theorem d_M_state_123 : decode prog_5_method_20_code 123 = .ok (.iload 5, 2) := by decide +kernel
theorem d_M_state_125 : decode prog_5_method_20_code 125 = .ok (.ireturn, 1) := by decide +kernel
theorem d_M_state_126 : decode prog_5_method_20_code 126 = .ok (.iconst (-1), 1) := by decide +kernel
theorem d_M_state_127 : decode prog_5_method_20_code 127 = .ok (.ireturn, 1) := by decide +kernel
theorem d_M_heading_0 : decode prog_5_method_21_code 0 = .ok (.aload_n 0, 1) := by decide +kernel
theorem d_M_heading_1 : decode prog_5_method_21_code 1 = .ok (.iconst 0, 1) := by decide +kernel
theorem d_M_heading_2 : decode prog_5_method_21_code 2 = .ok (.putfield 60, 3) := by decide +kernel
theorem d_M_heading_5 : decode prog_5_method_21_code 5 = .ok (.aload_n 0, 1) := by decide +kernel
theorem d_M_heading_6 : decode prog_5_method_21_code 6 = .ok (.invokevirtual 128, 3) := by decide +kernel
theorem d_M_heading_9 : decode prog_5_method_21_code 9 = .ok (.iconst 0, 1) := by decide +kernel
theorem d_M_heading_10 : decode prog_5_method_21_code 10 = .ok (.istore_n 3, 1) := by decide +kernel
theorem d_M_heading_11 : decode prog_5_method_21_code 11 = .ok (.iconst 1, 1) := by decide +kernel
theorem d_M_heading_12 : decode prog_5_method_21_code 12 = .ok (.istore 4, 2) := by decide +kernel
theorem d_M_heading_14 : decode prog_5_method_21_code 14 = .ok (.iload 4, 2) := by decide +kernel
theorem d_M_heading_16 : decode prog_5_method_21_code 16 = .ok (.bipush 100, 2) := by decide +kernel
theorem d_M_heading_18 : decode prog_5_method_21_code 18 = .ok (.if_icmp .ge 46, 3) := by decide +kernel
theorem d_M_heading_21 : decode prog_5_method_21_code 21 = .ok (.iload_n 1, 1) := by decide +kernel
theorem d_M_heading_22 : decode prog_5_method_21_code 22 = .ok (.invokestatic 131, 3) := by decide +kernel
theorem d_M_heading_25 : decode prog_5_method_21_code 25 = .ok (.ifCond .eq 39, 3) := by decide +kernel
theorem d_M_heading_28 : decode prog_5_method_21_code 28 = .ok (.iload_n 2, 1) := by decide +kernel
theorem d_M_heading_29 : decode prog_5_method_21_code 29 = .ok (.ifCond .lt 35, 3) := by decide +kernel
theorem d_M_heading_32 : decode prog_5_method_21_code 32 = .ok (.aload_n 0, 1) := by decide +kernel
theorem d_M_heading_33 : decode prog_5_method_21_code 33 = .ok (.getfield 23, 3) := by decide +kernel
theorem d_M_heading_36 : decode prog_5_method_21_code 36 = .ok (.bipush 100, 2) := by decide +kernel
theorem d_M_heading_38 : decode prog_5_method_21_code 38 = .ok (.iload_n 1, 1) := by decide +kernel
theorem d_M_heading_39 : decode prog_5_method_21_code 39 = .ok (.imul, 1) := by decide +kernel
theorem d_M_heading_40 : decode prog_5_method_21_code 40 = .ok (.iload 4, 2) := by decide +kernel
theorem d_M_heading_42 : decode prog_5_method_21_code 42 = .ok (.iadd, 1) := by decide +kernel
theorem d_M_heading_43 : decode prog_5_method_21_code 43 = .ok (.baload, 1) := by decide +kernel
theorem d_M_heading_44 : decode prog_5_method_21_code 44 = .ok (.ifCond .eq 14, 3) := by decide +kernel
theorem d_M_heading_47 : decode prog_5_method_21_code 47 = .ok (.iload_n 3, 1) := by decide +kernel
theorem d_M_heading_48 : decode prog_5_method_21_code 48 = .ok (.iload_n 2, 1) := by decide +kernel
theorem d_M_heading_49 : decode prog_5_method_21_code 49 = .ok (.if_icmp .ne 6, 3) := by decide +kernel
theorem d_M_heading_52 : decode prog_5_method_21_code 52 = .ok (.iload 4, 2) := by decide +kernel
theorem d_M_heading_54 : decode prog_5_method_21_code 54 = .ok (.ireturn, 1) := by decide +kernel
theorem d_M_heading_55 : decode prog_5_method_21_code 55 = .ok (.iinc 3 1, 3) := by decide +kernel
theorem d_M_heading_58 : decode prog_5_method_21_code 58 = .ok (.iinc 4 1, 3) := by decide +kernel
theorem d_M_heading_61 : decode prog_5_method_21_code 61 = .ok (.goto (-47), 3) := by decide +kernel
theorem d_M_heading_64 : decode prog_5_method_21_code 64 = .ok (.iconst (-1), 1) := by decide +kernel
theorem d_M_heading_65 : decode prog_5_method_21_code 65 = .ok (.ireturn, 1) := by decide +kernel
theorem d_M_question_0 : decode prog_5_method_22_code 0 = .ok (.aload_n 0, 1) := by decide +kernel
theorem d_M_question_1 : decode prog_5_method_22_code 1 = .ok (.iconst 0, 1) := by decide +kernel
theorem d_M_question_2 : decode prog_5_method_22_code 2 = .ok (.putfield 60, 3) := by decide +kernel
theorem d_M_question_5 : decode prog_5_method_22_code 5 = .ok (.iload_n 1, 1) := by decide +kernel
theorem d_M_question_6 : decode prog_5_method_22_code 6 = .ok (.iconst 1, 1) := by decide +kernel
theorem d_M_question_7 : decode prog_5_method_22_code 7 = .ok (.if_icmp .lt 19, 3) := by decide +kernel
theorem d_M_question_10 : decode prog_5_method_22_code 10 = .ok (.iload_n 1, 1) := by decide +kernel
theorem d_M_question_11 : decode prog_5_method_22_code 11 = .ok (.bipush 99, 2) := by decide +kernel
theorem d_M_question_13 : decode prog_5_method_22_code 13 = .ok (.if_icmp .gt 13, 3) := by decide +kernel
theorem d_M_question_16 : decode prog_5_method_22_code 16 = .ok (.iload_n 2, 1) := by decide +kernel
theorem d_M_question_17 : decode prog_5_method_22_code 17 = .ok (.ifCond .lt 9, 3) := by decide +kernel
theorem d_M_question_20 : decode prog_5_method_22_code 20 = .ok (.iload_n 2, 1) := by decide +kernel
theorem d_M_question_21 : decode prog_5_method_22_code 21 = .ok (.bipush 99, 2) := by decide +kernel
theorem d_M_question_23 : decode prog_5_method_22_code 23 = .ok (.if_icmp .le 5, 3) := by decide +kernel
theorem d_M_question_26 : decode prog_5_method_22_code 26 = .ok (.iconst (-1), 1) := by decide +kernel
theorem d_M_question_27 : decode prog_5_method_22_code 27 = .ok (.ireturn, 1) := by decide +kernel
theorem d_M_question_28 : decode prog_5_method_22_code 28 = .ok (.aload_n 0, 1) := by decide +kernel
theorem d_M_question_29 : decode prog_5_method_22_code 29 = .ok (.invokevirtual 128, 3) := by decide +kernel
theorem d_M_question_32 : decode prog_5_method_22_code 32 = .ok (.aload_n 0, 1) := by decide +kernel
theorem d_M_question_33 : decode prog_5_method_22_code 33 = .ok (.iconst 0, 1) := by decide +kernel
theorem d_M_question_34 : decode prog_5_method_22_code 34 = .ok (.putfield 134, 3) := by decide +kernel
theorem d_M_question_37 : decode prog_5_method_22_code 37 = .ok (.iconst 1, 1) := by decide +kernel
theorem d_M_question_38 : decode prog_5_method_22_code 38 = .ok (.istore_n 3, 1) := by decide +kernel
theorem d_M_question_39 : decode prog_5_method_22_code 39 = .ok (.iload_n 3, 1) := by decide +kernel
theorem d_M_question_40 : decode prog_5_method_22_code 40 = .ok (.bipush 21, 2) := by decide +kernel
theorem d_M_question_42 : decode prog_5_method_22_code 42 = .ok (.if_icmp .ge 57, 3) := by decide +kernel
theorem d_M_question_45 : decode prog_5_method_22_code 45 = .ok (.aload_n 0, 1) := by decide +kernel
theorem d_M_question_46 : decode prog_5_method_22_code 46 = .ok (.getfield 23, 3) := by decide +kernel
theorem d_M_question_49 : decode prog_5_method_22_code 49 = .ok (.bipush 100, 2) := by decide +kernel
theorem d_M_question_51 : decode prog_5_method_22_code 51 = .ok (.iload_n 3, 1) := by decide +kernel
theorem d_M_question_52 : decode prog_5_method_22_code 52 = .ok (.imul, 1) := by decide +kernel
theorem d_M_question_53 : decode prog_5_method_22_code 53 = .ok (.iload_n 1, 1) := by decide +kernel
theorem d_M_question_54 : decode prog_5_method_22_code 54 = .ok (.iadd, 1) := by decide +kernel
theorem d_M_question_55 : decode prog_5_method_22_code 55 = .ok (.baload, 1) := by decide +kernel
theorem d_M_question_56 : decode prog_5_method_22_code 56 = .ok (.ifCond .eq 37, 3) := by decide +kernel
theorem d_M_question_59 : decode prog_5_method_22_code 59 = .ok (.aload_n 0, 1) := by decide +kernel
theorem d_M_question_60 : decode prog_5_method_22_code 60 = .ok (.getfield 23, 3) := by decide +kernel
theorem d_M_question_63 : decode prog_5_method_22_code 63 = .ok (.bipush 100, 2) := by decide +kernel
theorem d_M_question_65 : decode prog_5_method_22_code 65 = .ok (.iload_n 3, 1) := by decide +kernel
theorem d_M_question_66 : decode prog_5_method_22_code 66 = .ok (.imul, 1) := by decide +kernel
theorem d_M_question_67 : decode prog_5_method_22_code 67 = .ok (.iload_n 2, 1) := by decide +kernel
theorem d_M_question_68 : decode prog_5_method_22_code 68 = .ok (.iadd, 1) := by decide +kernel
theorem d_M_question_69 : decode prog_5_method_22_code 69 = .ok (.baload, 1) := by decide +kernel
theorem d_M_question_70 : decode prog_5_method_22_code 70 = .ok (.ifCond .ne 23, 3) := by decide +kernel
theorem d_M_question_73 : decode prog_5_method_22_code 73 = .ok (.aload_n 0, 1) := by decide +kernel
theorem d_M_question_74 : decode prog_5_method_22_code 74 = .ok (.getfield 57, 3) := by decide +kernel
theorem d_M_question_77 : decode prog_5_method_22_code 77 = .ok (.aload_n 0, 1) := by decide +kernel
theorem d_M_question_78 : decode prog_5_method_22_code 78 = .ok (.getfield 134, 3) := by decide +kernel
theorem d_M_question_81 : decode prog_5_method_22_code 81 = .ok (.iload_n 3, 1) := by decide +kernel
theorem d_M_question_82 : decode prog_5_method_22_code 82 = .ok (.iastore, 1) := by decide +kernel
theorem d_M_question_83 : decode prog_5_method_22_code 83 = .ok (.aload_n 0, 1) := by decide +kernel
theorem d_M_question_84 : decode prog_5_method_22_code 84 = .ok (.dup, 1) := by decide +kernel
theorem d_M_question_85 : decode prog_5_method_22_code 85 = .ok (.getfield 134, 3) := by decide +kernel
theorem d_M_question_88 : decode prog_5_method_22_code 88 = .ok (.iconst 1, 1) := by decide +kernel
theorem d_M_question_89 : decode prog_5_method_22_code 89 = .ok (.iadd, 1) := by decide +kernel
theorem d_M_question_90 : decode prog_5_method_22_code 90 = .ok (.putfield 134, 3) := by decide +kernel
theorem d_M_question_93 : decode prog_5_method_22_code 93 = .ok (.iinc 3 1, 3) := by decide +kernel
theorem d_M_question_96 : decode prog_5_method_22_code 96 = .ok (.goto (-57), 3) := by decide +kernel
theorem d_M_question_99 : decode prog_5_method_22_code 99 = .ok (.aload_n 0, 1) := by decide +kernel
theorem d_M_question_100 : decode prog_5_method_22_code 100 = .ok (.getfield 134, 3) := by decide +kernel
theorem d_M_question_103 : decode prog_5_method_22_code 103 = .ok (.ireturn, 1) := by decide +kernel
theorem d_M_hit_0 : decode prog_5_method_23_code 0 = .ok (.aload_n 0, 1) := by decide +kernel
theorem d_M_hit_1 : decode prog_5_method_23_code 1 = .ok (.iconst 0, 1) := by decide +kernel
theorem d_M_hit_2 : decode prog_5_method_23_code 2 = .ok (.putfield 60, 3) := by decide +kernel
theorem d_M_hit_5 : decode prog_5_method_23_code 5 = .ok (.iload_n 1, 1) := by decide +kernel
theorem d_M_hit_6 : decode prog_5_method_23_code 6 = .ok (.ifCond .lt 11, 3) := by decide +kernel
theorem d_M_hit_9 : decode prog_5_method_23_code 9 = .ok (.iload_n 1, 1) := by decide +kernel
theorem d_M_hit_10 : decode prog_5_method_23_code 10 = .ok (.aload_n 0, 1) := by decide +kernel
theorem d_M_hit_11 : decode prog_5_method_23_code 11 = .ok (.getfield 134, 3) := by decide +kernel
theorem d_M_hit_14 : decode prog_5_method_23_code 14 = .ok (.if_icmp .lt 7, 3) := by decide +kernel
theorem d_M_hit_17 : decode prog_5_method_23_code 17 = .ok (.iconst (-1), 1) := by decide +kernel
theorem d_M_hit_18 : decode prog_5_method_23_code 18 = .ok (.goto 9, 3) := by decide +kernel
theorem d_M_hit_21 : decode prog_5_method_23_code 21 = .ok (.aload_n 0, 1) := by decide +kernel
theorem d_M_hit_22 : decode prog_5_method_23_code 22 = .ok (.getfield 57, 3) := by decide +kernel
theorem d_M_hit_25 : decode prog_5_method_23_code 25 = .ok (.iload_n 1, 1) := by decide +kernel
theorem d_M_hit_26 : decode prog_5_method_23_code 26 = .ok (.iaload, 1) := by decide +kernel
theorem d_M_hit_27 : decode prog_5_method_23_code 27 = .ok (.ireturn, 1) := by decide +kernel
theorem d_M_due_0 : decode prog_5_method_24_code 0 = .ok (.aload_n 0, 1) := by decide +kernel
theorem d_M_due_1 : decode prog_5_method_24_code 1 = .ok (.iconst 0, 1) := by decide +kernel
theorem d_M_due_2 : decode prog_5_method_24_code 2 = .ok (.putfield 60, 3) := by decide +kernel
theorem d_M_due_5 : decode prog_5_method_24_code 5 = .ok (.aload_n 0, 1) := by decide +kernel
theorem d_M_due_6 : decode prog_5_method_24_code 6 = .ok (.invokevirtual 128, 3) := by decide +kernel
theorem d_M_due_9 : decode prog_5_method_24_code 9 = .ok (.iload_n 1, 1) := by decide +kernel
theorem d_M_due_10 : decode prog_5_method_24_code 10 = .ok (.invokestatic 131, 3) := by decide +kernel
theorem d_M_due_13 : decode prog_5_method_24_code 13 = .ok (.ifCond .eq 21, 3) := by decide +kernel
theorem d_M_due_16 : decode prog_5_method_24_code 16 = .ok (.aload_n 0, 1) := by decide +kernel
theorem d_M_due_17 : decode prog_5_method_24_code 17 = .ok (.getfield 30, 3) := by decide +kernel
theorem d_M_due_20 : decode prog_5_method_24_code 20 = .ok (.iload_n 1, 1) := by decide +kernel
theorem d_M_due_21 : decode prog_5_method_24_code 21 = .ok (.iaload, 1) := by decide +kernel
theorem d_M_due_22 : decode prog_5_method_24_code 22 = .ok (.ifCond .eq 12, 3) := by decide +kernel
theorem d_M_due_25 : decode prog_5_method_24_code 25 = .ok (.aload_n 0, 1) := by decide +kernel
theorem d_M_due_26 : decode prog_5_method_24_code 26 = .ok (.getfield 33, 3) := by decide +kernel
theorem d_M_due_29 : decode prog_5_method_24_code 29 = .ok (.iload_n 1, 1) := by decide +kernel
theorem d_M_due_30 : decode prog_5_method_24_code 30 = .ok (.laload, 1) := by decide +kernel
theorem d_M_due_31 : decode prog_5_method_24_code 31 = .ok (.goto 6, 3) := by decide +kernel
theorem d_M_due_34 : decode prog_5_method_24_code 34 = .ok (.ldc2_w 137, 3) := by decide +kernel
theorem d_M_due_37 : decode prog_5_method_24_code 37 = .ok (.lreturn, 1) := by decide +kernel
theorem d_M_queue_0 : decode prog_5_method_25_code 0 = .ok (.aload_n 0, 1) := by decide +kernel
theorem d_M_queue_1 : decode prog_5_method_25_code 1 = .ok (.iconst 0, 1) := by decide +kernel
theorem d_M_queue_2 : decode prog_5_method_25_code 2 = .ok (.putfield 60, 3) := by decide +kernel
theorem d_M_queue_5 : decode prog_5_method_25_code 5 = .ok (.aload_n 0, 1) := by decide +kernel
theorem d_M_queue_6 : decode prog_5_method_25_code 6 = .ok (.invokevirtual 128, 3) := by decide +kernel
theorem d_M_queue_9 : decode prog_5_method_25_code 9 = .ok (.iload_n 1, 1) := by decide +kernel
theorem d_M_queue_10 : decode prog_5_method_25_code 10 = .ok (.invokestatic 131, 3) := by decide +kernel
theorem d_M_queue_13 : decode prog_5_method_25_code 13 = .ok (.ifCond .eq 17, 3) := by decide +kernel
theorem d_M_queue_16 : decode prog_5_method_25_code 16 = .ok (.iload_n 2, 1) := by decide +kernel
theorem d_M_queue_17 : decode prog_5_method_25_code 17 = .ok (.ifCond .lt 13, 3) := by decide +kernel
theorem d_M_queue_20 : decode prog_5_method_25_code 20 = .ok (.iload_n 2, 1) := by decide +kernel
theorem d_M_queue_21 : decode prog_5_method_25_code 21 = .ok (.aload_n 0, 1) := by decide +kernel
theorem d_M_queue_22 : decode prog_5_method_25_code 22 = .ok (.getfield 39, 3) := by decide +kernel
theorem d_M_queue_25 : decode prog_5_method_25_code 25 = .ok (.iload_n 1, 1) := by decide +kernel
theorem d_M_queue_26 : decode prog_5_method_25_code 26 = .ok (.iaload, 1) := by decide +kernel
theorem d_M_queue_27 : decode prog_5_method_25_code 27 = .ok (.if_icmp .lt 7, 3) := by decide +kernel
theorem d_M_queue_30 : decode prog_5_method_25_code 30 = .ok (.iconst (-1), 1) := by decide +kernel
theorem d_M_queue_31 : decode prog_5_method_25_code 31 = .ok (.goto 14, 3) := by decide +kernel
theorem d_M_queue_34 : decode prog_5_method_25_code 34 = .ok (.aload_n 0, 1) := by decide +kernel
theorem d_M_queue_35 : decode prog_5_method_25_code 35 = .ok (.getfield 36, 3) := by decide +kernel
theorem d_M_queue_38 : decode prog_5_method_25_code 38 = .ok (.bipush 20, 2) := by decide +kernel
theorem d_M_queue_40 : decode prog_5_method_25_code 40 = .ok (.iload_n 1, 1) := by decide +kernel
theorem d_M_queue_41 : decode prog_5_method_25_code 41 = .ok (.imul, 1) := by decide +kernel
theorem d_M_queue_42 : decode prog_5_method_25_code 42 = .ok (.iload_n 2, 1) := by decide +kernel
theorem d_M_queue_43 : decode prog_5_method_25_code 43 = .ok (.iadd, 1) := by decide +kernel
theorem d_M_queue_44 : decode prog_5_method_25_code 44 = .ok (.iaload, 1) := by decide +kernel
theorem d_M_queue_45 : decode prog_5_method_25_code 45 = .ok (.ireturn, 1) := by decide +kernel
theorem d_M_poll_0 : decode prog_5_method_26_code 0 = .ok (.aload_n 0, 1) := by decide +kernel
theorem d_M_poll_1 : decode prog_5_method_26_code 1 = .ok (.iconst 0, 1) := by decide +kernel
theorem d_M_poll_2 : decode prog_5_method_26_code 2 = .ok (.putfield 60, 3) := by decide +kernel
theorem d_M_poll_5 : decode prog_5_method_26_code 5 = .ok (.iload_n 1, 1) := by decide +kernel
theorem d_M_poll_6 : decode prog_5_method_26_code 6 = .ok (.invokestatic 131, 3) := by decide +kernel
theorem d_M_poll_9 : decode prog_5_method_26_code 9 = .ok (.ifCond .ne 5, 3) := by decide +kernel
theorem d_M_poll_12 : decode prog_5_method_26_code 12 = .ok (.iconst (-1), 1) := by decide +kernel
theorem d_M_poll_13 : decode prog_5_method_26_code 13 = .ok (.ireturn, 1) := by decide +kernel
theorem d_M_poll_14 : decode prog_5_method_26_code 14 = .ok (.aload_n 0, 1) := by decide +kernel
theorem d_M_poll_15 : decode prog_5_method_26_code 15 = .ok (.invokevirtual 128, 3) := by decide +kernel
theorem d_M_poll_18 : decode prog_5_method_26_code 18 = .ok (.iconst 0, 1) := by decide +kernel
theorem d_M_poll_19 : decode prog_5_method_26_code 19 = .ok (.istore_n 2, 1) := by decide +kernel
theorem d_M_poll_20 : decode prog_5_method_26_code 20 = .ok (.bipush 7, 2) := by decide +kernel
theorem d_M_poll_22 : decode prog_5_method_26_code 22 = .ok (.istore_n 3, 1) := by decide +kernel
theorem d_M_poll_23 : decode prog_5_method_26_code 23 = .ok (.iconst 1, 1) := by decide +kernel
theorem d_M_poll_24 : decode prog_5_method_26_code 24 = .ok (.istore 4, 2) := by decide +kernel
theorem d_M_poll_26 : decode prog_5_method_26_code 26 = .ok (.iload 4, 2) := by decide +kernel
theorem d_M_poll_28 : decode prog_5_method_26_code 28 = .ok (.bipush 6, 2) := by decide +kernel
theorem d_M_poll_30 : decode prog_5_method_26_code 30 = .ok (.if_icmp .ge 33, 3) := by decide +kernel
theorem d_M_poll_33 : decode prog_5_method_26_code 33 = .ok (.iload_n 2, 1) := by decide +kernel
theorem d_M_poll_34 : decode prog_5_method_26_code 34 = .ok (.aload_n 0, 1) := by decide +kernel
theorem d_M_poll_35 : decode prog_5_method_26_code 35 = .ok (.getfield 42, 3) := by decide +kernel
theorem d_M_poll_38 : decode prog_5_method_26_code 38 = .ok (.bipush 6, 2) := by decide +kernel
theorem d_M_poll_40 : decode prog_5_method_26_code 40 = .ok (.iload_n 1, 1) := by decide +kernel
theorem d_M_poll_41 : decode prog_5_method_26_code 41 = .ok (.imul, 1) := by decide +kernel
theorem d_M_poll_42 : decode prog_5_method_26_code 42 = .ok (.iload 4, 2) := by decide +kernel
theorem d_M_poll_44 : decode prog_5_method_26_code 44 = .ok (.iadd, 1) := by decide +kernel
theorem d_M_poll_45 : decode prog_5_method_26_code 45 = .ok (.iaload, 1) := by decide +kernel
theorem d_M_poll_46 : decode prog_5_method_26_code 46 = .ok (.iconst (-1), 1) := by decide +kernel
theorem d_M_poll_47 : decode prog_5_method_26_code 47 = .ok (.if_icmp .ne 7, 3) := by decide +kernel
theorem d_M_poll_50 : decode prog_5_method_26_code 50 = .ok (.iconst 0, 1) := by decide +kernel
theorem d_M_poll_51 : decode prog_5_method_26_code 51 = .ok (.goto 4, 3) := by decide +kernel
theorem d_M_poll_54 : decode prog_5_method_26_code 54 = .ok (.iconst 1, 1) := by decide +kernel
theorem d_M_poll_55 : decode prog_5_method_26_code 55 = .ok (.iadd, 1) := by decide +kernel
theorem d_M_poll_56 : decode prog_5_method_26_code 56 = .ok (.istore_n 2, 1) := by decide +kernel
theorem d_M_poll_57 : decode prog_5_method_26_code 57 = .ok (.iinc 4 1, 3) := by decide +kernel
theorem d_M_poll_60 : decode prog_5_method_26_code 60 = .ok (.goto (-34), 3) := by decide +kernel
theorem d_M_poll_63 : decode prog_5_method_26_code 63 = .ok (.iconst 0, 1) := by decide +kernel
theorem d_M_poll_64 : decode prog_5_method_26_code 64 = .ok (.istore 4, 2) := by decide +kernel
theorem d_M_poll_66 : decode prog_5_method_26_code 66 = .ok (.iload 4, 2) := by decide +kernel
theorem d_M_poll_68 : decode prog_5_method_26_code 68 = .ok (.bipush 7, 2) := by decide +kernel
theorem d_M_poll_70 : decode prog_5_method_26_code 70 = .ok (.if_icmp .ge 70, 3) := by decide +kernel
theorem d_M_poll_73 : decode prog_5_method_26_code 73 = .ok (.iconst 0, 1) := by decide +kernel
theorem d_M_poll_74 : decode prog_5_method_26_code 74 = .ok (.istore 5, 2) := by decide +kernel
theorem d_M_poll_76 : decode prog_5_method_26_code 76 = .ok (.iconst 1, 1) := by decide +kernel
theorem d_M_poll_77 : decode prog_5_method_26_code 77 = .ok (.istore 6, 2) := by decide +kernel
theorem d_M_poll_79 : decode prog_5_method_26_code 79 = .ok (.iload 6, 2) := by decide +kernel
theorem d_M_poll_81 : decode prog_5_method_26_code 81 = .ok (.bipush 6, 2) := by decide +kernel
theorem d_M_poll_83 : decode prog_5_method_26_code 83 = .ok (.if_icmp .ge 36, 3) := by decide +kernel
theorem d_M_poll_86 : decode prog_5_method_26_code 86 = .ok (.iload 5, 2) := by decide +kernel
theorem d_M_poll_88 : decode prog_5_method_26_code 88 = .ok (.aload_n 0, 1) := by decide +kernel
theorem d_M_poll_89 : decode prog_5_method_26_code 89 = .ok (.getfield 42, 3) := by decide +kernel
theorem d_M_poll_92 : decode prog_5_method_26_code 92 = .ok (.bipush 6, 2) := by decide +kernel
theorem d_M_poll_94 : decode prog_5_method_26_code 94 = .ok (.iload_n 1, 1) := by decide +kernel
theorem d_M_poll_95 : decode prog_5_method_26_code 95 = .ok (.imul, 1) := by decide +kernel
theorem d_M_poll_96 : decode prog_5_method_26_code 96 = .ok (.iload 6, 2) := by decide +kernel
theorem d_M_poll_98 : decode prog_5_method_26_code 98 = .ok (.iadd, 1) := by decide +kernel
theorem d_M_poll_99 : decode prog_5_method_26_code 99 = .ok (.iaload, 1) := by decide +kernel
theorem d_M_poll_100 : decode prog_5_method_26_code 100 = .ok (.iload 4, 2) := by decide +kernel
theorem d_M_poll_102 : decode prog_5_method_26_code 102 = .ok (.if_icmp .ne 7, 3) := by decide +kernel
theorem d_M_poll_105 : decode prog_5_method_26_code 105 = .ok (.iconst 1, 1) := by decide +kernel
theorem d_M_poll_106 : decode prog_5_method_26_code 106 = .ok (.goto 4, 3) := by decide +kernel
theorem d_M_poll_109 : decode prog_5_method_26_code 109 = .ok (.iconst 0, 1) := by decide +kernel
theorem d_M_poll_110 : decode prog_5_method_26_code 110 = .ok (.iadd, 1) := by decide +kernel
theorem d_M_poll_111 : decode prog_5_method_26_code 111 = .ok (.istore 5, 2) := by decide +kernel
theorem d_M_poll_113 : decode prog_5_method_26_code 113 = .ok (.iinc 6 1, 3) := by decide +kernel
theorem d_M_poll_116 : decode prog_5_method_26_code 116 = .ok (.goto (-37), 3) := by decide +kernel
theorem d_M_poll_119 : decode prog_5_method_26_code 119 = .ok (.iconst 2, 1) := by decide +kernel
theorem d_M_poll_120 : decode prog_5_method_26_code 120 = .ok (.iload 5, 2) := by decide +kernel
theorem d_M_poll_122 : decode prog_5_method_26_code 122 = .ok (.imul, 1) := by decide +kernel
theorem d_M_poll_123 : decode prog_5_method_26_code 123 = .ok (.iload_n 2, 1) := by decide +kernel
theorem d_M_poll_124 : decode prog_5_method_26_code 124 = .ok (.if_icmp .le 8, 3) := by decide +kernel
theorem d_M_poll_127 : decode prog_5_method_26_code 127 = .ok (.iload 4, 2) := by decide +kernel
theorem d_M_poll_129 : decode prog_5_method_26_code 129 = .ok (.goto 4, 3) := by decide +kernel
theorem d_M_poll_132 : decode prog_5_method_26_code 132 = .ok (.iload_n 3, 1) := by decide +kernel
theorem d_M_poll_133 : decode prog_5_method_26_code 133 = .ok (.istore_n 3, 1) := by decide +kernel
theorem d_M_poll_134 : decode prog_5_method_26_code 134 = .ok (.iinc 4 1, 3) := by decide +kernel
theorem d_M_poll_137 : decode prog_5_method_26_code 137 = .ok (.goto (-71), 3) := by decide +kernel
theorem d_M_poll_140 : decode prog_5_method_26_code 140 = .ok (.iload_n 2, 1) := by decide +kernel
theorem d_M_poll_141 : decode prog_5_method_26_code 141 = .ok (.ifCond .ne 7, 3) := by decide +kernel
theorem d_M_poll_144 : decode prog_5_method_26_code 144 = .ok (.iconst (-1), 1) := by decide +kernel
theorem d_M_poll_145 : decode prog_5_method_26_code 145 = .ok (.goto 4, 3) := by decide +kernel
theorem d_M_poll_148 : decode prog_5_method_26_code 148 = .ok (.iload_n 3, 1) := by decide +kernel
theorem d_M_poll_149 : decode prog_5_method_26_code 149 = .ok (.ireturn, 1) := by decide +kernel
theorem d_M_kept_0 : decode prog_5_method_27_code 0 = .ok (.aload_n 0, 1) := by decide +kernel
theorem d_M_kept_1 : decode prog_5_method_27_code 1 = .ok (.iconst 0, 1) := by decide +kernel
theorem d_M_kept_2 : decode prog_5_method_27_code 2 = .ok (.putfield 60, 3) := by decide +kernel
theorem d_M_kept_5 : decode prog_5_method_27_code 5 = .ok (.aload_n 0, 1) := by decide +kernel
theorem d_M_kept_6 : decode prog_5_method_27_code 6 = .ok (.invokevirtual 128, 3) := by decide +kernel
theorem d_M_kept_9 : decode prog_5_method_27_code 9 = .ok (.iconst 0, 1) := by decide +kernel
theorem d_M_kept_10 : decode prog_5_method_27_code 10 = .ok (.istore 6, 2) := by decide +kernel
theorem d_M_kept_12 : decode prog_5_method_27_code 12 = .ok (.iconst 0, 1) := by decide +kernel
theorem d_M_kept_13 : decode prog_5_method_27_code 13 = .ok (.istore 7, 2) := by decide +kernel
theorem d_M_kept_15 : decode prog_5_method_27_code 15 = .ok (.iload 7, 2) := by decide +kernel
theorem d_M_kept_17 : decode prog_5_method_27_code 17 = .ok (.aload_n 0, 1) := by decide +kernel
theorem d_M_kept_18 : decode prog_5_method_27_code 18 = .ok (.getfield 84, 3) := by decide +kernel
theorem d_M_kept_21 : decode prog_5_method_27_code 21 = .ok (.if_icmp .ge 75, 3) := by decide +kernel
theorem d_M_kept_24 : decode prog_5_method_27_code 24 = .ok (.iload_n 1, 1) := by decide +kernel
theorem d_M_kept_25 : decode prog_5_method_27_code 25 = .ok (.invokestatic 131, 3) := by decide +kernel
theorem d_M_kept_28 : decode prog_5_method_27_code 28 = .ok (.ifCond .eq 68, 3) := by decide +kernel
theorem d_M_kept_31 : decode prog_5_method_27_code 31 = .ok (.iload_n 2, 1) := by decide +kernel
theorem d_M_kept_32 : decode prog_5_method_27_code 32 = .ok (.ifCond .lt 64, 3) := by decide +kernel
theorem d_M_kept_35 : decode prog_5_method_27_code 35 = .ok (.aload_n 0, 1) := by decide +kernel
theorem d_M_kept_36 : decode prog_5_method_27_code 36 = .ok (.getfield 7, 3) := by decide +kernel
theorem d_M_kept_39 : decode prog_5_method_27_code 39 = .ok (.iload 7, 2) := by decide +kernel
theorem d_M_kept_41 : decode prog_5_method_27_code 41 = .ok (.iaload, 1) := by decide +kernel
theorem d_M_kept_42 : decode prog_5_method_27_code 42 = .ok (.iconst 4, 1) := by decide +kernel
theorem d_M_kept_43 : decode prog_5_method_27_code 43 = .ok (.if_icmp .ne 47, 3) := by decide +kernel
theorem d_M_kept_46 : decode prog_5_method_27_code 46 = .ok (.aload_n 0, 1) := by decide +kernel
theorem d_M_kept_47 : decode prog_5_method_27_code 47 = .ok (.getfield 54, 3) := by decide +kernel
theorem d_M_kept_50 : decode prog_5_method_27_code 50 = .ok (.iload 7, 2) := by decide +kernel
theorem d_M_kept_52 : decode prog_5_method_27_code 52 = .ok (.iaload, 1) := by decide +kernel
theorem d_M_kept_53 : decode prog_5_method_27_code 53 = .ok (.iload_n 1, 1) := by decide +kernel
theorem d_M_kept_54 : decode prog_5_method_27_code 54 = .ok (.if_icmp .ne 36, 3) := by decide +kernel
theorem d_M_kept_57 : decode prog_5_method_27_code 57 = .ok (.aload_n 0, 1) := by decide +kernel
theorem d_M_kept_58 : decode prog_5_method_27_code 58 = .ok (.getfield 20, 3) := by decide +kernel
theorem d_M_kept_61 : decode prog_5_method_27_code 61 = .ok (.iload 7, 2) := by decide +kernel
theorem d_M_kept_63 : decode prog_5_method_27_code 63 = .ok (.laload, 1) := by decide +kernel
theorem d_M_kept_64 : decode prog_5_method_27_code 64 = .ok (.iload 5, 2) := by decide +kernel
theorem d_M_kept_66 : decode prog_5_method_27_code 66 = .ok (.i2l, 1) := by decide +kernel
theorem d_M_kept_67 : decode prog_5_method_27_code 67 = .ok (.ladd, 1) := by decide +kernel
theorem d_M_kept_68 : decode prog_5_method_27_code 68 = .ok (.lload_n 3, 1) := by decide +kernel
theorem d_M_kept_69 : decode prog_5_method_27_code 69 = .ok (.lcmp, 1) := by decide +kernel
theorem d_M_kept_70 : decode prog_5_method_27_code 70 = .ok (.ifCond .lt 20, 3) := by decide +kernel
theorem d_M_kept_73 : decode prog_5_method_27_code 73 = .ok (.iload 6, 2) := by decide +kernel
theorem d_M_kept_75 : decode prog_5_method_27_code 75 = .ok (.iload_n 2, 1) := by decide +kernel
theorem d_M_kept_76 : decode prog_5_method_27_code 76 = .ok (.if_icmp .ne 11, 3) := by decide +kernel
theorem d_M_kept_79 : decode prog_5_method_27_code 79 = .ok (.aload_n 0, 1) := by decide +kernel
theorem d_M_kept_80 : decode prog_5_method_27_code 80 = .ok (.getfield 13, 3) := by decide +kernel
theorem d_M_kept_83 : decode prog_5_method_27_code 83 = .ok (.iload 7, 2) := by decide +kernel
theorem d_M_kept_85 : decode prog_5_method_27_code 85 = .ok (.iaload, 1) := by decide +kernel
theorem d_M_kept_86 : decode prog_5_method_27_code 86 = .ok (.ireturn, 1) := by decide +kernel
theorem d_M_kept_87 : decode prog_5_method_27_code 87 = .ok (.iinc 6 1, 3) := by decide +kernel
theorem d_M_kept_90 : decode prog_5_method_27_code 90 = .ok (.iinc 7 1, 3) := by decide +kernel
theorem d_M_kept_93 : decode prog_5_method_27_code 93 = .ok (.goto (-78), 3) := by decide +kernel
theorem d_M_kept_96 : decode prog_5_method_27_code 96 = .ok (.iconst (-1), 1) := by decide +kernel
theorem d_M_kept_97 : decode prog_5_method_27_code 97 = .ok (.ireturn, 1) := by decide +kernel
theorem d_M_most_0 : decode prog_5_method_28_code 0 = .ok (.aload_n 0, 1) := by decide +kernel
theorem d_M_most_1 : decode prog_5_method_28_code 1 = .ok (.iconst 0, 1) := by decide +kernel
theorem d_M_most_2 : decode prog_5_method_28_code 2 = .ok (.putfield 60, 3) := by decide +kernel
theorem d_M_most_5 : decode prog_5_method_28_code 5 = .ok (.iload_n 1, 1) := by decide +kernel
theorem d_M_most_6 : decode prog_5_method_28_code 6 = .ok (.invokestatic 131, 3) := by decide +kernel
theorem d_M_most_9 : decode prog_5_method_28_code 9 = .ok (.ifCond .ne 5, 3) := by decide +kernel
theorem d_M_most_12 : decode prog_5_method_28_code 12 = .ok (.iconst (-1), 1) := by decide +kernel
theorem d_M_most_13 : decode prog_5_method_28_code 13 = .ok (.ireturn, 1) := by decide +kernel
theorem d_M_most_14 : decode prog_5_method_28_code 14 = .ok (.aload_n 0, 1) := by decide +kernel
theorem d_M_most_15 : decode prog_5_method_28_code 15 = .ok (.getfield 84, 3) := by decide +kernel
theorem d_M_most_18 : decode prog_5_method_28_code 18 = .ok (.bipush 100, 2) := by decide +kernel
theorem d_M_most_20 : decode prog_5_method_28_code 20 = .ok (.if_icmp .le 6, 3) := by decide +kernel
theorem d_M_most_23 : decode prog_5_method_28_code 23 = .ok (.bipush (-9), 2) := by decide +kernel
theorem d_M_most_25 : decode prog_5_method_28_code 25 = .ok (.ireturn, 1) := by decide +kernel
theorem d_M_most_26 : decode prog_5_method_28_code 26 = .ok (.aload_n 0, 1) := by decide +kernel
theorem d_M_most_27 : decode prog_5_method_28_code 27 = .ok (.ldc2_w 82, 3) := by decide +kernel
theorem d_M_most_30 : decode prog_5_method_28_code 30 = .ok (.iconst (-1), 1) := by decide +kernel
theorem d_M_most_31 : decode prog_5_method_28_code 31 = .ok (.iconst (-1), 1) := by decide +kernel
theorem d_M_most_32 : decode prog_5_method_28_code 32 = .ok (.iload_n 1, 1) := by decide +kernel
theorem d_M_most_33 : decode prog_5_method_28_code 33 = .ok (.invokevirtual 124, 3) := by decide +kernel
theorem d_M_most_36 : decode prog_5_method_28_code 36 = .ok (.aload_n 0, 1) := by decide +kernel
theorem d_M_most_37 : decode prog_5_method_28_code 37 = .ok (.getfield 90, 3) := by decide +kernel
theorem d_M_most_40 : decode prog_5_method_28_code 40 = .ok (.ireturn, 1) := by decide +kernel
theorem d_M_least_0 : decode prog_5_method_29_code 0 = .ok (.aload_n 0, 1) := by decide +kernel
theorem d_M_least_1 : decode prog_5_method_29_code 1 = .ok (.iconst 0, 1) := by decide +kernel
theorem d_M_least_2 : decode prog_5_method_29_code 2 = .ok (.putfield 60, 3) := by decide +kernel
theorem d_M_least_5 : decode prog_5_method_29_code 5 = .ok (.aload_n 0, 1) := by decide +kernel
theorem d_M_least_6 : decode prog_5_method_29_code 6 = .ok (.getfield 84, 3) := by decide +kernel
theorem d_M_least_9 : decode prog_5_method_29_code 9 = .ok (.bipush 30, 2) := by decide +kernel
theorem d_M_least_11 : decode prog_5_method_29_code 11 = .ok (.if_icmp .le 6, 3) := by decide +kernel
theorem d_M_least_14 : decode prog_5_method_29_code 14 = .ok (.bipush (-9), 2) := by decide +kernel
theorem d_M_least_16 : decode prog_5_method_29_code 16 = .ok (.ireturn, 1) := by decide +kernel
theorem d_M_least_17 : decode prog_5_method_29_code 17 = .ok (.iconst 3, 1) := by decide +kernel
theorem d_M_least_18 : decode prog_5_method_29_code 18 = .ok (.istore_n 1, 1) := by decide +kernel
theorem d_M_least_19 : decode prog_5_method_29_code 19 = .ok (.iconst (-1), 1) := by decide +kernel
theorem d_M_least_20 : decode prog_5_method_29_code 20 = .ok (.istore_n 2, 1) := by decide +kernel
theorem d_M_least_21 : decode prog_5_method_29_code 21 = .ok (.iload_n 2, 1) := by decide +kernel
theorem d_M_least_22 : decode prog_5_method_29_code 22 = .ok (.aload_n 0, 1) := by decide +kernel
theorem d_M_least_23 : decode prog_5_method_29_code 23 = .ok (.getfield 84, 3) := by decide +kernel
theorem d_M_least_26 : decode prog_5_method_29_code 26 = .ok (.if_icmp .ge 80, 3) := by decide +kernel
theorem d_M_least_29 : decode prog_5_method_29_code 29 = .ok (.iconst (-1), 1) := by decide +kernel
theorem d_M_least_30 : decode prog_5_method_29_code 30 = .ok (.istore_n 3, 1) := by decide +kernel
theorem d_M_least_31 : decode prog_5_method_29_code 31 = .ok (.iload_n 3, 1) := by decide +kernel
theorem d_M_least_32 : decode prog_5_method_29_code 32 = .ok (.iload_n 2, 1) := by decide +kernel
theorem d_M_least_33 : decode prog_5_method_29_code 33 = .ok (.if_icmp .gt 67, 3) := by decide +kernel
theorem d_M_least_36 : decode prog_5_method_29_code 36 = .ok (.iload_n 2, 1) := by decide +kernel
theorem d_M_least_37 : decode prog_5_method_29_code 37 = .ok (.iconst (-1), 1) := by decide +kernel
theorem d_M_least_38 : decode prog_5_method_29_code 38 = .ok (.if_icmp .ne 7, 3) := by decide +kernel
theorem d_M_least_41 : decode prog_5_method_29_code 41 = .ok (.iconst 0, 1) := by decide +kernel
theorem d_M_least_42 : decode prog_5_method_29_code 42 = .ok (.goto 4, 3) := by decide +kernel
theorem d_M_least_45 : decode prog_5_method_29_code 45 = .ok (.iconst 1, 1) := by decide +kernel
theorem d_M_least_46 : decode prog_5_method_29_code 46 = .ok (.iload_n 3, 1) := by decide +kernel
theorem d_M_least_47 : decode prog_5_method_29_code 47 = .ok (.iconst (-1), 1) := by decide +kernel
theorem d_M_least_48 : decode prog_5_method_29_code 48 = .ok (.if_icmp .eq 8, 3) := by decide +kernel
theorem d_M_least_51 : decode prog_5_method_29_code 51 = .ok (.iload_n 3, 1) := by decide +kernel
theorem d_M_least_52 : decode prog_5_method_29_code 52 = .ok (.iload_n 2, 1) := by decide +kernel
theorem d_M_least_53 : decode prog_5_method_29_code 53 = .ok (.if_icmp .ne 7, 3) := by decide +kernel
theorem d_M_least_56 : decode prog_5_method_29_code 56 = .ok (.iconst 0, 1) := by decide +kernel
theorem d_M_least_57 : decode prog_5_method_29_code 57 = .ok (.goto 4, 3) := by decide +kernel
theorem d_M_least_60 : decode prog_5_method_29_code 60 = .ok (.iconst 1, 1) := by decide +kernel
theorem d_M_least_61 : decode prog_5_method_29_code 61 = .ok (.iadd, 1) := by decide +kernel
theorem d_M_least_62 : decode prog_5_method_29_code 62 = .ok (.istore 4, 2) := by decide +kernel
theorem d_M_least_64 : decode prog_5_method_29_code 64 = .ok (.iload 4, 2) := by decide +kernel
theorem d_M_least_66 : decode prog_5_method_29_code 66 = .ok (.iload_n 1, 1) := by decide +kernel
theorem d_M_least_67 : decode prog_5_method_29_code 67 = .ok (.if_icmp .ge 27, 3) := by decide +kernel
theorem d_M_least_70 : decode prog_5_method_29_code 70 = .ok (.aload_n 0, 1) := by decide +kernel
theorem d_M_least_71 : decode prog_5_method_29_code 71 = .ok (.ldc2_w 82, 3) := by decide +kernel
theorem d_M_least_74 : decode prog_5_method_29_code 74 = .ok (.iload_n 2, 1) := by decide +kernel
theorem d_M_least_75 : decode prog_5_method_29_code 75 = .ok (.iload_n 3, 1) := by decide +kernel
theorem d_M_least_76 : decode prog_5_method_29_code 76 = .ok (.iconst (-1), 1) := by decide +kernel
theorem d_M_least_77 : decode prog_5_method_29_code 77 = .ok (.invokevirtual 124, 3) := by decide +kernel
theorem d_M_least_80 : decode prog_5_method_29_code 80 = .ok (.aload_n 0, 1) := by decide +kernel
theorem d_M_least_81 : decode prog_5_method_29_code 81 = .ok (.getfield 87, 3) := by decide +kernel
theorem d_M_least_84 : decode prog_5_method_29_code 84 = .ok (.ifCond .ne 8, 3) := by decide +kernel
theorem d_M_least_87 : decode prog_5_method_29_code 87 = .ok (.iload 4, 2) := by decide +kernel
theorem d_M_least_89 : decode prog_5_method_29_code 89 = .ok (.goto 4, 3) := by decide +kernel
theorem d_M_least_92 : decode prog_5_method_29_code 92 = .ok (.iload_n 1, 1) := by decide +kernel
theorem d_M_least_93 : decode prog_5_method_29_code 93 = .ok (.istore_n 1, 1) := by decide +kernel
theorem d_M_least_94 : decode prog_5_method_29_code 94 = .ok (.iinc 3 1, 3) := by decide +kernel
theorem d_M_least_97 : decode prog_5_method_29_code 97 = .ok (.goto (-66), 3) := by decide +kernel
theorem d_M_least_100 : decode prog_5_method_29_code 100 = .ok (.iinc 2 1, 3) := by decide +kernel
theorem d_M_least_103 : decode prog_5_method_29_code 103 = .ok (.goto (-82), 3) := by decide +kernel
theorem d_M_least_106 : decode prog_5_method_29_code 106 = .ok (.iload_n 1, 1) := by decide +kernel
theorem d_M_least_107 : decode prog_5_method_29_code 107 = .ok (.ireturn, 1) := by decide +kernel
end
section
theorem d_W_law_0 : decode code 0 = .ok (.new 7, 3) := by decide +kernel
theorem d_W_law_3 : decode code 3 = .ok (.dup, 1) := by decide +kernel
theorem d_W_law_4 : decode code 4 = .ok (.invokespecial 9, 3) := by decide +kernel
theorem d_W_law_7 : decode code 7 = .ok (.astore_n 1, 1) := by decide +kernel
theorem d_W_law_8 : decode code 8 = .ok (.new 10, 3) := by decide +kernel
theorem d_W_law_11 : decode code 11 = .ok (.dup, 1) := by decide +kernel
theorem d_W_law_12 : decode code 12 = .ok (.invokespecial 12, 3) := by decide +kernel
theorem d_W_law_15 : decode code 15 = .ok (.astore_n 2, 1) := by decide +kernel
theorem d_W_law_16 : decode code 16 = .ok (.iconst 0, 1) := by decide +kernel
theorem d_W_law_17 : decode code 17 = .ok (.istore_n 3, 1) := by decide +kernel
theorem d_W_law_18 : decode code 18 = .ok (.iload_n 3, 1) := by decide +kernel
theorem d_W_law_19 : decode code 19 = .ok (.aload_n 0, 1) := by decide +kernel
theorem d_W_law_20 : decode code 20 = .ok (.arraylength, 1) := by decide +kernel
theorem d_W_law_21 : decode code 21 = .ok (.bipush 8, 2) := by decide +kernel
theorem d_W_law_23 : decode code 23 = .ok (.isub, 1) := by decide +kernel
theorem d_W_law_24 : decode code 24 = .ok (.if_icmp .gt 643, 3) := by decide +kernel
theorem d_W_law_27 : decode code 27 = .ok (.aload_n 0, 1) := by decide +kernel
theorem d_W_law_28 : decode code 28 = .ok (.iload_n 3, 1) := by decide +kernel
theorem d_W_law_29 : decode code 29 = .ok (.iaload, 1) := by decide +kernel
theorem d_W_law_30 : decode code 30 = .ok (.bipush 15, 2) := by decide +kernel
theorem d_W_law_32 : decode code 32 = .ok (.iand, 1) := by decide +kernel
theorem d_W_law_33 : decode code 33 = .ok (.tableswitch 628 0 13 #[71, 218, 241, 254, 267, 340, 373, 406, 429, 453, 486, 509, 592, 615], 71) := by decide +kernel
theorem d_W_law_104 : decode code 104 = .ok (.aload_n 1, 1) := by decide +kernel
theorem d_W_law_105 : decode code 105 = .ok (.aload_n 0, 1) := by decide +kernel
theorem d_W_law_106 : decode code 106 = .ok (.iload_n 3, 1) := by decide +kernel
theorem d_W_law_107 : decode code 107 = .ok (.iconst 1, 1) := by decide +kernel
theorem d_W_law_108 : decode code 108 = .ok (.iadd, 1) := by decide +kernel
theorem d_W_law_109 : decode code 109 = .ok (.iaload, 1) := by decide +kernel
theorem d_W_law_110 : decode code 110 = .ok (.aload_n 0, 1) := by decide +kernel
theorem d_W_law_111 : decode code 111 = .ok (.iload_n 3, 1) := by decide +kernel
theorem d_W_law_112 : decode code 112 = .ok (.iconst 2, 1) := by decide +kernel
theorem d_W_law_113 : decode code 113 = .ok (.iadd, 1) := by decide +kernel
theorem d_W_law_114 : decode code 114 = .ok (.iaload, 1) := by decide +kernel
theorem d_W_law_115 : decode code 115 = .ok (.i2l, 1) := by decide +kernel
theorem d_W_law_116 : decode code 116 = .ok (.bipush 32, 2) := by decide +kernel
theorem d_W_law_118 : decode code 118 = .ok (.lshl, 1) := by decide +kernel
theorem d_W_law_119 : decode code 119 = .ok (.aload_n 0, 1) := by decide +kernel
theorem d_W_law_120 : decode code 120 = .ok (.iload_n 3, 1) := by decide +kernel
theorem d_W_law_121 : decode code 121 = .ok (.iconst 3, 1) := by decide +kernel
theorem d_W_law_122 : decode code 122 = .ok (.iadd, 1) := by decide +kernel
theorem d_W_law_123 : decode code 123 = .ok (.iaload, 1) := by decide +kernel
theorem d_W_law_124 : decode code 124 = .ok (.i2l, 1) := by decide +kernel
theorem d_W_law_125 : decode code 125 = .ok (.ldc2_w 13, 3) := by decide +kernel
theorem d_W_law_128 : decode code 128 = .ok (.land, 1) := by decide +kernel
theorem d_W_law_129 : decode code 129 = .ok (.lor, 1) := by decide +kernel
theorem d_W_law_130 : decode code 130 = .ok (.aload_n 0, 1) := by decide +kernel
theorem d_W_law_131 : decode code 131 = .ok (.iload_n 3, 1) := by decide +kernel
theorem d_W_law_132 : decode code 132 = .ok (.iconst 4, 1) := by decide +kernel
theorem d_W_law_133 : decode code 133 = .ok (.iadd, 1) := by decide +kernel
theorem d_W_law_134 : decode code 134 = .ok (.iaload, 1) := by decide +kernel
theorem d_W_law_135 : decode code 135 = .ok (.i2l, 1) := by decide +kernel
theorem d_W_law_136 : decode code 136 = .ok (.bipush 32, 2) := by decide +kernel
theorem d_W_law_138 : decode code 138 = .ok (.lshl, 1) := by decide +kernel
theorem d_W_law_139 : decode code 139 = .ok (.aload_n 0, 1) := by decide +kernel
theorem d_W_law_140 : decode code 140 = .ok (.iload_n 3, 1) := by decide +kernel
theorem d_W_law_141 : decode code 141 = .ok (.iconst 5, 1) := by decide +kernel
theorem d_W_law_142 : decode code 142 = .ok (.iadd, 1) := by decide +kernel
theorem d_W_law_143 : decode code 143 = .ok (.iaload, 1) := by decide +kernel
theorem d_W_law_144 : decode code 144 = .ok (.i2l, 1) := by decide +kernel
theorem d_W_law_145 : decode code 145 = .ok (.ldc2_w 13, 3) := by decide +kernel
theorem d_W_law_148 : decode code 148 = .ok (.land, 1) := by decide +kernel
theorem d_W_law_149 : decode code 149 = .ok (.lor, 1) := by decide +kernel
theorem d_W_law_150 : decode code 150 = .ok (.aload_n 0, 1) := by decide +kernel
theorem d_W_law_151 : decode code 151 = .ok (.iload_n 3, 1) := by decide +kernel
theorem d_W_law_152 : decode code 152 = .ok (.bipush 6, 2) := by decide +kernel
theorem d_W_law_154 : decode code 154 = .ok (.iadd, 1) := by decide +kernel
theorem d_W_law_155 : decode code 155 = .ok (.iaload, 1) := by decide +kernel
theorem d_W_law_156 : decode code 156 = .ok (.i2l, 1) := by decide +kernel
theorem d_W_law_157 : decode code 157 = .ok (.bipush 32, 2) := by decide +kernel
theorem d_W_law_159 : decode code 159 = .ok (.lshl, 1) := by decide +kernel
theorem d_W_law_160 : decode code 160 = .ok (.aload_n 0, 1) := by decide +kernel
theorem d_W_law_161 : decode code 161 = .ok (.iload_n 3, 1) := by decide +kernel
theorem d_W_law_162 : decode code 162 = .ok (.bipush 7, 2) := by decide +kernel
theorem d_W_law_164 : decode code 164 = .ok (.iadd, 1) := by decide +kernel
theorem d_W_law_165 : decode code 165 = .ok (.iaload, 1) := by decide +kernel
theorem d_W_law_166 : decode code 166 = .ok (.i2l, 1) := by decide +kernel
theorem d_W_law_167 : decode code 167 = .ok (.ldc2_w 13, 3) := by decide +kernel
theorem d_W_law_170 : decode code 170 = .ok (.land, 1) := by decide +kernel
theorem d_W_law_171 : decode code 171 = .ok (.lor, 1) := by decide +kernel
theorem d_W_law_172 : decode code 172 = .ok (.invokevirtual 15, 3) := by decide +kernel
theorem d_W_law_175 : decode code 175 = .ok (.aload_n 2, 1) := by decide +kernel
theorem d_W_law_176 : decode code 176 = .ok (.aload_n 0, 1) := by decide +kernel
theorem d_W_law_177 : decode code 177 = .ok (.iload_n 3, 1) := by decide +kernel
theorem d_W_law_178 : decode code 178 = .ok (.iconst 1, 1) := by decide +kernel
theorem d_W_law_179 : decode code 179 = .ok (.iadd, 1) := by decide +kernel
theorem d_W_law_180 : decode code 180 = .ok (.iaload, 1) := by decide +kernel
theorem d_W_law_181 : decode code 181 = .ok (.aload_n 0, 1) := by decide +kernel
theorem d_W_law_182 : decode code 182 = .ok (.iload_n 3, 1) := by decide +kernel
theorem d_W_law_183 : decode code 183 = .ok (.iconst 2, 1) := by decide +kernel
theorem d_W_law_184 : decode code 184 = .ok (.iadd, 1) := by decide +kernel
theorem d_W_law_185 : decode code 185 = .ok (.iaload, 1) := by decide +kernel
theorem d_W_law_186 : decode code 186 = .ok (.i2l, 1) := by decide +kernel
theorem d_W_law_187 : decode code 187 = .ok (.bipush 32, 2) := by decide +kernel
theorem d_W_law_189 : decode code 189 = .ok (.lshl, 1) := by decide +kernel
theorem d_W_law_190 : decode code 190 = .ok (.aload_n 0, 1) := by decide +kernel
theorem d_W_law_191 : decode code 191 = .ok (.iload_n 3, 1) := by decide +kernel
theorem d_W_law_192 : decode code 192 = .ok (.iconst 3, 1) := by decide +kernel
theorem d_W_law_193 : decode code 193 = .ok (.iadd, 1) := by decide +kernel
theorem d_W_law_194 : decode code 194 = .ok (.iaload, 1) := by decide +kernel
theorem d_W_law_195 : decode code 195 = .ok (.i2l, 1) := by decide +kernel
theorem d_W_law_196 : decode code 196 = .ok (.ldc2_w 13, 3) := by decide +kernel
theorem d_W_law_199 : decode code 199 = .ok (.land, 1) := by decide +kernel
theorem d_W_law_200 : decode code 200 = .ok (.lor, 1) := by decide +kernel
theorem d_W_law_201 : decode code 201 = .ok (.aload_n 0, 1) := by decide +kernel
theorem d_W_law_202 : decode code 202 = .ok (.iload_n 3, 1) := by decide +kernel
theorem d_W_law_203 : decode code 203 = .ok (.iconst 4, 1) := by decide +kernel
theorem d_W_law_204 : decode code 204 = .ok (.iadd, 1) := by decide +kernel
theorem d_W_law_205 : decode code 205 = .ok (.iaload, 1) := by decide +kernel
theorem d_W_law_206 : decode code 206 = .ok (.i2l, 1) := by decide +kernel
theorem d_W_law_207 : decode code 207 = .ok (.bipush 32, 2) := by decide +kernel
theorem d_W_law_209 : decode code 209 = .ok (.lshl, 1) := by decide +kernel
theorem d_W_law_210 : decode code 210 = .ok (.aload_n 0, 1) := by decide +kernel
theorem d_W_law_211 : decode code 211 = .ok (.iload_n 3, 1) := by decide +kernel
theorem d_W_law_212 : decode code 212 = .ok (.iconst 5, 1) := by decide +kernel
theorem d_W_law_213 : decode code 213 = .ok (.iadd, 1) := by decide +kernel
theorem d_W_law_214 : decode code 214 = .ok (.iaload, 1) := by decide +kernel
theorem d_W_law_215 : decode code 215 = .ok (.i2l, 1) := by decide +kernel
theorem d_W_law_216 : decode code 216 = .ok (.ldc2_w 13, 3) := by decide +kernel
theorem d_W_law_219 : decode code 219 = .ok (.land, 1) := by decide +kernel
theorem d_W_law_220 : decode code 220 = .ok (.lor, 1) := by decide +kernel
theorem d_W_law_221 : decode code 221 = .ok (.aload_n 0, 1) := by decide +kernel
theorem d_W_law_222 : decode code 222 = .ok (.iload_n 3, 1) := by decide +kernel
theorem d_W_law_223 : decode code 223 = .ok (.bipush 6, 2) := by decide +kernel
theorem d_W_law_225 : decode code 225 = .ok (.iadd, 1) := by decide +kernel
theorem d_W_law_226 : decode code 226 = .ok (.iaload, 1) := by decide +kernel
theorem d_W_law_227 : decode code 227 = .ok (.i2l, 1) := by decide +kernel
theorem d_W_law_228 : decode code 228 = .ok (.bipush 32, 2) := by decide +kernel
theorem d_W_law_230 : decode code 230 = .ok (.lshl, 1) := by decide +kernel
theorem d_W_law_231 : decode code 231 = .ok (.aload_n 0, 1) := by decide +kernel
theorem d_W_law_232 : decode code 232 = .ok (.iload_n 3, 1) := by decide +kernel
theorem d_W_law_233 : decode code 233 = .ok (.bipush 7, 2) := by decide +kernel
theorem d_W_law_235 : decode code 235 = .ok (.iadd, 1) := by decide +kernel
theorem d_W_law_236 : decode code 236 = .ok (.iaload, 1) := by decide +kernel
theorem d_W_law_237 : decode code 237 = .ok (.i2l, 1) := by decide +kernel
theorem d_W_law_238 : decode code 238 = .ok (.ldc2_w 13, 3) := by decide +kernel
theorem d_W_law_241 : decode code 241 = .ok (.land, 1) := by decide +kernel
theorem d_W_law_242 : decode code 242 = .ok (.lor, 1) := by decide +kernel
theorem d_W_law_243 : decode code 243 = .ok (.invokevirtual 19, 3) := by decide +kernel
theorem d_W_law_246 : decode code 246 = .ok (.if_icmp .eq 415, 3) := by decide +kernel
theorem d_W_law_249 : decode code 249 = .ok (.iconst 0, 1) := by decide +kernel
theorem d_W_law_250 : decode code 250 = .ok (.ireturn, 1) := by decide +kernel
theorem d_W_law_251 : decode code 251 = .ok (.aload_n 1, 1) := by decide +kernel
theorem d_W_law_252 : decode code 252 = .ok (.aload_n 0, 1) := by decide +kernel
theorem d_W_law_253 : decode code 253 = .ok (.iload_n 3, 1) := by decide +kernel
theorem d_W_law_254 : decode code 254 = .ok (.iconst 1, 1) := by decide +kernel
theorem d_W_law_255 : decode code 255 = .ok (.iadd, 1) := by decide +kernel
theorem d_W_law_256 : decode code 256 = .ok (.iaload, 1) := by decide +kernel
theorem d_W_law_257 : decode code 257 = .ok (.invokevirtual 20, 3) := by decide +kernel
theorem d_W_law_260 : decode code 260 = .ok (.aload_n 2, 1) := by decide +kernel
theorem d_W_law_261 : decode code 261 = .ok (.aload_n 0, 1) := by decide +kernel
theorem d_W_law_262 : decode code 262 = .ok (.iload_n 3, 1) := by decide +kernel
theorem d_W_law_263 : decode code 263 = .ok (.iconst 1, 1) := by decide +kernel
theorem d_W_law_264 : decode code 264 = .ok (.iadd, 1) := by decide +kernel
theorem d_W_law_265 : decode code 265 = .ok (.iaload, 1) := by decide +kernel
theorem d_W_law_266 : decode code 266 = .ok (.invokevirtual 24, 3) := by decide +kernel
theorem d_W_law_269 : decode code 269 = .ok (.if_icmp .eq 392, 3) := by decide +kernel
theorem d_W_law_272 : decode code 272 = .ok (.iconst 0, 1) := by decide +kernel
theorem d_W_law_273 : decode code 273 = .ok (.ireturn, 1) := by decide +kernel
theorem d_W_law_274 : decode code 274 = .ok (.aload_n 1, 1) := by decide +kernel
theorem d_W_law_275 : decode code 275 = .ok (.invokevirtual 25, 3) := by decide +kernel
theorem d_W_law_278 : decode code 278 = .ok (.aload_n 2, 1) := by decide +kernel
theorem d_W_law_279 : decode code 279 = .ok (.invokevirtual 29, 3) := by decide +kernel
theorem d_W_law_282 : decode code 282 = .ok (.if_icmp .eq 379, 3) := by decide +kernel
theorem d_W_law_285 : decode code 285 = .ok (.iconst 0, 1) := by decide +kernel
theorem d_W_law_286 : decode code 286 = .ok (.ireturn, 1) := by decide +kernel
theorem d_W_law_287 : decode code 287 = .ok (.aload_n 1, 1) := by decide +kernel
theorem d_W_law_288 : decode code 288 = .ok (.invokevirtual 30, 3) := by decide +kernel
theorem d_W_law_291 : decode code 291 = .ok (.aload_n 2, 1) := by decide +kernel
theorem d_W_law_292 : decode code 292 = .ok (.invokevirtual 33, 3) := by decide +kernel
theorem d_W_law_295 : decode code 295 = .ok (.if_icmp .eq 366, 3) := by decide +kernel
theorem d_W_law_298 : decode code 298 = .ok (.iconst 0, 1) := by decide +kernel
theorem d_W_law_299 : decode code 299 = .ok (.ireturn, 1) := by decide +kernel
theorem d_W_law_300 : decode code 300 = .ok (.aload_n 1, 1) := by decide +kernel
theorem d_W_law_301 : decode code 301 = .ok (.aload_n 0, 1) := by decide +kernel
theorem d_W_law_302 : decode code 302 = .ok (.iload_n 3, 1) := by decide +kernel
theorem d_W_law_303 : decode code 303 = .ok (.iconst 1, 1) := by decide +kernel
theorem d_W_law_304 : decode code 304 = .ok (.iadd, 1) := by decide +kernel
theorem d_W_law_305 : decode code 305 = .ok (.iaload, 1) := by decide +kernel
theorem d_W_law_306 : decode code 306 = .ok (.aload_n 0, 1) := by decide +kernel
theorem d_W_law_307 : decode code 307 = .ok (.iload_n 3, 1) := by decide +kernel
theorem d_W_law_308 : decode code 308 = .ok (.iconst 2, 1) := by decide +kernel
theorem d_W_law_309 : decode code 309 = .ok (.iadd, 1) := by decide +kernel
theorem d_W_law_310 : decode code 310 = .ok (.iaload, 1) := by decide +kernel
theorem d_W_law_311 : decode code 311 = .ok (.aload_n 0, 1) := by decide +kernel
theorem d_W_law_312 : decode code 312 = .ok (.iload_n 3, 1) := by decide +kernel
theorem d_W_law_313 : decode code 313 = .ok (.iconst 3, 1) := by decide +kernel
theorem d_W_law_314 : decode code 314 = .ok (.iadd, 1) := by decide +kernel
theorem d_W_law_315 : decode code 315 = .ok (.iaload, 1) := by decide +kernel
theorem d_W_law_316 : decode code 316 = .ok (.i2l, 1) := by decide +kernel
theorem d_W_law_317 : decode code 317 = .ok (.bipush 32, 2) := by decide +kernel
theorem d_W_law_319 : decode code 319 = .ok (.lshl, 1) := by decide +kernel
theorem d_W_law_320 : decode code 320 = .ok (.aload_n 0, 1) := by decide +kernel
theorem d_W_law_321 : decode code 321 = .ok (.iload_n 3, 1) := by decide +kernel
theorem d_W_law_322 : decode code 322 = .ok (.iconst 4, 1) := by decide +kernel
theorem d_W_law_323 : decode code 323 = .ok (.iadd, 1) := by decide +kernel
theorem d_W_law_324 : decode code 324 = .ok (.iaload, 1) := by decide +kernel
theorem d_W_law_325 : decode code 325 = .ok (.i2l, 1) := by decide +kernel
theorem d_W_law_326 : decode code 326 = .ok (.ldc2_w 13, 3) := by decide +kernel
theorem d_W_law_329 : decode code 329 = .ok (.land, 1) := by decide +kernel
theorem d_W_law_330 : decode code 330 = .ok (.lor, 1) := by decide +kernel
theorem d_W_law_331 : decode code 331 = .ok (.invokevirtual 34, 3) := by decide +kernel
theorem d_W_law_334 : decode code 334 = .ok (.aload_n 2, 1) := by decide +kernel
theorem d_W_law_335 : decode code 335 = .ok (.aload_n 0, 1) := by decide +kernel
theorem d_W_law_336 : decode code 336 = .ok (.iload_n 3, 1) := by decide +kernel
theorem d_W_law_337 : decode code 337 = .ok (.iconst 1, 1) := by decide +kernel
theorem d_W_law_338 : decode code 338 = .ok (.iadd, 1) := by decide +kernel
theorem d_W_law_339 : decode code 339 = .ok (.iaload, 1) := by decide +kernel
theorem d_W_law_340 : decode code 340 = .ok (.aload_n 0, 1) := by decide +kernel
theorem d_W_law_341 : decode code 341 = .ok (.iload_n 3, 1) := by decide +kernel
theorem d_W_law_342 : decode code 342 = .ok (.iconst 2, 1) := by decide +kernel
theorem d_W_law_343 : decode code 343 = .ok (.iadd, 1) := by decide +kernel
theorem d_W_law_344 : decode code 344 = .ok (.iaload, 1) := by decide +kernel
theorem d_W_law_345 : decode code 345 = .ok (.aload_n 0, 1) := by decide +kernel
theorem d_W_law_346 : decode code 346 = .ok (.iload_n 3, 1) := by decide +kernel
theorem d_W_law_347 : decode code 347 = .ok (.iconst 3, 1) := by decide +kernel
theorem d_W_law_348 : decode code 348 = .ok (.iadd, 1) := by decide +kernel
theorem d_W_law_349 : decode code 349 = .ok (.iaload, 1) := by decide +kernel
theorem d_W_law_350 : decode code 350 = .ok (.i2l, 1) := by decide +kernel
theorem d_W_law_351 : decode code 351 = .ok (.bipush 32, 2) := by decide +kernel
theorem d_W_law_353 : decode code 353 = .ok (.lshl, 1) := by decide +kernel
theorem d_W_law_354 : decode code 354 = .ok (.aload_n 0, 1) := by decide +kernel
theorem d_W_law_355 : decode code 355 = .ok (.iload_n 3, 1) := by decide +kernel
theorem d_W_law_356 : decode code 356 = .ok (.iconst 4, 1) := by decide +kernel
theorem d_W_law_357 : decode code 357 = .ok (.iadd, 1) := by decide +kernel
theorem d_W_law_358 : decode code 358 = .ok (.iaload, 1) := by decide +kernel
theorem d_W_law_359 : decode code 359 = .ok (.i2l, 1) := by decide +kernel
theorem d_W_law_360 : decode code 360 = .ok (.ldc2_w 13, 3) := by decide +kernel
theorem d_W_law_363 : decode code 363 = .ok (.land, 1) := by decide +kernel
theorem d_W_law_364 : decode code 364 = .ok (.lor, 1) := by decide +kernel
theorem d_W_law_365 : decode code 365 = .ok (.invokevirtual 38, 3) := by decide +kernel
theorem d_W_law_368 : decode code 368 = .ok (.if_icmp .eq 293, 3) := by decide +kernel
theorem d_W_law_371 : decode code 371 = .ok (.iconst 0, 1) := by decide +kernel
theorem d_W_law_372 : decode code 372 = .ok (.ireturn, 1) := by decide +kernel
theorem d_W_law_373 : decode code 373 = .ok (.aload_n 1, 1) := by decide +kernel
theorem d_W_law_374 : decode code 374 = .ok (.aload_n 0, 1) := by decide +kernel
theorem d_W_law_375 : decode code 375 = .ok (.iload_n 3, 1) := by decide +kernel
theorem d_W_law_376 : decode code 376 = .ok (.iconst 1, 1) := by decide +kernel
theorem d_W_law_377 : decode code 377 = .ok (.iadd, 1) := by decide +kernel
theorem d_W_law_378 : decode code 378 = .ok (.iaload, 1) := by decide +kernel
theorem d_W_law_379 : decode code 379 = .ok (.aload_n 0, 1) := by decide +kernel
theorem d_W_law_380 : decode code 380 = .ok (.iload_n 3, 1) := by decide +kernel
theorem d_W_law_381 : decode code 381 = .ok (.iconst 2, 1) := by decide +kernel
theorem d_W_law_382 : decode code 382 = .ok (.iadd, 1) := by decide +kernel
theorem d_W_law_383 : decode code 383 = .ok (.iaload, 1) := by decide +kernel
theorem d_W_law_384 : decode code 384 = .ok (.invokevirtual 39, 3) := by decide +kernel
theorem d_W_law_387 : decode code 387 = .ok (.aload_n 2, 1) := by decide +kernel
theorem d_W_law_388 : decode code 388 = .ok (.aload_n 0, 1) := by decide +kernel
theorem d_W_law_389 : decode code 389 = .ok (.iload_n 3, 1) := by decide +kernel
theorem d_W_law_390 : decode code 390 = .ok (.iconst 1, 1) := by decide +kernel
theorem d_W_law_391 : decode code 391 = .ok (.iadd, 1) := by decide +kernel
theorem d_W_law_392 : decode code 392 = .ok (.iaload, 1) := by decide +kernel
theorem d_W_law_393 : decode code 393 = .ok (.aload_n 0, 1) := by decide +kernel
theorem d_W_law_394 : decode code 394 = .ok (.iload_n 3, 1) := by decide +kernel
theorem d_W_law_395 : decode code 395 = .ok (.iconst 2, 1) := by decide +kernel
theorem d_W_law_396 : decode code 396 = .ok (.iadd, 1) := by decide +kernel
theorem d_W_law_397 : decode code 397 = .ok (.iaload, 1) := by decide +kernel
theorem d_W_law_398 : decode code 398 = .ok (.invokevirtual 43, 3) := by decide +kernel
theorem d_W_law_401 : decode code 401 = .ok (.if_icmp .eq 260, 3) := by decide +kernel
theorem d_W_law_404 : decode code 404 = .ok (.iconst 0, 1) := by decide +kernel
theorem d_W_law_405 : decode code 405 = .ok (.ireturn, 1) := by decide +kernel
theorem d_W_law_406 : decode code 406 = .ok (.aload_n 1, 1) := by decide +kernel
theorem d_W_law_407 : decode code 407 = .ok (.aload_n 0, 1) := by decide +kernel
theorem d_W_law_408 : decode code 408 = .ok (.iload_n 3, 1) := by decide +kernel
theorem d_W_law_409 : decode code 409 = .ok (.iconst 1, 1) := by decide +kernel
theorem d_W_law_410 : decode code 410 = .ok (.iadd, 1) := by decide +kernel
theorem d_W_law_411 : decode code 411 = .ok (.iaload, 1) := by decide +kernel
theorem d_W_law_412 : decode code 412 = .ok (.aload_n 0, 1) := by decide +kernel
theorem d_W_law_413 : decode code 413 = .ok (.iload_n 3, 1) := by decide +kernel
theorem d_W_law_414 : decode code 414 = .ok (.iconst 2, 1) := by decide +kernel
theorem d_W_law_415 : decode code 415 = .ok (.iadd, 1) := by decide +kernel
theorem d_W_law_416 : decode code 416 = .ok (.iaload, 1) := by decide +kernel
theorem d_W_law_417 : decode code 417 = .ok (.invokevirtual 44, 3) := by decide +kernel
theorem d_W_law_420 : decode code 420 = .ok (.aload_n 2, 1) := by decide +kernel
theorem d_W_law_421 : decode code 421 = .ok (.aload_n 0, 1) := by decide +kernel
theorem d_W_law_422 : decode code 422 = .ok (.iload_n 3, 1) := by decide +kernel
theorem d_W_law_423 : decode code 423 = .ok (.iconst 1, 1) := by decide +kernel
theorem d_W_law_424 : decode code 424 = .ok (.iadd, 1) := by decide +kernel
theorem d_W_law_425 : decode code 425 = .ok (.iaload, 1) := by decide +kernel
theorem d_W_law_426 : decode code 426 = .ok (.aload_n 0, 1) := by decide +kernel
theorem d_W_law_427 : decode code 427 = .ok (.iload_n 3, 1) := by decide +kernel
theorem d_W_law_428 : decode code 428 = .ok (.iconst 2, 1) := by decide +kernel
theorem d_W_law_429 : decode code 429 = .ok (.iadd, 1) := by decide +kernel
theorem d_W_law_430 : decode code 430 = .ok (.iaload, 1) := by decide +kernel
theorem d_W_law_431 : decode code 431 = .ok (.invokevirtual 47, 3) := by decide +kernel
theorem d_W_law_434 : decode code 434 = .ok (.if_icmp .eq 227, 3) := by decide +kernel
theorem d_W_law_437 : decode code 437 = .ok (.iconst 0, 1) := by decide +kernel
theorem d_W_law_438 : decode code 438 = .ok (.ireturn, 1) := by decide +kernel
theorem d_W_law_439 : decode code 439 = .ok (.aload_n 1, 1) := by decide +kernel
theorem d_W_law_440 : decode code 440 = .ok (.aload_n 0, 1) := by decide +kernel
theorem d_W_law_441 : decode code 441 = .ok (.iload_n 3, 1) := by decide +kernel
theorem d_W_law_442 : decode code 442 = .ok (.iconst 1, 1) := by decide +kernel
theorem d_W_law_443 : decode code 443 = .ok (.iadd, 1) := by decide +kernel
theorem d_W_law_444 : decode code 444 = .ok (.iaload, 1) := by decide +kernel
theorem d_W_law_445 : decode code 445 = .ok (.invokevirtual 48, 3) := by decide +kernel
theorem d_W_law_448 : decode code 448 = .ok (.aload_n 2, 1) := by decide +kernel
theorem d_W_law_449 : decode code 449 = .ok (.aload_n 0, 1) := by decide +kernel
theorem d_W_law_450 : decode code 450 = .ok (.iload_n 3, 1) := by decide +kernel
theorem d_W_law_451 : decode code 451 = .ok (.iconst 1, 1) := by decide +kernel
theorem d_W_law_452 : decode code 452 = .ok (.iadd, 1) := by decide +kernel
theorem d_W_law_453 : decode code 453 = .ok (.iaload, 1) := by decide +kernel
theorem d_W_law_454 : decode code 454 = .ok (.invokevirtual 51, 3) := by decide +kernel
theorem d_W_law_457 : decode code 457 = .ok (.if_icmp .eq 204, 3) := by decide +kernel
theorem d_W_law_460 : decode code 460 = .ok (.iconst 0, 1) := by decide +kernel
theorem d_W_law_461 : decode code 461 = .ok (.ireturn, 1) := by decide +kernel
theorem d_W_law_462 : decode code 462 = .ok (.aload_n 1, 1) := by decide +kernel
theorem d_W_law_463 : decode code 463 = .ok (.aload_n 0, 1) := by decide +kernel
theorem d_W_law_464 : decode code 464 = .ok (.iload_n 3, 1) := by decide +kernel
theorem d_W_law_465 : decode code 465 = .ok (.iconst 1, 1) := by decide +kernel
theorem d_W_law_466 : decode code 466 = .ok (.iadd, 1) := by decide +kernel
theorem d_W_law_467 : decode code 467 = .ok (.iaload, 1) := by decide +kernel
theorem d_W_law_468 : decode code 468 = .ok (.invokevirtual 52, 3) := by decide +kernel
theorem d_W_law_471 : decode code 471 = .ok (.aload_n 2, 1) := by decide +kernel
theorem d_W_law_472 : decode code 472 = .ok (.aload_n 0, 1) := by decide +kernel
theorem d_W_law_473 : decode code 473 = .ok (.iload_n 3, 1) := by decide +kernel
theorem d_W_law_474 : decode code 474 = .ok (.iconst 1, 1) := by decide +kernel
theorem d_W_law_475 : decode code 475 = .ok (.iadd, 1) := by decide +kernel
theorem d_W_law_476 : decode code 476 = .ok (.iaload, 1) := by decide +kernel
theorem d_W_law_477 : decode code 477 = .ok (.invokevirtual 56, 3) := by decide +kernel
theorem d_W_law_480 : decode code 480 = .ok (.lcmp, 1) := by decide +kernel
theorem d_W_law_481 : decode code 481 = .ok (.ifCond .eq 180, 3) := by decide +kernel
theorem d_W_law_484 : decode code 484 = .ok (.iconst 0, 1) := by decide +kernel
theorem d_W_law_485 : decode code 485 = .ok (.ireturn, 1) := by decide +kernel
theorem d_W_law_486 : decode code 486 = .ok (.aload_n 1, 1) := by decide +kernel
theorem d_W_law_487 : decode code 487 = .ok (.aload_n 0, 1) := by decide +kernel
theorem d_W_law_488 : decode code 488 = .ok (.iload_n 3, 1) := by decide +kernel
theorem d_W_law_489 : decode code 489 = .ok (.iconst 1, 1) := by decide +kernel
theorem d_W_law_490 : decode code 490 = .ok (.iadd, 1) := by decide +kernel
theorem d_W_law_491 : decode code 491 = .ok (.iaload, 1) := by decide +kernel
theorem d_W_law_492 : decode code 492 = .ok (.aload_n 0, 1) := by decide +kernel
theorem d_W_law_493 : decode code 493 = .ok (.iload_n 3, 1) := by decide +kernel
theorem d_W_law_494 : decode code 494 = .ok (.iconst 2, 1) := by decide +kernel
theorem d_W_law_495 : decode code 495 = .ok (.iadd, 1) := by decide +kernel
theorem d_W_law_496 : decode code 496 = .ok (.iaload, 1) := by decide +kernel
theorem d_W_law_497 : decode code 497 = .ok (.invokevirtual 57, 3) := by decide +kernel
theorem d_W_law_500 : decode code 500 = .ok (.aload_n 2, 1) := by decide +kernel
theorem d_W_law_501 : decode code 501 = .ok (.aload_n 0, 1) := by decide +kernel
theorem d_W_law_502 : decode code 502 = .ok (.iload_n 3, 1) := by decide +kernel
theorem d_W_law_503 : decode code 503 = .ok (.iconst 1, 1) := by decide +kernel
theorem d_W_law_504 : decode code 504 = .ok (.iadd, 1) := by decide +kernel
theorem d_W_law_505 : decode code 505 = .ok (.iaload, 1) := by decide +kernel
theorem d_W_law_506 : decode code 506 = .ok (.aload_n 0, 1) := by decide +kernel
theorem d_W_law_507 : decode code 507 = .ok (.iload_n 3, 1) := by decide +kernel
theorem d_W_law_508 : decode code 508 = .ok (.iconst 2, 1) := by decide +kernel
theorem d_W_law_509 : decode code 509 = .ok (.iadd, 1) := by decide +kernel
theorem d_W_law_510 : decode code 510 = .ok (.iaload, 1) := by decide +kernel
theorem d_W_law_511 : decode code 511 = .ok (.invokevirtual 60, 3) := by decide +kernel
theorem d_W_law_514 : decode code 514 = .ok (.if_icmp .eq 147, 3) := by decide +kernel
theorem d_W_law_517 : decode code 517 = .ok (.iconst 0, 1) := by decide +kernel
theorem d_W_law_518 : decode code 518 = .ok (.ireturn, 1) := by decide +kernel
theorem d_W_law_519 : decode code 519 = .ok (.aload_n 1, 1) := by decide +kernel
theorem d_W_law_520 : decode code 520 = .ok (.aload_n 0, 1) := by decide +kernel
theorem d_W_law_521 : decode code 521 = .ok (.iload_n 3, 1) := by decide +kernel
theorem d_W_law_522 : decode code 522 = .ok (.iconst 1, 1) := by decide +kernel
theorem d_W_law_523 : decode code 523 = .ok (.iadd, 1) := by decide +kernel
theorem d_W_law_524 : decode code 524 = .ok (.iaload, 1) := by decide +kernel
theorem d_W_law_525 : decode code 525 = .ok (.invokevirtual 61, 3) := by decide +kernel
theorem d_W_law_528 : decode code 528 = .ok (.aload_n 2, 1) := by decide +kernel
theorem d_W_law_529 : decode code 529 = .ok (.aload_n 0, 1) := by decide +kernel
theorem d_W_law_530 : decode code 530 = .ok (.iload_n 3, 1) := by decide +kernel
theorem d_W_law_531 : decode code 531 = .ok (.iconst 1, 1) := by decide +kernel
theorem d_W_law_532 : decode code 532 = .ok (.iadd, 1) := by decide +kernel
theorem d_W_law_533 : decode code 533 = .ok (.iaload, 1) := by decide +kernel
theorem d_W_law_534 : decode code 534 = .ok (.invokevirtual 64, 3) := by decide +kernel
theorem d_W_law_537 : decode code 537 = .ok (.if_icmp .eq 124, 3) := by decide +kernel
theorem d_W_law_540 : decode code 540 = .ok (.iconst 0, 1) := by decide +kernel
theorem d_W_law_541 : decode code 541 = .ok (.ireturn, 1) := by decide +kernel
theorem d_W_law_542 : decode code 542 = .ok (.aload_n 1, 1) := by decide +kernel
theorem d_W_law_543 : decode code 543 = .ok (.aload_n 0, 1) := by decide +kernel
theorem d_W_law_544 : decode code 544 = .ok (.iload_n 3, 1) := by decide +kernel
theorem d_W_law_545 : decode code 545 = .ok (.iconst 1, 1) := by decide +kernel
theorem d_W_law_546 : decode code 546 = .ok (.iadd, 1) := by decide +kernel
theorem d_W_law_547 : decode code 547 = .ok (.iaload, 1) := by decide +kernel
theorem d_W_law_548 : decode code 548 = .ok (.aload_n 0, 1) := by decide +kernel
theorem d_W_law_549 : decode code 549 = .ok (.iload_n 3, 1) := by decide +kernel
theorem d_W_law_550 : decode code 550 = .ok (.iconst 2, 1) := by decide +kernel
theorem d_W_law_551 : decode code 551 = .ok (.iadd, 1) := by decide +kernel
theorem d_W_law_552 : decode code 552 = .ok (.iaload, 1) := by decide +kernel
theorem d_W_law_553 : decode code 553 = .ok (.aload_n 0, 1) := by decide +kernel
theorem d_W_law_554 : decode code 554 = .ok (.iload_n 3, 1) := by decide +kernel
theorem d_W_law_555 : decode code 555 = .ok (.iconst 3, 1) := by decide +kernel
theorem d_W_law_556 : decode code 556 = .ok (.iadd, 1) := by decide +kernel
theorem d_W_law_557 : decode code 557 = .ok (.iaload, 1) := by decide +kernel
theorem d_W_law_558 : decode code 558 = .ok (.i2l, 1) := by decide +kernel
theorem d_W_law_559 : decode code 559 = .ok (.bipush 32, 2) := by decide +kernel
theorem d_W_law_561 : decode code 561 = .ok (.lshl, 1) := by decide +kernel
theorem d_W_law_562 : decode code 562 = .ok (.aload_n 0, 1) := by decide +kernel
theorem d_W_law_563 : decode code 563 = .ok (.iload_n 3, 1) := by decide +kernel
theorem d_W_law_564 : decode code 564 = .ok (.iconst 4, 1) := by decide +kernel
theorem d_W_law_565 : decode code 565 = .ok (.iadd, 1) := by decide +kernel
theorem d_W_law_566 : decode code 566 = .ok (.iaload, 1) := by decide +kernel
theorem d_W_law_567 : decode code 567 = .ok (.i2l, 1) := by decide +kernel
theorem d_W_law_568 : decode code 568 = .ok (.ldc2_w 13, 3) := by decide +kernel
theorem d_W_law_571 : decode code 571 = .ok (.land, 1) := by decide +kernel
theorem d_W_law_572 : decode code 572 = .ok (.lor, 1) := by decide +kernel
theorem d_W_law_573 : decode code 573 = .ok (.aload_n 0, 1) := by decide +kernel
theorem d_W_law_574 : decode code 574 = .ok (.iload_n 3, 1) := by decide +kernel
theorem d_W_law_575 : decode code 575 = .ok (.iconst 5, 1) := by decide +kernel
theorem d_W_law_576 : decode code 576 = .ok (.iadd, 1) := by decide +kernel
theorem d_W_law_577 : decode code 577 = .ok (.iaload, 1) := by decide +kernel
theorem d_W_law_578 : decode code 578 = .ok (.invokevirtual 65, 3) := by decide +kernel
theorem d_W_law_581 : decode code 581 = .ok (.aload_n 2, 1) := by decide +kernel
theorem d_W_law_582 : decode code 582 = .ok (.aload_n 0, 1) := by decide +kernel
theorem d_W_law_583 : decode code 583 = .ok (.iload_n 3, 1) := by decide +kernel
theorem d_W_law_584 : decode code 584 = .ok (.iconst 1, 1) := by decide +kernel
theorem d_W_law_585 : decode code 585 = .ok (.iadd, 1) := by decide +kernel
theorem d_W_law_586 : decode code 586 = .ok (.iaload, 1) := by decide +kernel
theorem d_W_law_587 : decode code 587 = .ok (.aload_n 0, 1) := by decide +kernel
theorem d_W_law_588 : decode code 588 = .ok (.iload_n 3, 1) := by decide +kernel
theorem d_W_law_589 : decode code 589 = .ok (.iconst 2, 1) := by decide +kernel
theorem d_W_law_590 : decode code 590 = .ok (.iadd, 1) := by decide +kernel
theorem d_W_law_591 : decode code 591 = .ok (.iaload, 1) := by decide +kernel
theorem d_W_law_592 : decode code 592 = .ok (.aload_n 0, 1) := by decide +kernel
theorem d_W_law_593 : decode code 593 = .ok (.iload_n 3, 1) := by decide +kernel
theorem d_W_law_594 : decode code 594 = .ok (.iconst 3, 1) := by decide +kernel
theorem d_W_law_595 : decode code 595 = .ok (.iadd, 1) := by decide +kernel
theorem d_W_law_596 : decode code 596 = .ok (.iaload, 1) := by decide +kernel
theorem d_W_law_597 : decode code 597 = .ok (.i2l, 1) := by decide +kernel
theorem d_W_law_598 : decode code 598 = .ok (.bipush 32, 2) := by decide +kernel
theorem d_W_law_600 : decode code 600 = .ok (.lshl, 1) := by decide +kernel
theorem d_W_law_601 : decode code 601 = .ok (.aload_n 0, 1) := by decide +kernel
theorem d_W_law_602 : decode code 602 = .ok (.iload_n 3, 1) := by decide +kernel
theorem d_W_law_603 : decode code 603 = .ok (.iconst 4, 1) := by decide +kernel
theorem d_W_law_604 : decode code 604 = .ok (.iadd, 1) := by decide +kernel
theorem d_W_law_605 : decode code 605 = .ok (.iaload, 1) := by decide +kernel
theorem d_W_law_606 : decode code 606 = .ok (.i2l, 1) := by decide +kernel
theorem d_W_law_607 : decode code 607 = .ok (.ldc2_w 13, 3) := by decide +kernel
theorem d_W_law_610 : decode code 610 = .ok (.land, 1) := by decide +kernel
theorem d_W_law_611 : decode code 611 = .ok (.lor, 1) := by decide +kernel
theorem d_W_law_612 : decode code 612 = .ok (.aload_n 0, 1) := by decide +kernel
theorem d_W_law_613 : decode code 613 = .ok (.iload_n 3, 1) := by decide +kernel
theorem d_W_law_614 : decode code 614 = .ok (.iconst 5, 1) := by decide +kernel
theorem d_W_law_615 : decode code 615 = .ok (.iadd, 1) := by decide +kernel
theorem d_W_law_616 : decode code 616 = .ok (.iaload, 1) := by decide +kernel
theorem d_W_law_617 : decode code 617 = .ok (.invokevirtual 69, 3) := by decide +kernel
theorem d_W_law_620 : decode code 620 = .ok (.if_icmp .eq 41, 3) := by decide +kernel
theorem d_W_law_623 : decode code 623 = .ok (.iconst 0, 1) := by decide +kernel
theorem d_W_law_624 : decode code 624 = .ok (.ireturn, 1) := by decide +kernel
theorem d_W_law_625 : decode code 625 = .ok (.aload_n 1, 1) := by decide +kernel
theorem d_W_law_626 : decode code 626 = .ok (.aload_n 0, 1) := by decide +kernel
theorem d_W_law_627 : decode code 627 = .ok (.iload_n 3, 1) := by decide +kernel
theorem d_W_law_628 : decode code 628 = .ok (.iconst 1, 1) := by decide +kernel
theorem d_W_law_629 : decode code 629 = .ok (.iadd, 1) := by decide +kernel
theorem d_W_law_630 : decode code 630 = .ok (.iaload, 1) := by decide +kernel
theorem d_W_law_631 : decode code 631 = .ok (.invokevirtual 70, 3) := by decide +kernel
theorem d_W_law_634 : decode code 634 = .ok (.aload_n 2, 1) := by decide +kernel
theorem d_W_law_635 : decode code 635 = .ok (.aload_n 0, 1) := by decide +kernel
theorem d_W_law_636 : decode code 636 = .ok (.iload_n 3, 1) := by decide +kernel
theorem d_W_law_637 : decode code 637 = .ok (.iconst 1, 1) := by decide +kernel
theorem d_W_law_638 : decode code 638 = .ok (.iadd, 1) := by decide +kernel
theorem d_W_law_639 : decode code 639 = .ok (.iaload, 1) := by decide +kernel
theorem d_W_law_640 : decode code 640 = .ok (.invokevirtual 73, 3) := by decide +kernel
theorem d_W_law_643 : decode code 643 = .ok (.if_icmp .eq 18, 3) := by decide +kernel
theorem d_W_law_646 : decode code 646 = .ok (.iconst 0, 1) := by decide +kernel
theorem d_W_law_647 : decode code 647 = .ok (.ireturn, 1) := by decide +kernel
theorem d_W_law_648 : decode code 648 = .ok (.aload_n 1, 1) := by decide +kernel
theorem d_W_law_649 : decode code 649 = .ok (.invokevirtual 74, 3) := by decide +kernel
theorem d_W_law_652 : decode code 652 = .ok (.aload_n 2, 1) := by decide +kernel
theorem d_W_law_653 : decode code 653 = .ok (.invokevirtual 77, 3) := by decide +kernel
theorem d_W_law_656 : decode code 656 = .ok (.if_icmp .eq 5, 3) := by decide +kernel
theorem d_W_law_659 : decode code 659 = .ok (.iconst 0, 1) := by decide +kernel
theorem d_W_law_660 : decode code 660 = .ok (.ireturn, 1) := by decide +kernel
theorem d_W_law_661 : decode code 661 = .ok (.iinc 3 8, 3) := by decide +kernel
theorem d_W_law_664 : decode code 664 = .ok (.goto (-646), 3) := by decide +kernel
theorem d_W_law_667 : decode code 667 = .ok (.iconst 1, 1) := by decide +kernel
theorem d_W_law_668 : decode code 668 = .ok (.ireturn, 1) := by decide +kernel
end
section
abbrev Lib : Type := Int32 × (Nat → Int32) × (Nat → Int32) × (Nat → Int32) × (Nat → Int64) × (Nat → Int64) × (Nat → Int32) × (Nat → Int32) × (Nat → Int64) × (Nat → Int32) × (Nat → Int32) × (Nat → Int32) × (Nat → Int32) × (Nat → Int32) × Int32 × (Nat → Int32)
def l_sz (u : Lib) : Int32 := u.1
def l_sz_w (u : Lib) (v : Int32) : Lib := (v, u.2)
def l_srt (u : Lib) : Nat → Int32 := u.2.1
def l_srt_w (u : Lib) (v : Nat → Int32) : Lib := (u.1, v, u.2.2)
def l_fst (u : Lib) : Nat → Int32 := u.2.2.1
def l_fst_w (u : Lib) (v : Nat → Int32) : Lib := (u.1, u.2.1, v, u.2.2.2)
def l_snd (u : Lib) : Nat → Int32 := u.2.2.2.1
def l_snd_w (u : Lib) (v : Nat → Int32) : Lib := (u.1, u.2.1, u.2.2.1, v, u.2.2.2.2)
def l_dys (u : Lib) : Nat → Int64 := u.2.2.2.2.1
def l_dys_w (u : Lib) (v : Nat → Int64) : Lib := (u.1, u.2.1, u.2.2.1, u.2.2.2.1, v, u.2.2.2.2.2)
def l_hb (u : Lib) : Nat → Int64 := u.2.2.2.2.2.1
def l_hb_w (u : Lib) (v : Nat → Int64) : Lib := (u.1, u.2.1, u.2.2.1, u.2.2.2.1, u.2.2.2.2.1, v, u.2.2.2.2.2.2)
def l_rec (u : Lib) : Nat → Int32 := u.2.2.2.2.2.2.1
def l_rec_w (u : Lib) (v : Nat → Int32) : Lib := (u.1, u.2.1, u.2.2.1, u.2.2.2.1, u.2.2.2.2.1, u.2.2.2.2.2.1, v, u.2.2.2.2.2.2.2)
def l_per (u : Lib) : Nat → Int32 := u.2.2.2.2.2.2.2.1
def l_per_w (u : Lib) (v : Nat → Int32) : Lib := (u.1, u.2.1, u.2.2.1, u.2.2.2.1, u.2.2.2.2.1, u.2.2.2.2.2.1, u.2.2.2.2.2.2.1, v, u.2.2.2.2.2.2.2.2)
def l_due (u : Lib) : Nat → Int64 := u.2.2.2.2.2.2.2.2.1
def l_due_w (u : Lib) (v : Nat → Int64) : Lib := (u.1, u.2.1, u.2.2.1, u.2.2.2.1, u.2.2.2.2.1, u.2.2.2.2.2.1, u.2.2.2.2.2.2.1, u.2.2.2.2.2.2.2.1, v, u.2.2.2.2.2.2.2.2.2)
def l_qd (u : Lib) : Nat → Int32 := u.2.2.2.2.2.2.2.2.2.1
def l_qd_w (u : Lib) (v : Nat → Int32) : Lib := (u.1, u.2.1, u.2.2.1, u.2.2.2.1, u.2.2.2.2.1, u.2.2.2.2.2.1, u.2.2.2.2.2.2.1, u.2.2.2.2.2.2.2.1, u.2.2.2.2.2.2.2.2.1, v, u.2.2.2.2.2.2.2.2.2.2)
def l_ql (u : Lib) : Nat → Int32 := u.2.2.2.2.2.2.2.2.2.2.1
def l_ql_w (u : Lib) (v : Nat → Int32) : Lib := (u.1, u.2.1, u.2.2.1, u.2.2.2.1, u.2.2.2.2.1, u.2.2.2.2.2.1, u.2.2.2.2.2.2.1, u.2.2.2.2.2.2.2.1, u.2.2.2.2.2.2.2.2.1, u.2.2.2.2.2.2.2.2.2.1, v, u.2.2.2.2.2.2.2.2.2.2.2)
def l_cls (u : Lib) : Nat → Int32 := u.2.2.2.2.2.2.2.2.2.2.2.1
def l_cls_w (u : Lib) (v : Nat → Int32) : Lib := (u.1, u.2.1, u.2.2.1, u.2.2.2.1, u.2.2.2.2.1, u.2.2.2.2.2.1, u.2.2.2.2.2.2.1, u.2.2.2.2.2.2.2.1, u.2.2.2.2.2.2.2.2.1, u.2.2.2.2.2.2.2.2.2.1, u.2.2.2.2.2.2.2.2.2.2.1, v, u.2.2.2.2.2.2.2.2.2.2.2.2)
def l_ln (u : Lib) : Nat → Int32 := u.2.2.2.2.2.2.2.2.2.2.2.2.1
def l_ln_w (u : Lib) (v : Nat → Int32) : Lib := (u.1, u.2.1, u.2.2.1, u.2.2.2.1, u.2.2.2.2.1, u.2.2.2.2.2.1, u.2.2.2.2.2.2.1, u.2.2.2.2.2.2.2.1, u.2.2.2.2.2.2.2.2.1, u.2.2.2.2.2.2.2.2.2.1, u.2.2.2.2.2.2.2.2.2.2.1, u.2.2.2.2.2.2.2.2.2.2.2.1, v, u.2.2.2.2.2.2.2.2.2.2.2.2.2)
def l_sm (u : Lib) : Nat → Int32 := u.2.2.2.2.2.2.2.2.2.2.2.2.2.1
def l_sm_w (u : Lib) (v : Nat → Int32) : Lib := (u.1, u.2.1, u.2.2.1, u.2.2.2.1, u.2.2.2.2.1, u.2.2.2.2.2.1, u.2.2.2.2.2.2.1, u.2.2.2.2.2.2.2.1, u.2.2.2.2.2.2.2.2.1, u.2.2.2.2.2.2.2.2.2.1, u.2.2.2.2.2.2.2.2.2.2.1, u.2.2.2.2.2.2.2.2.2.2.2.1, u.2.2.2.2.2.2.2.2.2.2.2.2.1, v, u.2.2.2.2.2.2.2.2.2.2.2.2.2.2)
def l_hc (u : Lib) : Int32 := u.2.2.2.2.2.2.2.2.2.2.2.2.2.2.1
def l_hc_w (u : Lib) (v : Int32) : Lib := (u.1, u.2.1, u.2.2.1, u.2.2.2.1, u.2.2.2.2.1, u.2.2.2.2.2.1, u.2.2.2.2.2.2.1, u.2.2.2.2.2.2.2.1, u.2.2.2.2.2.2.2.2.1, u.2.2.2.2.2.2.2.2.2.1, u.2.2.2.2.2.2.2.2.2.2.1, u.2.2.2.2.2.2.2.2.2.2.2.1, u.2.2.2.2.2.2.2.2.2.2.2.2.1, u.2.2.2.2.2.2.2.2.2.2.2.2.2.1, v, u.2.2.2.2.2.2.2.2.2.2.2.2.2.2.2)
def l_hit (u : Lib) : Nat → Int32 := u.2.2.2.2.2.2.2.2.2.2.2.2.2.2.2
def l_hit_w (u : Lib) (v : Nat → Int32) : Lib := (u.1, u.2.1, u.2.2.1, u.2.2.2.1, u.2.2.2.2.1, u.2.2.2.2.2.1, u.2.2.2.2.2.2.1, u.2.2.2.2.2.2.2.1, u.2.2.2.2.2.2.2.2.1, u.2.2.2.2.2.2.2.2.2.1, u.2.2.2.2.2.2.2.2.2.2.1, u.2.2.2.2.2.2.2.2.2.2.2.1, u.2.2.2.2.2.2.2.2.2.2.2.2.1, u.2.2.2.2.2.2.2.2.2.2.2.2.2.1, u.2.2.2.2.2.2.2.2.2.2.2.2.2.2.1, v)
abbrev Mod : Type := Int32 × (Nat → Int32) × (Nat → Int32) × (Nat → Int64) × (Nat → Int64) × Int32 × (Nat → Int32) × (Nat → Int32) × (Nat → Int32) × (Nat → Int64) × (Nat → Int32) × (Nat → Int32) × (Nat → Int32) × (Nat → Int32) × (Nat → Int32) × (Nat → Int32) × (Nat → Int32) × Int32 × Int32 × (Nat → Int32) × Int32
def m_th (u : Mod) : Int32 := u.1
def m_th_w (u : Mod) (v : Int32) : Mod := (v, u.2)
def m_srt (u : Mod) : Nat → Int32 := u.2.1
def m_srt_w (u : Mod) (v : Nat → Int32) : Mod := (u.1, v, u.2.2)
def m_as (u : Mod) : Nat → Int32 := u.2.2.1
def m_as_w (u : Mod) (v : Nat → Int32) : Mod := (u.1, u.2.1, v, u.2.2.2)
def m_bs (u : Mod) : Nat → Int64 := u.2.2.2.1
def m_bs_w (u : Mod) (v : Nat → Int64) : Mod := (u.1, u.2.1, u.2.2.1, v, u.2.2.2.2)
def m_dys (u : Mod) : Nat → Int64 := u.2.2.2.2.1
def m_dys_w (u : Mod) (v : Nat → Int64) : Mod := (u.1, u.2.1, u.2.2.1, u.2.2.2.1, v, u.2.2.2.2.2)
def m_ct (u : Mod) : Int32 := u.2.2.2.2.2.1
def m_ct_w (u : Mod) (v : Int32) : Mod := (u.1, u.2.1, u.2.2.1, u.2.2.2.1, u.2.2.2.2.1, v, u.2.2.2.2.2.2)
def m_hd (u : Mod) : Nat → Int32 := u.2.2.2.2.2.2.1
def m_hd_w (u : Mod) (v : Nat → Int32) : Mod := (u.1, u.2.1, u.2.2.1, u.2.2.2.1, u.2.2.2.2.1, u.2.2.2.2.2.1, v, u.2.2.2.2.2.2.2)
def m_rec (u : Mod) : Nat → Int32 := u.2.2.2.2.2.2.2.1
def m_rec_w (u : Mod) (v : Nat → Int32) : Mod := (u.1, u.2.1, u.2.2.1, u.2.2.2.1, u.2.2.2.2.1, u.2.2.2.2.2.1, u.2.2.2.2.2.2.1, v, u.2.2.2.2.2.2.2.2)
def m_per (u : Mod) : Nat → Int32 := u.2.2.2.2.2.2.2.2.1
def m_per_w (u : Mod) (v : Nat → Int32) : Mod := (u.1, u.2.1, u.2.2.1, u.2.2.2.1, u.2.2.2.2.1, u.2.2.2.2.2.1, u.2.2.2.2.2.2.1, u.2.2.2.2.2.2.2.1, v, u.2.2.2.2.2.2.2.2.2)
def m_due (u : Mod) : Nat → Int64 := u.2.2.2.2.2.2.2.2.2.1
def m_due_w (u : Mod) (v : Nat → Int64) : Mod := (u.1, u.2.1, u.2.2.1, u.2.2.2.1, u.2.2.2.2.1, u.2.2.2.2.2.1, u.2.2.2.2.2.2.1, u.2.2.2.2.2.2.2.1, u.2.2.2.2.2.2.2.2.1, v, u.2.2.2.2.2.2.2.2.2.2)
def m_qd (u : Mod) : Nat → Int32 := u.2.2.2.2.2.2.2.2.2.2.1
def m_qd_w (u : Mod) (v : Nat → Int32) : Mod := (u.1, u.2.1, u.2.2.1, u.2.2.2.1, u.2.2.2.2.1, u.2.2.2.2.2.1, u.2.2.2.2.2.2.1, u.2.2.2.2.2.2.2.1, u.2.2.2.2.2.2.2.2.1, u.2.2.2.2.2.2.2.2.2.1, v, u.2.2.2.2.2.2.2.2.2.2.2)
def m_qs (u : Mod) : Nat → Int32 := u.2.2.2.2.2.2.2.2.2.2.2.1
def m_qs_w (u : Mod) (v : Nat → Int32) : Mod := (u.1, u.2.1, u.2.2.1, u.2.2.2.1, u.2.2.2.2.1, u.2.2.2.2.2.1, u.2.2.2.2.2.2.1, u.2.2.2.2.2.2.2.1, u.2.2.2.2.2.2.2.2.1, u.2.2.2.2.2.2.2.2.2.1, u.2.2.2.2.2.2.2.2.2.2.1, v, u.2.2.2.2.2.2.2.2.2.2.2.2)
def m_sm (u : Mod) : Nat → Int32 := u.2.2.2.2.2.2.2.2.2.2.2.2.1
def m_sm_w (u : Mod) (v : Nat → Int32) : Mod := (u.1, u.2.1, u.2.2.1, u.2.2.2.1, u.2.2.2.2.1, u.2.2.2.2.2.1, u.2.2.2.2.2.2.1, u.2.2.2.2.2.2.2.1, u.2.2.2.2.2.2.2.2.1, u.2.2.2.2.2.2.2.2.2.1, u.2.2.2.2.2.2.2.2.2.2.1, u.2.2.2.2.2.2.2.2.2.2.2.1, v, u.2.2.2.2.2.2.2.2.2.2.2.2.2)
def m_cls (u : Mod) : Nat → Int32 := u.2.2.2.2.2.2.2.2.2.2.2.2.2.1
def m_cls_w (u : Mod) (v : Nat → Int32) : Mod := (u.1, u.2.1, u.2.2.1, u.2.2.2.1, u.2.2.2.2.1, u.2.2.2.2.2.1, u.2.2.2.2.2.2.1, u.2.2.2.2.2.2.2.1, u.2.2.2.2.2.2.2.2.1, u.2.2.2.2.2.2.2.2.2.1, u.2.2.2.2.2.2.2.2.2.2.1, u.2.2.2.2.2.2.2.2.2.2.2.1, u.2.2.2.2.2.2.2.2.2.2.2.2.1, v, u.2.2.2.2.2.2.2.2.2.2.2.2.2.2)
def m_ln (u : Mod) : Nat → Int32 := u.2.2.2.2.2.2.2.2.2.2.2.2.2.2.1
def m_ln_w (u : Mod) (v : Nat → Int32) : Mod := (u.1, u.2.1, u.2.2.1, u.2.2.2.1, u.2.2.2.2.1, u.2.2.2.2.2.1, u.2.2.2.2.2.2.1, u.2.2.2.2.2.2.2.1, u.2.2.2.2.2.2.2.2.1, u.2.2.2.2.2.2.2.2.2.1, u.2.2.2.2.2.2.2.2.2.2.1, u.2.2.2.2.2.2.2.2.2.2.2.1, u.2.2.2.2.2.2.2.2.2.2.2.2.1, u.2.2.2.2.2.2.2.2.2.2.2.2.2.1, v, u.2.2.2.2.2.2.2.2.2.2.2.2.2.2.2)
def m_vo (u : Mod) : Nat → Int32 := u.2.2.2.2.2.2.2.2.2.2.2.2.2.2.2.1
def m_vo_w (u : Mod) (v : Nat → Int32) : Mod := (u.1, u.2.1, u.2.2.1, u.2.2.2.1, u.2.2.2.2.1, u.2.2.2.2.2.1, u.2.2.2.2.2.2.1, u.2.2.2.2.2.2.2.1, u.2.2.2.2.2.2.2.2.1, u.2.2.2.2.2.2.2.2.2.1, u.2.2.2.2.2.2.2.2.2.2.1, u.2.2.2.2.2.2.2.2.2.2.2.1, u.2.2.2.2.2.2.2.2.2.2.2.2.1, u.2.2.2.2.2.2.2.2.2.2.2.2.2.1, u.2.2.2.2.2.2.2.2.2.2.2.2.2.2.1, v, u.2.2.2.2.2.2.2.2.2.2.2.2.2.2.2.2)
def m_bk (u : Mod) : Nat → Int32 := u.2.2.2.2.2.2.2.2.2.2.2.2.2.2.2.2.1
def m_bk_w (u : Mod) (v : Nat → Int32) : Mod := (u.1, u.2.1, u.2.2.1, u.2.2.2.1, u.2.2.2.2.1, u.2.2.2.2.2.1, u.2.2.2.2.2.2.1, u.2.2.2.2.2.2.2.1, u.2.2.2.2.2.2.2.2.1, u.2.2.2.2.2.2.2.2.2.1, u.2.2.2.2.2.2.2.2.2.2.1, u.2.2.2.2.2.2.2.2.2.2.2.1, u.2.2.2.2.2.2.2.2.2.2.2.2.1, u.2.2.2.2.2.2.2.2.2.2.2.2.2.1, u.2.2.2.2.2.2.2.2.2.2.2.2.2.2.1, u.2.2.2.2.2.2.2.2.2.2.2.2.2.2.2.1, v, u.2.2.2.2.2.2.2.2.2.2.2.2.2.2.2.2.2)
def m_vd (u : Mod) : Int32 := u.2.2.2.2.2.2.2.2.2.2.2.2.2.2.2.2.2.1
def m_vd_w (u : Mod) (v : Int32) : Mod := (u.1, u.2.1, u.2.2.1, u.2.2.2.1, u.2.2.2.2.1, u.2.2.2.2.2.1, u.2.2.2.2.2.2.1, u.2.2.2.2.2.2.2.1, u.2.2.2.2.2.2.2.2.1, u.2.2.2.2.2.2.2.2.2.1, u.2.2.2.2.2.2.2.2.2.2.1, u.2.2.2.2.2.2.2.2.2.2.2.1, u.2.2.2.2.2.2.2.2.2.2.2.2.1, u.2.2.2.2.2.2.2.2.2.2.2.2.2.1, u.2.2.2.2.2.2.2.2.2.2.2.2.2.2.1, u.2.2.2.2.2.2.2.2.2.2.2.2.2.2.2.1, u.2.2.2.2.2.2.2.2.2.2.2.2.2.2.2.2.1, v, u.2.2.2.2.2.2.2.2.2.2.2.2.2.2.2.2.2.2)
def m_pk (u : Mod) : Int32 := u.2.2.2.2.2.2.2.2.2.2.2.2.2.2.2.2.2.2.1
def m_pk_w (u : Mod) (v : Int32) : Mod := (u.1, u.2.1, u.2.2.1, u.2.2.2.1, u.2.2.2.2.1, u.2.2.2.2.2.1, u.2.2.2.2.2.2.1, u.2.2.2.2.2.2.2.1, u.2.2.2.2.2.2.2.2.1, u.2.2.2.2.2.2.2.2.2.1, u.2.2.2.2.2.2.2.2.2.2.1, u.2.2.2.2.2.2.2.2.2.2.2.1, u.2.2.2.2.2.2.2.2.2.2.2.2.1, u.2.2.2.2.2.2.2.2.2.2.2.2.2.1, u.2.2.2.2.2.2.2.2.2.2.2.2.2.2.1, u.2.2.2.2.2.2.2.2.2.2.2.2.2.2.2.1, u.2.2.2.2.2.2.2.2.2.2.2.2.2.2.2.2.1, u.2.2.2.2.2.2.2.2.2.2.2.2.2.2.2.2.2.1, v, u.2.2.2.2.2.2.2.2.2.2.2.2.2.2.2.2.2.2.2)
def m_hit (u : Mod) : Nat → Int32 := u.2.2.2.2.2.2.2.2.2.2.2.2.2.2.2.2.2.2.2.1
def m_hit_w (u : Mod) (v : Nat → Int32) : Mod := (u.1, u.2.1, u.2.2.1, u.2.2.2.1, u.2.2.2.2.1, u.2.2.2.2.2.1, u.2.2.2.2.2.2.1, u.2.2.2.2.2.2.2.1, u.2.2.2.2.2.2.2.2.1, u.2.2.2.2.2.2.2.2.2.1, u.2.2.2.2.2.2.2.2.2.2.1, u.2.2.2.2.2.2.2.2.2.2.2.1, u.2.2.2.2.2.2.2.2.2.2.2.2.1, u.2.2.2.2.2.2.2.2.2.2.2.2.2.1, u.2.2.2.2.2.2.2.2.2.2.2.2.2.2.1, u.2.2.2.2.2.2.2.2.2.2.2.2.2.2.2.1, u.2.2.2.2.2.2.2.2.2.2.2.2.2.2.2.2.1, u.2.2.2.2.2.2.2.2.2.2.2.2.2.2.2.2.2.1, u.2.2.2.2.2.2.2.2.2.2.2.2.2.2.2.2.2.2.1, v, u.2.2.2.2.2.2.2.2.2.2.2.2.2.2.2.2.2.2.2.2)
def m_hc (u : Mod) : Int32 := u.2.2.2.2.2.2.2.2.2.2.2.2.2.2.2.2.2.2.2.2
def m_hc_w (u : Mod) (v : Int32) : Mod := (u.1, u.2.1, u.2.2.1, u.2.2.2.1, u.2.2.2.2.1, u.2.2.2.2.2.1, u.2.2.2.2.2.2.1, u.2.2.2.2.2.2.2.1, u.2.2.2.2.2.2.2.2.1, u.2.2.2.2.2.2.2.2.2.1, u.2.2.2.2.2.2.2.2.2.2.1, u.2.2.2.2.2.2.2.2.2.2.2.1, u.2.2.2.2.2.2.2.2.2.2.2.2.1, u.2.2.2.2.2.2.2.2.2.2.2.2.2.1, u.2.2.2.2.2.2.2.2.2.2.2.2.2.2.1, u.2.2.2.2.2.2.2.2.2.2.2.2.2.2.2.1, u.2.2.2.2.2.2.2.2.2.2.2.2.2.2.2.2.1, u.2.2.2.2.2.2.2.2.2.2.2.2.2.2.2.2.2.1, u.2.2.2.2.2.2.2.2.2.2.2.2.2.2.2.2.2.2.1, u.2.2.2.2.2.2.2.2.2.2.2.2.2.2.2.2.2.2.2.1, v)
def cL (cI cJ cZ : ClassId) (ad : Nat → Nat) (u : Lib) : va_W := [((ad 0), .inr (2, [.ref (ad 1), .ref (ad 6), .ref (ad 16), .int (l_hc u)])), ((ad 1), .inr (0, [.ref (ad 2), .ref (ad 3), .ref (ad 4), .ref (ad 5), .int (l_sz u)])), ((ad 2), .inl (cI, 200, .inl (l_srt u))), ((ad 3), .inl (cI, 200, .inl (l_fst u))), ((ad 4), .inl (cI, 200, .inl (l_snd u))), ((ad 5), .inl (cJ, 200, .inr (.inl (l_dys u)))), ((ad 6), .inr (1, [.ref (ad 7), .ref (ad 8), .ref (ad 9), .ref (ad 10), .ref (ad 11), .ref (ad 12), .ref (ad 13), .ref (ad 14), .ref (ad 15)])), ((ad 7), .inl (cJ, 42, .inr (.inl (l_hb u)))), ((ad 8), .inl (cI, 21, .inl (l_rec u))), ((ad 9), .inl (cI, 21, .inl (l_per u))), ((ad 10), .inl (cJ, 21, .inr (.inl (l_due u)))), ((ad 11), .inl (cI, 420, .inl (l_qd u))), ((ad 12), .inl (cI, 21, .inl (l_ql u))), ((ad 13), .inl (cI, 21, .inl (l_cls u))), ((ad 14), .inl (cI, 10, .inl (l_ln u))), ((ad 15), .inl (cI, 126, .inl (l_sm u))), ((ad 16), .inl (cI, 20, .inl (l_hit u)))]
def cM (cI cJ cZ : ClassId) (bd : Nat → Nat) (u : Mod) : va_W := [((bd 0), .inr (3, [.int (m_th u), .ref (bd 1), .ref (bd 2), .ref (bd 3), .ref (bd 4), .int (m_ct u), .ref (bd 5), .ref (bd 6), .ref (bd 7), .ref (bd 8), .ref (bd 9), .ref (bd 10), .ref (bd 11), .ref (bd 12), .ref (bd 13), .ref (bd 14), .ref (bd 15), .int (m_vd u), .int (m_pk u), .ref (bd 16), .int (m_hc u)])), ((bd 1), .inl (cI, 200, .inl (m_srt u))), ((bd 2), .inl (cI, 200, .inl (m_as u))), ((bd 3), .inl (cJ, 200, .inr (.inl (m_bs u)))), ((bd 4), .inl (cJ, 200, .inr (.inl (m_dys u)))), ((bd 5), .inl (cZ, 2100, .inl (m_hd u))), ((bd 6), .inl (cI, 21, .inl (m_rec u))), ((bd 7), .inl (cI, 21, .inl (m_per u))), ((bd 8), .inl (cJ, 21, .inr (.inl (m_due u)))), ((bd 9), .inl (cI, 420, .inl (m_qd u))), ((bd 10), .inl (cI, 21, .inl (m_qs u))), ((bd 11), .inl (cI, 126, .inl (m_sm u))), ((bd 12), .inl (cI, 21, .inl (m_cls u))), ((bd 13), .inl (cI, 10, .inl (m_ln u))), ((bd 14), .inl (cZ, 200, .inl (m_vo u))), ((bd 15), .inl (cI, 200, .inl (m_bk u))), ((bd 16), .inl (cI, 20, .inl (m_hit u)))]
def cW (cI cJ cZ : ClassId) (ad bd : Nat → Nat) (u : Lib × Mod) : va_W := cL cI cJ cZ ad u.1 ++ cM cI cJ cZ bd u.2
def cJI (cI : ClassId) (n a : Nat) (f : Nat → Int32) : va_W := [(a, .inl (cI, n, .inl f))]
def cJJ (cJ : ClassId) (n a : Nat) (f : Nat → Int64) : va_W := [(a, .inl (cJ, n, .inr (.inl f)))]
def cRi (cI cJ cZ : ClassId) (ad : Nat → Nat) : va_W := [((ad 0), .inr (0, [.ref (ad 1), .ref (ad 2), .ref (ad 3), .ref (ad 4), .int (0 : Int32)])), ((ad 1), .inl (cI, 200, .inl (fun _ => 0))), ((ad 2), .inl (cI, 200, .inl (fun _ => 0))), ((ad 3), .inl (cI, 200, .inl (fun _ => 0))), ((ad 4), .inl (cJ, 200, .inr (.inl (fun _ => 0))))]
def cSi (cI cJ cZ : ClassId) (ad : Nat → Nat) : va_W := [((ad 0), .inr (1, [.ref (ad 1), .ref (ad 2), .ref (ad 3), .ref (ad 4), .ref (ad 5), .ref (ad 6), .ref (ad 7), .ref (ad 8), .ref (ad 9)])), ((ad 1), .inl (cJ, 42, .inr (.inl (fun _ => 0)))), ((ad 2), .inl (cI, 21, .inl (fun _ => 0))), ((ad 3), .inl (cI, 21, .inl (fun _ => 0))), ((ad 4), .inl (cJ, 21, .inr (.inl (fun _ => 0)))), ((ad 5), .inl (cI, 420, .inl (fun _ => 0))), ((ad 6), .inl (cI, 21, .inl (fun _ => 0))), ((ad 7), .inl (cI, 21, .inl (fun _ => 0))), ((ad 8), .inl (cI, 10, .inl (fun _ => 0))), ((ad 9), .inl (cI, 126, .inl (fun _ => 0)))]
def lib0 : Lib := (0, fun _ => 0, fun _ => 0, fun _ => 0, fun _ => 0, fun _ => 0, fun _ => 0, fun _ => 0, fun _ => 0, fun _ => 0, fun _ => 0, fun _ => 0, fun _ => 0, fun _ => 0, 0, fun _ => 0)
def mod0 : Mod := (0, fun _ => 0, fun _ => 0, fun _ => 0, fun _ => 0, 0, fun _ => 0, fun _ => 0, fun _ => 0, fun _ => 0, fun _ => 0, fun _ => 0, fun _ => 0, fun _ => 0, fun _ => 0, fun _ => 0, fun _ => 0, 0, 0, fun _ => 0, 0)
def cLi (cI cJ cZ : ClassId) (ad : Nat → Nat) : va_W := cL cI cJ cZ ad lib0
def cMi (cI cJ cZ : ClassId) (bd : Nat → Nat) : va_W := cM cI cJ cZ bd mod0
end
section
def B_L_isWithin_0 (y0 : Int64) (y2 : Int64) (y4 : Int64) : Option Int32 := if (lg_cmp y0 y2) < 0 then (some (0 : Int32)) else (if 0 < (lg_cmp y0 y4) then (some (0 : Int32)) else (some (1 : Int32)))
def B_L_isNumber_0 (y0 : Int64) : Option Int32 := (B_L_isWithin_0 y0 (1 : Int64) (20 : Int64)).bind fun v1 => (gd (v1 = 0 ∨ v1 = 1) (some v1))
def B_L_isAct_0 (x0 : Int32) (y1 : Int64) (y3 : Int64) : Option Int32 := if x0 = (0 : Int32) then ((B_L_isNumber_0 y1).bind fun v2 => (if v2 = 0 then (some (0 : Int32)) else ((B_L_isWithin_0 y3 (1 : Int64) (99 : Int64)).bind fun v4 => (if v4 = 0 then (some (0 : Int32)) else (some (1 : Int32)))))) else (if x0 = (1 : Int32) then ((B_L_isNumber_0 y1).bind fun v7 => (if v7 = 0 then (some (0 : Int32)) else ((B_L_isWithin_0 y3 (1 : Int64) (99 : Int64)).bind fun v9 => (if v9 = 0 then (some (0 : Int32)) else (some (1 : Int32)))))) else (if x0 = (2 : Int32) then ((B_L_isNumber_0 y1).bind fun v12 => (if v12 = 0 then (some (0 : Int32)) else ((B_L_isNumber_0 y3).bind fun v14 => (if v14 = 0 then (some (0 : Int32)) else (some (1 : Int32)))))) else (if x0 = (3 : Int32) then ((B_L_isNumber_0 y1).bind fun v17 => (if v17 = 0 then (some (0 : Int32)) else ((B_L_isNumber_0 y3).bind fun v19 => (if v19 = 0 then (some (0 : Int32)) else (some (1 : Int32)))))) else (if x0 = (4 : Int32) then ((B_L_isNumber_0 y1).bind fun v22 => (gd (v22 = 0 ∨ v22 = 1) (some v22))) else (if x0 = (5 : Int32) then ((B_L_isNumber_0 y1).bind fun v25 => (if v25 = 0 then (some (0 : Int32)) else ((B_L_isNumber_0 y3).bind fun v27 => (if v27 = 0 then (some (0 : Int32)) else (some (1 : Int32)))))) else (if x0 = (6 : Int32) then ((B_L_isNumber_0 y1).bind fun v30 => (if v30 = 0 then (some (0 : Int32)) else ((B_L_isNumber_0 y3).bind fun v32 => (if v32 = 0 then (some (0 : Int32)) else (some (1 : Int32)))))) else (if x0 = (7 : Int32) then ((B_L_isNumber_0 y1).bind fun v35 => (if v35 = 0 then (some (0 : Int32)) else ((B_L_isWithin_0 y3 (1 : Int64) (5 : Int64)).bind fun v37 => (if v37 = 0 then (some (0 : Int32)) else (some (1 : Int32)))))) else (if x0 = (8 : Int32) then ((B_L_isNumber_0 y1).bind fun v40 => (if v40 = 0 then (some (0 : Int32)) else ((B_L_isWithin_0 y3 (1 : Int64) (5 : Int64)).bind fun v42 => (if v42 = 0 then (some (0 : Int32)) else (some (1 : Int32)))))) else (if x0 = (9 : Int32) then ((B_L_isNumber_0 y1).bind fun v45 => (if v45 = 0 then (some (0 : Int32)) else ((B_L_isWithin_0 y3 (0 : Int64) (9 : Int64)).bind fun v47 => (if v47 = 0 then (some (0 : Int32)) else (some (1 : Int32)))))) else (if x0 = (10 : Int32) then ((B_L_isWithin_0 y1 (0 : Int64) (9 : Int64)).bind fun v50 => (if v50 = 0 then (some (0 : Int32)) else ((B_L_isWithin_0 y3 (1 : Int64) (365 : Int64)).bind fun v52 => (if v52 = 0 then (some (0 : Int32)) else (some (1 : Int32)))))) else (some (0 : Int32))))))))))))
def B_R_placeFor_5s (k5 : Int64 → Int32 → Lib → Option Int32) (y1 : Int64) (x3 : Int32) (u : Lib) : Option Int32 := if x3 ≤ 0 then (some x3) else (gd (0 ≤ (x3 - (1 : Int32)).toInt ∧ (x3 - (1 : Int32)).toInt < (200 : Nat)) (if (lg_cmp ((l_dys u) (x3 - (1 : Int32)).toNatClampNeg) y1) ≤ 0 then (some x3) else (k5 y1 (x3 + (-1 : Int32)) u)))
def B_R_placeFor_5 : Nat → Int64 → Int32 → Lib → Option Int32
  | 0, _, _, _ => none
  | fu + 1, y1, x3, u => B_R_placeFor_5s (B_R_placeFor_5 fu) y1 x3 u
def B_R_placeFor_0 (y1 : Int64) (u : Lib) : Option Int32 := B_R_placeFor_5 FU y1 (l_sz u) u
def B_R_insert_0 (x1 : Int32) (x2 : Int32) (x3 : Int32) (y4 : Int64) (u : Lib) : Option (Int32 × Lib) := if (l_sz u) < (200 : Int32) then ((B_R_placeFor_0 y4 u).bind fun v2 => (gd (0 ≤ v2.toInt ∧ 0 ≤ (v2 + (1 : Int32)).toInt ∧ 0 ≤ ((l_sz u) - v2).toInt ∧ v2.toInt + ((l_sz u) - v2).toInt ≤ (200 : Nat) ∧ (v2 + (1 : Int32)).toInt + ((l_sz u) - v2).toInt ≤ (200 : Nat)) ((some (l_srt_w u (va_cpy (l_srt u) (l_srt u) v2.toNatClampNeg (v2 + (1 : Int32)).toNatClampNeg ((l_sz u) - v2).toNatClampNeg))).bind fun u4 => (gd (0 ≤ v2.toInt ∧ 0 ≤ (v2 + (1 : Int32)).toInt ∧ 0 ≤ ((l_sz u) - v2).toInt ∧ v2.toInt + ((l_sz u) - v2).toInt ≤ (200 : Nat) ∧ (v2 + (1 : Int32)).toInt + ((l_sz u) - v2).toInt ≤ (200 : Nat)) ((some (l_fst_w u4 (va_cpy (l_fst u4) (l_fst u4) v2.toNatClampNeg (v2 + (1 : Int32)).toNatClampNeg ((l_sz u) - v2).toNatClampNeg))).bind fun u6 => (gd (0 ≤ v2.toInt ∧ 0 ≤ (v2 + (1 : Int32)).toInt ∧ 0 ≤ ((l_sz u) - v2).toInt ∧ v2.toInt + ((l_sz u) - v2).toInt ≤ (200 : Nat) ∧ (v2 + (1 : Int32)).toInt + ((l_sz u) - v2).toInt ≤ (200 : Nat)) ((some (l_snd_w u6 (va_cpy (l_snd u6) (l_snd u6) v2.toNatClampNeg (v2 + (1 : Int32)).toNatClampNeg ((l_sz u) - v2).toNatClampNeg))).bind fun u8 => (gd (0 ≤ v2.toInt ∧ 0 ≤ (v2 + (1 : Int32)).toInt ∧ 0 ≤ ((l_sz u) - v2).toInt ∧ v2.toInt + ((l_sz u) - v2).toInt ≤ (200 : Nat) ∧ (v2 + (1 : Int32)).toInt + ((l_sz u) - v2).toInt ≤ (200 : Nat)) ((some (l_dys_w u8 (va_cpy (l_dys u8) (l_dys u8) v2.toNatClampNeg (v2 + (1 : Int32)).toNatClampNeg ((l_sz u) - v2).toNatClampNeg))).bind fun u10 => (gd (0 ≤ v2.toInt ∧ v2.toInt < (200 : Nat)) (gd (0 ≤ v2.toInt ∧ v2.toInt < (200 : Nat)) ((some (l_fst_w (l_srt_w u10 (upd (l_srt u10) v2.toNatClampNeg x1)) (upd (l_fst (l_srt_w u10 (upd (l_srt u10) v2.toNatClampNeg x1))) v2.toNatClampNeg x2))).bind fun u13 => (gd (0 ≤ v2.toInt ∧ v2.toInt < (200 : Nat)) (gd (0 ≤ v2.toInt ∧ v2.toInt < (200 : Nat)) ((some (l_dys_w (l_snd_w u13 (upd (l_snd u13) v2.toNatClampNeg x3)) (vp_updL (l_dys (l_snd_w u13 (upd (l_snd u13) v2.toNatClampNeg x3))) v2.toNatClampNeg y4))).bind fun u16 => (some ((1 : Int32), (l_sz_w u16 ((l_sz u16) + (1 : Int32)))))))))))))))))))) else (some ((0 : Int32), u))
def B_R_size_0 (u : Lib) : Option Int32 := some (l_sz u)
def B_L_event_36 (x1 : Int32) (y2 : Int64) (y6 : Int64) (t0 : Int32) (u : Lib) : Option (Int32 × Lib) := (B_R_insert_0 x1 (y2.toInt32) t0 y6 u).bind fun v1 => (if v1.1 = 0 then (some ((0 : Int32), v1.2)) else ((B_R_size_0 v1.2).bind fun v3 => (some (v3, v1.2))))
def B_L_event_0 (x1 : Int32) (y2 : Int64) (y4 : Int64) (y6 : Int64) (u : Lib) : Option (Int32 × Lib) := (B_L_isWithin_0 y6 (0 : Int64) (1000000 : Int64)).bind fun v1 => (if v1 = 0 then (some ((0 : Int32), u)) else ((B_L_isAct_0 x1 y2 y4).bind fun v3 => (if v3 = 0 then (some ((0 : Int32), u)) else (if x1 = (4 : Int32) then (B_L_event_36 x1 y2 y6 (0 : Int32) u) else (B_L_event_36 x1 y2 y6 (y4.toInt32) u)))))
def B_J_fillJ_6s (n : Nat) (k6 : Int64 → Int32 → Int32 → (Nat → Int64) → Option (Nat → Int64)) (y1 : Int64) (x3 : Int32) (x4 : Int32) (u : (Nat → Int64)) : Option (Nat → Int64) := if x4 ≤ x3 then (some u) else (gd (0 ≤ x3.toInt ∧ x3.toInt < (n : Nat)) (k6 y1 (x3 + (1 : Int32)) x4 (vp_updL u x3.toNatClampNeg y1)))
def B_J_fillJ_6 (n : Nat) : Nat → Int64 → Int32 → Int32 → (Nat → Int64) → Option (Nat → Int64)
  | 0, _, _, _, _ => none
  | fu + 1, y1, x3, x4, u => B_J_fillJ_6s n (B_J_fillJ_6 n fu) y1 x3 x4 u
def B_J_fillJ_0 (n : Nat) (y1 : Int64) (u : (Nat → Int64)) : Option (Nat → Int64) := B_J_fillJ_6 n FU y1 (0 : Int32) (nI (n)) u
def B_J_fillI_5s (n : Nat) (k5 : Int32 → Int32 → Int32 → (Nat → Int32) → Option (Nat → Int32)) (x1 : Int32) (x2 : Int32) (x3 : Int32) (u : (Nat → Int32)) : Option (Nat → Int32) := if x3 ≤ x2 then (some u) else (gd (0 ≤ x2.toInt ∧ x2.toInt < (n : Nat)) (k5 x1 (x2 + (1 : Int32)) x3 (upd u x2.toNatClampNeg x1)))
def B_J_fillI_5 (n : Nat) : Nat → Int32 → Int32 → Int32 → (Nat → Int32) → Option (Nat → Int32)
  | 0, _, _, _, _ => none
  | fu + 1, x1, x2, x3, u => B_J_fillI_5s n (B_J_fillI_5 n fu) x1 x2 x3 u
def B_J_fillI_0 (n : Nat) (x1 : Int32) (u : (Nat → Int32)) : Option (Nat → Int32) := B_J_fillI_5 n FU x1 (0 : Int32) (nI (n)) u
def B_S_clear_0 (u : Lib) : Option Lib := (B_J_fillJ_0 42 (0 : Int64) (l_hb u)).bind fun v1 => ((B_J_fillI_0 21 (0 : Int32) (l_rec (l_hb_w u v1))).bind fun v2 => ((B_J_fillI_0 21 (0 : Int32) (l_per (l_rec_w (l_hb_w u v1) v2))).bind fun v3 => ((B_J_fillI_0 21 (0 : Int32) (l_ql (l_per_w (l_rec_w (l_hb_w u v1) v2) v3))).bind fun v4 => ((B_J_fillI_0 21 (0 : Int32) (l_cls (l_ql_w (l_per_w (l_rec_w (l_hb_w u v1) v2) v3) v4))).bind fun v5 => ((B_J_fillI_0 10 (28 : Int32) (l_ln (l_cls_w (l_ql_w (l_per_w (l_rec_w (l_hb_w u v1) v2) v3) v4) v5))).bind fun v6 => ((B_J_fillI_0 126 (-1 : Int32) (l_sm (l_ln_w (l_cls_w (l_ql_w (l_per_w (l_rec_w (l_hb_w u v1) v2) v3) v4) v5) v6))).bind fun v7 => (some (l_sm_w (l_ln_w (l_cls_w (l_ql_w (l_per_w (l_rec_w (l_hb_w u v1) v2) v3) v4) v5) v6) v7))))))))
def B_S_wordIndex_0 (x0 : Int32) (x1 : Int32) : Option Int32 := some ((x0 * (2 : Int32)) + (x1 / (64 : Int32)))
def B_S_bitOf_0 (x0 : Int32) : Option Int64 := some ((1 : Int64) <<< ((x0 - x0 / (64 : Int32) * (64 : Int32)).toInt64 &&& 63))
def B_S_hasHeading_0 (x1 : Int32) (x2 : Int32) (u : Lib) : Option Int32 := (B_S_wordIndex_0 x1 x2).bind fun v1 => (gd (0 ≤ v1.toInt ∧ v1.toInt < (42 : Nat)) ((B_S_bitOf_0 x2).bind fun v3 => (if (lg_cmp (((l_hb u) v1.toNatClampNeg) &&& v3) (0 : Int64)) = 0 then (some (0 : Int32)) else (some (1 : Int32)))))
def B_S_addHeading_0 (x1 : Int32) (x2 : Int32) (u : Lib) : Option (Int32 × Lib) := (B_S_hasHeading_0 x1 x2 u).bind fun v1 => (if v1 = 0 then ((B_S_wordIndex_0 x1 x2).bind fun v3 => (gd (0 ≤ v3.toInt ∧ v3.toInt < (42 : Nat)) ((B_S_bitOf_0 x2).bind fun v5 => (gd (0 ≤ v3.toInt ∧ v3.toInt < (42 : Nat)) (some ((1 : Int32), (l_hb_w u (vp_updL (l_hb u) v3.toNatClampNeg (((l_hb u) v3.toNatClampNeg) ||| v5))))))))) else (some ((0 : Int32), u)))
def B_S_dropHeading_0 (x1 : Int32) (x2 : Int32) (u : Lib) : Option (Int32 × Lib) := (B_S_hasHeading_0 x1 x2 u).bind fun v1 => (if v1 = 0 then (some ((0 : Int32), u)) else ((B_S_wordIndex_0 x1 x2).bind fun v3 => (gd (0 ≤ v3.toInt ∧ v3.toInt < (42 : Nat)) ((B_S_bitOf_0 x2).bind fun v5 => (gd (0 ≤ v3.toInt ∧ v3.toInt < (42 : Nat)) (some ((1 : Int32), (l_hb_w u (vp_updL (l_hb u) v3.toNatClampNeg (((l_hb u) v3.toNatClampNeg) &&& (v5 ^^^ (-1 : Int64))))))))))))
def B_S_setRecord_0 (x1 : Int32) (x2 : Int32) (u : Lib) : Option (Int32 × Lib) := gd (0 ≤ x1.toInt ∧ x1.toInt < (21 : Nat)) (if ((l_per u) x1.toNatClampNeg) = 0 then (gd (0 ≤ x1.toInt ∧ x1.toInt < (21 : Nat)) (some ((1 : Int32), (l_rec_w u (upd (l_rec u) x1.toNatClampNeg x2))))) else (some ((0 : Int32), u)))
def B_S_personAt_0 (x1 : Int32) (x2 : Int32) (u : Lib) : Option Int32 := if x2 < 0 then (some (-1 : Int32)) else (gd (0 ≤ x1.toInt ∧ x1.toInt < (21 : Nat)) (if ((l_ql u) x1.toNatClampNeg) ≤ x2 then (some (-1 : Int32)) else (gd (0 ≤ ((x1 * (20 : Int32)) + x2).toInt ∧ ((x1 * (20 : Int32)) + x2).toInt < (420 : Nat)) (some ((l_qd u) ((x1 * (20 : Int32)) + x2).toNatClampNeg)))))
def B_S_placeInQueue_2s (k2 : Int32 → Int32 → Int32 → Lib → Option Int32) (x1 : Int32) (x2 : Int32) (x3 : Int32) (u : Lib) : Option Int32 := gd (0 ≤ x1.toInt ∧ x1.toInt < (21 : Nat)) (if ((l_ql u) x1.toNatClampNeg) ≤ x3 then (some (-1 : Int32)) else (gd (0 ≤ ((x1 * (20 : Int32)) + x3).toInt ∧ ((x1 * (20 : Int32)) + x3).toInt < (420 : Nat)) (if ((l_qd u) ((x1 * (20 : Int32)) + x3).toNatClampNeg) = x2 then (some x3) else (k2 x1 x2 (x3 + (1 : Int32)) u))))
def B_S_placeInQueue_2 : Nat → Int32 → Int32 → Int32 → Lib → Option Int32
  | 0, _, _, _, _ => none
  | fu + 1, x1, x2, x3, u => B_S_placeInQueue_2s (B_S_placeInQueue_2 fu) x1 x2 x3 u
def B_S_placeInQueue_0 (x1 : Int32) (x2 : Int32) (u : Lib) : Option Int32 := B_S_placeInQueue_2 FU x1 x2 (0 : Int32) u
def B_S_leaveQueue_0 (x1 : Int32) (x2 : Int32) (u : Lib) : Option (Int32 × Lib) := (B_S_placeInQueue_0 x1 x2 u).bind fun v1 => (if v1 = (-1 : Int32) then (some ((0 : Int32), u)) else (gd (0 ≤ x1.toInt ∧ x1.toInt < (21 : Nat)) (gd (0 ≤ (((x1 * (20 : Int32)) + v1) + (1 : Int32)).toInt ∧ 0 ≤ ((x1 * (20 : Int32)) + v1).toInt ∧ 0 ≤ ((((l_ql u) x1.toNatClampNeg) - v1) - (1 : Int32)).toInt ∧ (((x1 * (20 : Int32)) + v1) + (1 : Int32)).toInt + ((((l_ql u) x1.toNatClampNeg) - v1) - (1 : Int32)).toInt ≤ (420 : Nat) ∧ ((x1 * (20 : Int32)) + v1).toInt + ((((l_ql u) x1.toNatClampNeg) - v1) - (1 : Int32)).toInt ≤ (420 : Nat)) ((some (l_qd_w u (va_cpy (l_qd u) (l_qd u) (((x1 * (20 : Int32)) + v1) + (1 : Int32)).toNatClampNeg ((x1 * (20 : Int32)) + v1).toNatClampNeg ((((l_ql u) x1.toNatClampNeg) - v1) - (1 : Int32)).toNatClampNeg))).bind fun u5 => (gd (0 ≤ x1.toInt ∧ x1.toInt < (21 : Nat)) (gd (0 ≤ x1.toInt ∧ x1.toInt < (21 : Nat)) (some ((1 : Int32), (l_ql_w u5 (upd (l_ql u5) x1.toNatClampNeg (((l_ql u5) x1.toNatClampNeg) - (1 : Int32))))))))))))
def B_S_lend_47 (x1 : Int32) (x2 : Int32) (y3 : Int64) (x5 : Int32) (u : Lib) : Option (Int32 × Lib) := (B_S_leaveQueue_0 x5 x2 u).bind fun v1 => (gd (0 ≤ x1.toInt ∧ x1.toInt < (21 : Nat)) (gd (0 ≤ x5.toInt ∧ x5.toInt < (21 : Nat)) (gd (0 ≤ ((l_cls (l_per_w v1.2 (upd (l_per v1.2) x1.toNatClampNeg x2))) x5.toNatClampNeg).toInt ∧ ((l_cls (l_per_w v1.2 (upd (l_per v1.2) x1.toNatClampNeg x2))) x5.toNatClampNeg).toInt < (10 : Nat)) (gd (0 ≤ x1.toInt ∧ x1.toInt < (21 : Nat)) ((some (l_due_w (l_per_w v1.2 (upd (l_per v1.2) x1.toNatClampNeg x2)) (vp_updL (l_due (l_per_w v1.2 (upd (l_per v1.2) x1.toNatClampNeg x2))) x1.toNatClampNeg (y3 + (((l_ln (l_per_w v1.2 (upd (l_per v1.2) x1.toNatClampNeg x2))) ((l_cls (l_per_w v1.2 (upd (l_per v1.2) x1.toNatClampNeg x2))) x5.toNatClampNeg).toNatClampNeg).toInt64))))).bind fun u6 => (some ((1 : Int32), u6)))))))
def B_S_lend_0 (x1 : Int32) (x2 : Int32) (y3 : Int64) (u : Lib) : Option (Int32 × Lib) := gd (0 ≤ x1.toInt ∧ x1.toInt < (21 : Nat)) (if ((l_rec u) x1.toNatClampNeg) = 0 then (some ((0 : Int32), u)) else (gd (0 ≤ x1.toInt ∧ x1.toInt < (21 : Nat)) (if ((l_per u) x1.toNatClampNeg) = 0 then ((B_S_personAt_0 ((l_rec u) x1.toNatClampNeg) (0 : Int32) u).bind fun v5 => (if v5 = (-1 : Int32) then (B_S_lend_47 x1 x2 y3 ((l_rec u) x1.toNatClampNeg) u) else (if v5 = x2 then (B_S_lend_47 x1 x2 y3 ((l_rec u) x1.toNatClampNeg) u) else (some ((0 : Int32), u))))) else (some ((0 : Int32), u)))))
def B_S_giveBack_0 (x1 : Int32) (u : Lib) : Option (Int32 × Lib) := gd (0 ≤ x1.toInt ∧ x1.toInt < (21 : Nat)) (if ((l_per u) x1.toNatClampNeg) = 0 then (some ((0 : Int32), u)) else (gd (0 ≤ x1.toInt ∧ x1.toInt < (21 : Nat)) (some ((1 : Int32), (l_per_w u (upd (l_per u) x1.toNatClampNeg (0 : Int32)))))))
def B_S_joinQueue_0 (x1 : Int32) (x2 : Int32) (u : Lib) : Option (Int32 × Lib) := gd (0 ≤ x1.toInt ∧ x1.toInt < (21 : Nat)) (if (20 : Int32) ≤ ((l_ql u) x1.toNatClampNeg) then (some ((0 : Int32), u)) else ((B_S_placeInQueue_0 x1 x2 u).bind fun v3 => (if v3 = (-1 : Int32) then (gd (0 ≤ ((x1 * (20 : Int32)) + ((l_ql u) x1.toNatClampNeg)).toInt ∧ ((x1 * (20 : Int32)) + ((l_ql u) x1.toNatClampNeg)).toInt < (420 : Nat)) (gd (0 ≤ x1.toInt ∧ x1.toInt < (21 : Nat)) ((some (l_ql_w (l_qd_w u (upd (l_qd u) ((x1 * (20 : Int32)) + ((l_ql u) x1.toNatClampNeg)).toNatClampNeg x2)) (upd (l_ql (l_qd_w u (upd (l_qd u) ((x1 * (20 : Int32)) + ((l_ql u) x1.toNatClampNeg)).toNatClampNeg x2))) x1.toNatClampNeg (((l_ql u) x1.toNatClampNeg) + (1 : Int32))))).bind fun u7 => (some ((1 : Int32), u7))))) else (some ((0 : Int32), u)))))
def B_S_sumIndex_0 (x0 : Int32) (x1 : Int32) : Option Int32 := some ((x0 * (6 : Int32)) + x1)
def B_S_loseFile_0 (x1 : Int32) (x2 : Int32) (u : Lib) : Option (Int32 × Lib) := (B_S_sumIndex_0 x1 x2).bind fun v1 => (gd (0 ≤ v1.toInt ∧ v1.toInt < (126 : Nat)) (if ((l_sm u) v1.toNatClampNeg) = (-1 : Int32) then (some ((0 : Int32), u)) else (gd (0 ≤ v1.toInt ∧ v1.toInt < (126 : Nat)) (some ((1 : Int32), (l_sm_w u (upd (l_sm u) v1.toNatClampNeg (-1 : Int32))))))))
def B_S_perform_0 (x1 : Int32) (x2 : Int32) (x3 : Int32) (y4 : Int64) (u : Lib) : Option (Int32 × Lib) := if x1 = (0 : Int32) then ((B_S_addHeading_0 x2 x3 u).bind fun v2 => (gd (v2.1 = 0 ∨ v2.1 = 1) (some (v2.1, v2.2)))) else (if x1 = (1 : Int32) then ((B_S_dropHeading_0 x2 x3 u).bind fun v5 => (gd (v5.1 = 0 ∨ v5.1 = 1) (some (v5.1, v5.2)))) else (if x1 = (2 : Int32) then ((B_S_setRecord_0 x2 x3 u).bind fun v8 => (gd (v8.1 = 0 ∨ v8.1 = 1) (some (v8.1, v8.2)))) else (if x1 = (3 : Int32) then ((B_S_lend_0 x2 x3 y4 u).bind fun v11 => (gd (v11.1 = 0 ∨ v11.1 = 1) (some (v11.1, v11.2)))) else (if x1 = (4 : Int32) then ((B_S_giveBack_0 x2 u).bind fun v14 => (gd (v14.1 = 0 ∨ v14.1 = 1) (some (v14.1, v14.2)))) else (if x1 = (5 : Int32) then ((B_S_joinQueue_0 x2 x3 u).bind fun v17 => (gd (v17.1 = 0 ∨ v17.1 = 1) (some (v17.1, v17.2)))) else (if x1 = (6 : Int32) then ((B_S_leaveQueue_0 x2 x3 u).bind fun v20 => (gd (v20.1 = 0 ∨ v20.1 = 1) (some (v20.1, v20.2)))) else (if x1 = (7 : Int32) then ((B_S_sumIndex_0 x2 x3).bind fun v23 => (gd (0 ≤ v23.toInt ∧ v23.toInt < (126 : Nat)) (some ((1 : Int32), (l_sm_w u (upd (l_sm u) v23.toNatClampNeg ((y4 - y4 / (7 : Int64) * (7 : Int64)).toInt32))))))) else (if x1 = (8 : Int32) then ((B_S_loseFile_0 x2 x3 u).bind fun v26 => (gd (v26.1 = 0 ∨ v26.1 = 1) (some (v26.1, v26.2)))) else (if x1 = (9 : Int32) then (gd (0 ≤ x2.toInt ∧ x2.toInt < (21 : Nat)) (some ((1 : Int32), (l_cls_w u (upd (l_cls u) x2.toNatClampNeg x3))))) else (if x1 = (10 : Int32) then (gd (0 ≤ x2.toInt ∧ x2.toInt < (10 : Nat)) (some ((1 : Int32), (l_ln_w u (upd (l_ln u) x2.toNatClampNeg x3))))) else (some ((0 : Int32), u))))))))))))
def B_R_perform_0 (x1 : Int32) (u : Lib) : Option (Int32 × Lib) := gd (0 ≤ x1.toInt ∧ x1.toInt < (200 : Nat)) (gd (0 ≤ x1.toInt ∧ x1.toInt < (200 : Nat)) (gd (0 ≤ x1.toInt ∧ x1.toInt < (200 : Nat)) (gd (0 ≤ x1.toInt ∧ x1.toInt < (200 : Nat)) ((B_S_perform_0 ((l_srt u) x1.toNatClampNeg) ((l_fst u) x1.toNatClampNeg) ((l_snd u) x1.toNatClampNeg) ((l_dys u) x1.toNatClampNeg) u).bind fun v5 => (gd (v5.1 = 0 ∨ v5.1 = 1) (some (v5.1, v5.2)))))))
def B_L_counts_26s (k26 : Int32 → Int32 → Lib → Option (Int32 × Lib)) (x1 : Int32) (x2 : Int32) (u : Lib) : Option (Int32 × Lib) := if x1 ≤ x2 then ((B_R_perform_0 x1 u).bind fun v2 => (if v2.1 = 0 then (some ((0 : Int32), v2.2)) else (some ((1 : Int32), v2.2)))) else ((B_R_perform_0 x2 u).bind fun v4 => (k26 x1 (x2 + (1 : Int32)) v4.2))
def B_L_counts_26 : Nat → Int32 → Int32 → Lib → Option (Int32 × Lib)
  | 0, _, _, _ => none
  | fu + 1, x1, x2, u => B_L_counts_26s (B_L_counts_26 fu) x1 x2 u
def B_L_counts_0 (x1 : Int32) (u : Lib) : Option (Int32 × Lib) := if x1 < 0 then (some ((-1 : Int32), u)) else ((B_R_size_0 u).bind fun v2 => (if x1 < v2 then ((B_S_clear_0 u).bind fun v4 => (B_L_counts_26 FU x1 (0 : Int32) v4)) else (some ((-1 : Int32), u))))
def B_L_events_0 (u : Lib) : Option Int32 := (B_R_size_0 u).bind fun v1 => (some v1)
def B_L_refused_40 (k11 : Int32 → Int32 → Lib → Option (Int32 × Lib)) (x1 : Int32) (x2 : Int32) (u : Lib) : Option (Int32 × Lib) := k11 x1 (x2 + (1 : Int32)) u
def B_L_refused_11s (k11 : Int32 → Int32 → Lib → Option (Int32 × Lib)) (x1 : Int32) (x2 : Int32) (u : Lib) : Option (Int32 × Lib) := (B_R_size_0 u).bind fun v1 => (if v1 ≤ x2 then (some (x1, u)) else ((B_R_perform_0 x2 u).bind fun v3 => (if v3.1 = 0 then (B_L_refused_40 k11 (x1 + (1 : Int32)) x2 v3.2) else (B_L_refused_40 k11 x1 x2 v3.2))))
def B_L_refused_11 : Nat → Int32 → Int32 → Lib → Option (Int32 × Lib)
  | 0, _, _, _ => none
  | fu + 1, x1, x2, u => B_L_refused_11s (B_L_refused_11 fu) x1 x2 u
def B_L_refused_0 (u : Lib) : Option (Int32 × Lib) := (B_S_clear_0 u).bind fun v1 => (B_L_refused_11 FU (0 : Int32) (0 : Int32) v1)
def B_R_dayOf_0 (x1 : Int32) (u : Lib) : Option Int64 := gd (0 ≤ x1.toInt ∧ x1.toInt < (200 : Nat)) (some ((l_dys u) x1.toNatClampNeg))
def B_L_performUpTo_9s (k9 : Int64 → Int32 → Lib → Option Lib) (y1 : Int64) (x3 : Int32) (u : Lib) : Option Lib := (B_R_size_0 u).bind fun v1 => (if v1 ≤ x3 then (some u) else ((B_R_dayOf_0 x3 u).bind fun v3 => (if 0 < (lg_cmp v3 y1) then (some u) else ((B_R_perform_0 x3 u).bind fun v5 => (k9 y1 (x3 + (1 : Int32)) v5.2)))))
def B_L_performUpTo_9 : Nat → Int64 → Int32 → Lib → Option Lib
  | 0, _, _, _ => none
  | fu + 1, y1, x3, u => B_L_performUpTo_9s (B_L_performUpTo_9 fu) y1 x3 u
def B_L_performUpTo_0 (y1 : Int64) (u : Lib) : Option Lib := (B_S_clear_0 u).bind fun v1 => (B_L_performUpTo_9 FU y1 (0 : Int32) v1)
def B_S_recordOf_0 (x1 : Int32) (u : Lib) : Option Int32 := gd (0 ≤ x1.toInt ∧ x1.toInt < (21 : Nat)) (some ((l_rec u) x1.toNatClampNeg))
def B_S_personWith_0 (x1 : Int32) (u : Lib) : Option Int32 := gd (0 ≤ x1.toInt ∧ x1.toInt < (21 : Nat)) (some ((l_per u) x1.toNatClampNeg))
def B_S_classOf_0 (x1 : Int32) (u : Lib) : Option Int32 := gd (0 ≤ x1.toInt ∧ x1.toInt < (21 : Nat)) (some ((l_cls u) x1.toNatClampNeg))
def B_S_copiesThereOf_32 (k4 : Int32 → Int32 → Int32 → Lib → Option Int32) (x1 : Int32) (x2 : Int32) (x3 : Int32) (u : Lib) : Option Int32 := k4 x1 x2 (x3 + (1 : Int32)) u
def B_S_copiesThereOf_4s (k4 : Int32 → Int32 → Int32 → Lib → Option Int32) (x1 : Int32) (x2 : Int32) (x3 : Int32) (u : Lib) : Option Int32 := if (20 : Int32) < x3 then (some x2) else (gd (0 ≤ x3.toInt ∧ x3.toInt < (21 : Nat)) (if ((l_rec u) x3.toNatClampNeg) = x1 then (gd (0 ≤ x3.toInt ∧ x3.toInt < (21 : Nat)) (if ((l_per u) x3.toNatClampNeg) = 0 then (B_S_copiesThereOf_32 k4 x1 (x2 + (1 : Int32)) x3 u) else (B_S_copiesThereOf_32 k4 x1 x2 x3 u))) else (B_S_copiesThereOf_32 k4 x1 x2 x3 u)))
def B_S_copiesThereOf_4 : Nat → Int32 → Int32 → Int32 → Lib → Option Int32
  | 0, _, _, _, _ => none
  | fu + 1, x1, x2, x3, u => B_S_copiesThereOf_4s (B_S_copiesThereOf_4 fu) x1 x2 x3 u
def B_S_copiesThereOf_0 (x1 : Int32) (u : Lib) : Option Int32 := B_S_copiesThereOf_4 FU x1 (0 : Int32) (1 : Int32) u
def B_L_state_0 (x1 : Int32) (x2 : Int32) (y3 : Int64) (u : Lib) : Option (Int32 × Lib) := (B_L_isNumber_0 (x2.toInt64)).bind fun v1 => (if v1 = 0 then (some ((-1 : Int32), u)) else ((B_L_performUpTo_0 y3 u).bind fun v3 => (if x1 = (0 : Int32) then ((B_S_recordOf_0 x2 v3).bind fun v5 => (some (v5, v3))) else (if x1 = (1 : Int32) then ((B_S_personWith_0 x2 v3).bind fun v7 => (some (v7, v3))) else (if x1 = (2 : Int32) then ((B_S_classOf_0 x2 v3).bind fun v9 => (some (v9, v3))) else (if x1 = (3 : Int32) then ((B_S_copiesThereOf_0 x2 v3).bind fun v11 => (some (v11, v3))) else (some ((-1 : Int32), v3))))))))
def B_L_performAll_0 (u : Lib) : Option Lib := (B_L_performUpTo_0 (1000000 : Int64) u).bind fun v1 => (some v1)
def B_S_headingAt_33 (k5 : Int32 → Int32 → Int32 → Int32 → Lib → Option Int32) (x1 : Int32) (x2 : Int32) (x3 : Int32) (x4 : Int32) (u : Lib) : Option Int32 := k5 x1 x2 x3 (x4 + (1 : Int32)) u
def B_S_headingAt_5s (k5 : Int32 → Int32 → Int32 → Int32 → Lib → Option Int32) (x1 : Int32) (x2 : Int32) (x3 : Int32) (x4 : Int32) (u : Lib) : Option Int32 := if (99 : Int32) < x4 then (some (-1 : Int32)) else ((B_S_hasHeading_0 x1 x4 u).bind fun v2 => (if v2 = 0 then (B_S_headingAt_33 k5 x1 x2 x3 x4 u) else (if x3 = x2 then (some x4) else (B_S_headingAt_33 k5 x1 x2 (x3 + (1 : Int32)) x4 u))))
def B_S_headingAt_5 : Nat → Int32 → Int32 → Int32 → Int32 → Lib → Option Int32
  | 0, _, _, _, _, _ => none
  | fu + 1, x1, x2, x3, x4, u => B_S_headingAt_5s (B_S_headingAt_5 fu) x1 x2 x3 x4 u
def B_S_headingAt_0 (x1 : Int32) (x2 : Int32) (u : Lib) : Option Int32 := B_S_headingAt_5 FU x1 x2 (0 : Int32) (1 : Int32) u
def B_L_heading_0 (x1 : Int32) (x2 : Int32) (u : Lib) : Option (Int32 × Lib) := (B_L_isNumber_0 (x1.toInt64)).bind fun v1 => (if v1 = 0 then (some ((-1 : Int32), u)) else (if 0 ≤ x2 then ((B_L_performAll_0 u).bind fun v4 => ((B_S_headingAt_0 x1 x2 v4).bind fun v5 => (some (v5, v4)))) else (some ((-1 : Int32), u))))
def B_L_question_87 (k37 : Int32 → Int32 → Int32 → Lib → Option (Int32 × Lib)) (x1 : Int32) (x2 : Int32) (x3 : Int32) (u : Lib) : Option (Int32 × Lib) := k37 x1 x2 (x3 + (1 : Int32)) u
def B_L_question_37s (k37 : Int32 → Int32 → Int32 → Lib → Option (Int32 × Lib)) (x1 : Int32) (x2 : Int32) (x3 : Int32) (u : Lib) : Option (Int32 × Lib) := if (20 : Int32) < x3 then (some ((l_hc u), u)) else ((B_S_hasHeading_0 x3 x1 u).bind fun v2 => (if v2 = 0 then (B_L_question_87 k37 x1 x2 x3 u) else ((B_S_hasHeading_0 x3 x2 u).bind fun v4 => (if v4 = 0 then (gd (0 ≤ (l_hc u).toInt ∧ (l_hc u).toInt < (20 : Nat)) ((some (l_hc_w (l_hit_w u (upd (l_hit u) (l_hc u).toNatClampNeg x3)) ((l_hc (l_hit_w u (upd (l_hit u) (l_hc u).toNatClampNeg x3))) + (1 : Int32)))).bind fun u7 => (B_L_question_87 k37 x1 x2 x3 u7))) else (B_L_question_87 k37 x1 x2 x3 u)))))
def B_L_question_37 : Nat → Int32 → Int32 → Int32 → Lib → Option (Int32 × Lib)
  | 0, _, _, _, _ => none
  | fu + 1, x1, x2, x3, u => B_L_question_37s (B_L_question_37 fu) x1 x2 x3 u
def B_L_question_0 (x1 : Int32) (x2 : Int32) (u : Lib) : Option (Int32 × Lib) := (B_L_isWithin_0 (x1.toInt64) (1 : Int64) (99 : Int64)).bind fun v1 => (if v1 = 0 then (some ((-1 : Int32), u)) else ((B_L_isWithin_0 (x2.toInt64) (0 : Int64) (99 : Int64)).bind fun v3 => (if v3 = 0 then (some ((-1 : Int32), u)) else ((B_L_performAll_0 u).bind fun v5 => (B_L_question_37 FU x1 x2 (1 : Int32) (l_hc_w v5 (0 : Int32)))))))
def B_L_hit_0 (x1 : Int32) (u : Lib) : Option Int32 := if x1 < 0 then (some (-1 : Int32)) else (if (l_hc u) ≤ x1 then (some (-1 : Int32)) else (gd (0 ≤ x1.toInt ∧ x1.toInt < (20 : Nat)) (some ((l_hit u) x1.toNatClampNeg))))
def B_S_dueDayOf_0 (x1 : Int32) (u : Lib) : Option Int64 := gd (0 ≤ x1.toInt ∧ x1.toInt < (21 : Nat)) (if ((l_per u) x1.toNatClampNeg) = 0 then (some (-1 : Int64)) else (gd (0 ≤ x1.toInt ∧ x1.toInt < (21 : Nat)) (some ((l_due u) x1.toNatClampNeg))))
def B_L_due_0 (x1 : Int32) (u : Lib) : Option (Int64 × Lib) := (B_L_isNumber_0 (x1.toInt64)).bind fun v1 => (if v1 = 0 then (some ((-1 : Int64), u)) else ((B_L_performAll_0 u).bind fun v3 => ((B_S_dueDayOf_0 x1 v3).bind fun v4 => (some (v4, v3)))))
def B_L_queue_0 (x1 : Int32) (x2 : Int32) (u : Lib) : Option (Int32 × Lib) := (B_L_isNumber_0 (x1.toInt64)).bind fun v1 => (if v1 = 0 then (some ((-1 : Int32), u)) else (if 0 ≤ x2 then ((B_L_performAll_0 u).bind fun v4 => ((B_S_personAt_0 x1 x2 v4).bind fun v5 => (some (v5, v4)))) else (some ((-1 : Int32), u))))
def B_S_storesWith_29 (k5 : Int32 → Int32 → Int32 → Int32 → Lib → Option Int32) (x1 : Int32) (x2 : Int32) (x3 : Int32) (x4 : Int32) (u : Lib) : Option Int32 := k5 x1 x2 x3 (x4 + (1 : Int32)) u
def B_S_storesWith_5s (k5 : Int32 → Int32 → Int32 → Int32 → Lib → Option Int32) (x1 : Int32) (x2 : Int32) (x3 : Int32) (x4 : Int32) (u : Lib) : Option Int32 := if (5 : Int32) < x4 then (some x3) else ((B_S_sumIndex_0 x1 x4).bind fun v2 => (gd (0 ≤ v2.toInt ∧ v2.toInt < (126 : Nat)) (if ((l_sm u) v2.toNatClampNeg) = x2 then (B_S_storesWith_29 k5 x1 x2 (x3 + (1 : Int32)) x4 u) else (B_S_storesWith_29 k5 x1 x2 x3 x4 u))))
def B_S_storesWith_5 : Nat → Int32 → Int32 → Int32 → Int32 → Lib → Option Int32
  | 0, _, _, _, _, _ => none
  | fu + 1, x1, x2, x3, x4, u => B_S_storesWith_5s (B_S_storesWith_5 fu) x1 x2 x3 x4 u
def B_S_storesWith_0 (x1 : Int32) (x2 : Int32) (u : Lib) : Option Int32 := B_S_storesWith_5 FU x1 x2 (0 : Int32) (1 : Int32) u
def B_S_commonSumOf_33s (k33 : Int32 → Int32 → Int32 → Lib → Option Int32) (x1 : Int32) (x2 : Int32) (x3 : Int32) (u : Lib) : Option Int32 := if (7 : Int32) ≤ x3 then (some (7 : Int32)) else ((B_S_storesWith_0 x1 x3 u).bind fun v2 => (if ((2 : Int32) * v2) ≤ x2 then (k33 x1 x2 (x3 + (1 : Int32)) u) else (some x3)))
def B_S_commonSumOf_33 : Nat → Int32 → Int32 → Int32 → Lib → Option Int32
  | 0, _, _, _, _ => none
  | fu + 1, x1, x2, x3, u => B_S_commonSumOf_33s (B_S_commonSumOf_33 fu) x1 x2 x3 u
def B_S_commonSumOf_4s (k4 : Int32 → Int32 → Int32 → Lib → Option Int32) (x1 : Int32) (x2 : Int32) (x3 : Int32) (u : Lib) : Option Int32 := if (7 : Int32) ≤ x3 then (if x2 = 0 then (some (-1 : Int32)) else (B_S_commonSumOf_33 FU x1 x2 (0 : Int32) u)) else ((B_S_storesWith_0 x1 x3 u).bind fun v3 => (k4 x1 (x2 + v3) (x3 + (1 : Int32)) u))
def B_S_commonSumOf_4 : Nat → Int32 → Int32 → Int32 → Lib → Option Int32
  | 0, _, _, _, _ => none
  | fu + 1, x1, x2, x3, u => B_S_commonSumOf_4s (B_S_commonSumOf_4 fu) x1 x2 x3 u
def B_S_commonSumOf_0 (x1 : Int32) (u : Lib) : Option Int32 := B_S_commonSumOf_4 FU x1 (0 : Int32) (0 : Int32) u
def B_L_poll_0 (x1 : Int32) (u : Lib) : Option (Int32 × Lib) := (B_L_isNumber_0 (x1.toInt64)).bind fun v1 => (if v1 = 0 then (some ((-1 : Int32), u)) else ((B_L_performAll_0 u).bind fun v3 => ((B_S_commonSumOf_0 x1 v3).bind fun v4 => (some (v4, v3)))))
def B_R_copyGivenBackBy_0 (x1 : Int32) (u : Lib) : Option Int32 := gd (0 ≤ x1.toInt ∧ x1.toInt < (200 : Nat)) (if ((l_srt u) x1.toNatClampNeg) = (4 : Int32) then (gd (0 ≤ x1.toInt ∧ x1.toInt < (200 : Nat)) (some ((l_fst u) x1.toNatClampNeg))) else (some (-1 : Int32)))
def B_L_kept_131 (k27 : Int32 → Int32 → Int64 → Int32 → Int32 → Int32 → Lib → Option (Int32 × Lib)) (x1 : Int32) (x2 : Int32) (y3 : Int64) (x5 : Int32) (x6 : Int32) (x7 : Int32) (u : Lib) : Option (Int32 × Lib) := k27 x1 x2 y3 x5 x6 (x7 + (1 : Int32)) u
def B_L_kept_74 (k27 : Int32 → Int32 → Int64 → Int32 → Int32 → Int32 → Lib → Option (Int32 × Lib)) (x1 : Int32) (x2 : Int32) (y3 : Int64) (x5 : Int32) (x6 : Int32) (x7 : Int32) (x8 : Int32) (t0 : Int32) (u : Lib) : Option (Int32 × Lib) := (B_R_perform_0 x7 u).bind fun v1 => (if t0 = 0 then (B_L_kept_131 k27 x1 x2 y3 x5 x6 x7 v1.2) else (if v1.1 = 0 then (B_L_kept_131 k27 x1 x2 y3 x5 x6 x7 v1.2) else ((B_R_dayOf_0 x7 v1.2).bind fun v4 => (if (lg_cmp (v4 + (x5.toInt64)) y3) < 0 then (B_L_kept_131 k27 x1 x2 y3 x5 x6 x7 v1.2) else (if x6 = x2 then (some (x8, v1.2)) else (B_L_kept_131 k27 x1 x2 y3 x5 (x6 + (1 : Int32)) x7 v1.2))))))
def B_L_kept_73 (k27 : Int32 → Int32 → Int64 → Int32 → Int32 → Int32 → Lib → Option (Int32 × Lib)) (x1 : Int32) (x2 : Int32) (y3 : Int64) (x5 : Int32) (x6 : Int32) (x7 : Int32) (x8 : Int32) (u : Lib) : Option (Int32 × Lib) := B_L_kept_74 k27 x1 x2 y3 x5 x6 x7 x8 (0 : Int32) u
def B_L_kept_27s (k27 : Int32 → Int32 → Int64 → Int32 → Int32 → Int32 → Lib → Option (Int32 × Lib)) (x1 : Int32) (x2 : Int32) (y3 : Int64) (x5 : Int32) (x6 : Int32) (x7 : Int32) (u : Lib) : Option (Int32 × Lib) := (B_R_size_0 u).bind fun v1 => (if v1 ≤ x7 then (some ((-1 : Int32), u)) else ((B_R_copyGivenBackBy_0 x7 u).bind fun v3 => (if v3 = (-1 : Int32) then (B_L_kept_73 k27 x1 x2 y3 x5 x6 x7 v3 u) else ((B_S_personWith_0 v3 u).bind fun v5 => (if v5 = x1 then (B_L_kept_74 k27 x1 x2 y3 x5 x6 x7 v3 (1 : Int32) u) else (B_L_kept_73 k27 x1 x2 y3 x5 x6 x7 v3 u))))))
def B_L_kept_27 : Nat → Int32 → Int32 → Int64 → Int32 → Int32 → Int32 → Lib → Option (Int32 × Lib)
  | 0, _, _, _, _, _, _, _ => none
  | fu + 1, x1, x2, y3, x5, x6, x7, u => B_L_kept_27s (B_L_kept_27 fu) x1 x2 y3 x5 x6 x7 u
def B_L_kept_0 (x1 : Int32) (x2 : Int32) (y3 : Int64) (x5 : Int32) (u : Lib) : Option (Int32 × Lib) := (B_L_isNumber_0 (x1.toInt64)).bind fun v1 => (if v1 = 0 then (some ((-1 : Int32), u)) else (if 0 ≤ x2 then ((B_S_clear_0 u).bind fun v4 => (B_L_kept_27 FU x1 x2 y3 x5 (0 : Int32) (0 : Int32) v4)) else (some ((-1 : Int32), u))))
def B_S_copiesWith_23 (k4 : Int32 → Int32 → Int32 → Lib → Option Int32) (x1 : Int32) (x2 : Int32) (x3 : Int32) (u : Lib) : Option Int32 := k4 x1 x2 (x3 + (1 : Int32)) u
def B_S_copiesWith_4s (k4 : Int32 → Int32 → Int32 → Lib → Option Int32) (x1 : Int32) (x2 : Int32) (x3 : Int32) (u : Lib) : Option Int32 := if (20 : Int32) < x3 then (some x2) else (gd (0 ≤ x3.toInt ∧ x3.toInt < (21 : Nat)) (if ((l_per u) x3.toNatClampNeg) = x1 then (B_S_copiesWith_23 k4 x1 (x2 + (1 : Int32)) x3 u) else (B_S_copiesWith_23 k4 x1 x2 x3 u)))
def B_S_copiesWith_4 : Nat → Int32 → Int32 → Int32 → Lib → Option Int32
  | 0, _, _, _, _ => none
  | fu + 1, x1, x2, x3, u => B_S_copiesWith_4s (B_S_copiesWith_4 fu) x1 x2 x3 u
def B_S_copiesWith_0 (x1 : Int32) (u : Lib) : Option Int32 := B_S_copiesWith_4 FU x1 (0 : Int32) (1 : Int32) u
def B_L_most_36s (k36 : Int32 → Int32 → Int32 → Lib → Option (Int32 × Lib)) (x1 : Int32) (x2 : Int32) (x3 : Int32) (u : Lib) : Option (Int32 × Lib) := (B_R_size_0 u).bind fun v1 => (if v1 ≤ x3 then (some (x2, u)) else ((B_R_perform_0 x3 u).bind fun v3 => ((B_S_copiesWith_0 x1 v3.2).bind fun v4 => (k36 x1 (if x2 < v4 then v4 else x2) (x3 + (1 : Int32)) v3.2))))
def B_L_most_36 : Nat → Int32 → Int32 → Int32 → Lib → Option (Int32 × Lib)
  | 0, _, _, _, _ => none
  | fu + 1, x1, x2, x3, u => B_L_most_36s (B_L_most_36 fu) x1 x2 x3 u
def B_L_most_0 (x1 : Int32) (u : Lib) : Option (Int32 × Lib) := (B_L_isNumber_0 (x1.toInt64)).bind fun v1 => (if v1 = 0 then (some ((-1 : Int32), u)) else ((B_R_size_0 u).bind fun v3 => (if v3 ≤ (100 : Int32) then ((B_S_clear_0 u).bind fun v5 => (B_L_most_36 FU x1 (0 : Int32) (0 : Int32) v5)) else (some ((-9 : Int32), u)))))
def B_L_firstVoidWithout_47 (k9 : Int32 → Int32 → Int32 → Lib → Option (Int32 × Lib)) (x1 : Int32) (x2 : Int32) (x3 : Int32) (u : Lib) : Option (Int32 × Lib) := k9 x1 x2 (x3 + (1 : Int32)) u
def B_L_firstVoidWithout_9s (k9 : Int32 → Int32 → Int32 → Lib → Option (Int32 × Lib)) (x1 : Int32) (x2 : Int32) (x3 : Int32) (u : Lib) : Option (Int32 × Lib) := (B_R_size_0 u).bind fun v1 => (if v1 ≤ x3 then (some ((-1 : Int32), u)) else (if x3 = x1 then (B_L_firstVoidWithout_47 k9 x1 x2 x3 u) else (if x3 = x2 then (B_L_firstVoidWithout_47 k9 x1 x2 x3 u) else ((B_R_perform_0 x3 u).bind fun v5 => (if v5.1 = 0 then (some (x3, v5.2)) else (B_L_firstVoidWithout_47 k9 x1 x2 x3 v5.2))))))
def B_L_firstVoidWithout_9 : Nat → Int32 → Int32 → Int32 → Lib → Option (Int32 × Lib)
  | 0, _, _, _, _ => none
  | fu + 1, x1, x2, x3, u => B_L_firstVoidWithout_9s (B_L_firstVoidWithout_9 fu) x1 x2 x3 u
def B_L_firstVoidWithout_0 (x1 : Int32) (x2 : Int32) (u : Lib) : Option (Int32 × Lib) := (B_S_clear_0 u).bind fun v1 => (B_L_firstVoidWithout_9 FU x1 x2 (0 : Int32) v1)
def B_L_oneLessIsEnough_2s (k2 : Int32 → Int32 → Lib → Option (Int32 × Lib)) (x1 : Int32) (x2 : Int32) (u : Lib) : Option (Int32 × Lib) := if x1 < x2 then (some ((0 : Int32), u)) else ((B_L_firstVoidWithout_0 x2 (-1 : Int32) u).bind fun v2 => (if v2.1 = (-1 : Int32) then (some ((1 : Int32), v2.2)) else (k2 x1 (x2 + (1 : Int32)) v2.2)))
def B_L_oneLessIsEnough_2 : Nat → Int32 → Int32 → Lib → Option (Int32 × Lib)
  | 0, _, _, _ => none
  | fu + 1, x1, x2, u => B_L_oneLessIsEnough_2s (B_L_oneLessIsEnough_2 fu) x1 x2 u
def B_L_oneLessIsEnough_0 (x1 : Int32) (u : Lib) : Option (Int32 × Lib) := B_L_oneLessIsEnough_2 FU x1 (0 : Int32) u
def B_L_twoLessAreEnough_19s (k2 : Int32 → Int32 → Lib → Option (Int32 × Lib)) (k19 : Int32 → Int32 → Int32 → Int32 → Lib → Option (Int32 × Lib)) (x1 : Int32) (x2 : Int32) (x3 : Int32) (x4 : Int32) (u : Lib) : Option (Int32 × Lib) := if x3 < x4 then (k2 x1 (x2 + (1 : Int32)) u) else ((B_L_firstVoidWithout_0 x2 x4 u).bind fun v2 => (if v2.1 = (-1 : Int32) then (some ((1 : Int32), v2.2)) else (k19 x1 x2 x3 (x4 + (1 : Int32)) v2.2)))
def B_L_twoLessAreEnough_19 (k2 : Int32 → Int32 → Lib → Option (Int32 × Lib)) : Nat → Int32 → Int32 → Int32 → Int32 → Lib → Option (Int32 × Lib)
  | 0, _, _, _, _, _ => none
  | fu + 1, x1, x2, x3, x4, u => B_L_twoLessAreEnough_19s k2 (B_L_twoLessAreEnough_19 k2 fu) x1 x2 x3 x4 u
def B_L_twoLessAreEnough_2s (k2 : Int32 → Int32 → Lib → Option (Int32 × Lib)) (x1 : Int32) (x2 : Int32) (u : Lib) : Option (Int32 × Lib) := if x1 < x2 then (some ((0 : Int32), u)) else ((B_L_firstVoidWithout_0 x2 (-1 : Int32) u).bind fun v2 => (B_L_twoLessAreEnough_19 k2 FU x1 x2 v2.1 (x2 + (1 : Int32)) v2.2))
def B_L_twoLessAreEnough_2 : Nat → Int32 → Int32 → Lib → Option (Int32 × Lib)
  | 0, _, _, _ => none
  | fu + 1, x1, x2, u => B_L_twoLessAreEnough_2s (B_L_twoLessAreEnough_2 fu) x1 x2 u
def B_L_twoLessAreEnough_0 (x1 : Int32) (u : Lib) : Option (Int32 × Lib) := B_L_twoLessAreEnough_2 FU x1 (0 : Int32) u
def B_L_least_0 (u : Lib) : Option (Int32 × Lib) := (B_R_size_0 u).bind fun v1 => (if v1 ≤ (30 : Int32) then ((B_L_firstVoidWithout_0 (-1 : Int32) (-1 : Int32) u).bind fun v3 => (if v3.1 = (-1 : Int32) then (some ((0 : Int32), v3.2)) else ((B_L_oneLessIsEnough_0 v3.1 v3.2).bind fun v5 => (if v5.1 = 0 then ((B_L_twoLessAreEnough_0 v3.1 v5.2).bind fun v7 => (if v7.1 = 0 then (some ((3 : Int32), v7.2)) else (some ((2 : Int32), v7.2)))) else (some ((1 : Int32), v5.2)))))) else (some ((-9 : Int32), u)))
def B_M_in_0 (y0 : Int64) (y2 : Int64) (y4 : Int64) : Option Int32 := if (lg_cmp y0 y2) < 0 then (some (0 : Int32)) else (if 0 < (lg_cmp y0 y4) then (some (0 : Int32)) else (some (1 : Int32)))
def B_M_can_0 (x0 : Int32) (y1 : Int64) (y3 : Int64) : Option Int32 := if x0 = (0 : Int32) then ((B_M_in_0 y1 (1 : Int64) (20 : Int64)).bind fun v2 => (if v2 = 0 then (some (0 : Int32)) else ((B_M_in_0 y3 (1 : Int64) (99 : Int64)).bind fun v4 => (if v4 = 0 then (some (0 : Int32)) else (some (1 : Int32)))))) else (if x0 = (1 : Int32) then ((B_M_in_0 y1 (1 : Int64) (20 : Int64)).bind fun v7 => (if v7 = 0 then (some (0 : Int32)) else ((B_M_in_0 y3 (1 : Int64) (99 : Int64)).bind fun v9 => (if v9 = 0 then (some (0 : Int32)) else (some (1 : Int32)))))) else (if x0 = (2 : Int32) then ((B_M_in_0 y1 (1 : Int64) (20 : Int64)).bind fun v12 => (if v12 = 0 then (some (0 : Int32)) else ((B_M_in_0 y3 (1 : Int64) (20 : Int64)).bind fun v14 => (if v14 = 0 then (some (0 : Int32)) else (some (1 : Int32)))))) else (if x0 = (3 : Int32) then ((B_M_in_0 y1 (1 : Int64) (20 : Int64)).bind fun v17 => (if v17 = 0 then (some (0 : Int32)) else ((B_M_in_0 y3 (1 : Int64) (20 : Int64)).bind fun v19 => (if v19 = 0 then (some (0 : Int32)) else (some (1 : Int32)))))) else (if x0 = (4 : Int32) then ((B_M_in_0 y1 (1 : Int64) (20 : Int64)).bind fun v22 => (gd (v22 = 0 ∨ v22 = 1) (some v22))) else (if x0 = (5 : Int32) then ((B_M_in_0 y1 (1 : Int64) (20 : Int64)).bind fun v25 => (if v25 = 0 then (some (0 : Int32)) else ((B_M_in_0 y3 (1 : Int64) (20 : Int64)).bind fun v27 => (if v27 = 0 then (some (0 : Int32)) else (some (1 : Int32)))))) else (if x0 = (6 : Int32) then ((B_M_in_0 y1 (1 : Int64) (20 : Int64)).bind fun v30 => (if v30 = 0 then (some (0 : Int32)) else ((B_M_in_0 y3 (1 : Int64) (20 : Int64)).bind fun v32 => (if v32 = 0 then (some (0 : Int32)) else (some (1 : Int32)))))) else (if x0 = (7 : Int32) then ((B_M_in_0 y1 (1 : Int64) (20 : Int64)).bind fun v35 => (if v35 = 0 then (some (0 : Int32)) else ((B_M_in_0 y3 (1 : Int64) (5 : Int64)).bind fun v37 => (if v37 = 0 then (some (0 : Int32)) else (some (1 : Int32)))))) else (if x0 = (8 : Int32) then ((B_M_in_0 y1 (1 : Int64) (20 : Int64)).bind fun v40 => (if v40 = 0 then (some (0 : Int32)) else ((B_M_in_0 y3 (1 : Int64) (5 : Int64)).bind fun v42 => (if v42 = 0 then (some (0 : Int32)) else (some (1 : Int32)))))) else (if x0 = (9 : Int32) then ((B_M_in_0 y1 (1 : Int64) (20 : Int64)).bind fun v45 => (if v45 = 0 then (some (0 : Int32)) else ((B_M_in_0 y3 (0 : Int64) (9 : Int64)).bind fun v47 => (if v47 = 0 then (some (0 : Int32)) else (some (1 : Int32)))))) else (if x0 = (10 : Int32) then ((B_M_in_0 y1 (0 : Int64) (9 : Int64)).bind fun v50 => (if v50 = 0 then (some (0 : Int32)) else ((B_M_in_0 y3 (1 : Int64) (365 : Int64)).bind fun v52 => (if v52 = 0 then (some (0 : Int32)) else (some (1 : Int32)))))) else (some (0 : Int32))))))))))))
def B_M_event_135 (x1 : Int32) (y2 : Int64) (y4 : Int64) (y6 : Int64) (x8 : Int32) (u : Mod) : Option (Int32 × Mod) := gd (0 ≤ x8.toInt ∧ x8.toInt < (200 : Nat)) (gd (0 ≤ x8.toInt ∧ x8.toInt < (200 : Nat)) ((some (m_as_w (m_srt_w u (upd (m_srt u) x8.toNatClampNeg x1)) (upd (m_as (m_srt_w u (upd (m_srt u) x8.toNatClampNeg x1))) x8.toNatClampNeg (y2.toInt32)))).bind fun u3 => (gd (0 ≤ x8.toInt ∧ x8.toInt < (200 : Nat)) (gd (0 ≤ x8.toInt ∧ x8.toInt < (200 : Nat)) ((some (m_dys_w (m_bs_w u3 (vp_updL (m_bs u3) x8.toNatClampNeg y4)) (vp_updL (m_dys (m_bs_w u3 (vp_updL (m_bs u3) x8.toNatClampNeg y4))) x8.toNatClampNeg y6))).bind fun u6 => (some ((m_ct (m_ct_w u6 ((m_ct u6) + (1 : Int32)))), (m_ct_w u6 ((m_ct u6) + (1 : Int32))))))))))
def B_M_event_45s (k45 : Int32 → Int64 → Int64 → Int64 → Int32 → Mod → Option (Int32 × Mod)) (x1 : Int32) (y2 : Int64) (y4 : Int64) (y6 : Int64) (x8 : Int32) (u : Mod) : Option (Int32 × Mod) := if x8 ≤ 0 then (B_M_event_135 x1 y2 y4 y6 x8 u) else (gd (0 ≤ (x8 - (1 : Int32)).toInt ∧ (x8 - (1 : Int32)).toInt < (200 : Nat)) (if (lg_cmp ((m_dys u) (x8 - (1 : Int32)).toNatClampNeg) y6) ≤ 0 then (B_M_event_135 x1 y2 y4 y6 x8 u) else (gd (0 ≤ (x8 - (1 : Int32)).toInt ∧ (x8 - (1 : Int32)).toInt < (200 : Nat)) (gd (0 ≤ x8.toInt ∧ x8.toInt < (200 : Nat)) (gd (0 ≤ (x8 - (1 : Int32)).toInt ∧ (x8 - (1 : Int32)).toInt < (200 : Nat)) (gd (0 ≤ x8.toInt ∧ x8.toInt < (200 : Nat)) ((some (m_as_w (m_srt_w u (upd (m_srt u) x8.toNatClampNeg ((m_srt u) (x8 - (1 : Int32)).toNatClampNeg))) (upd (m_as (m_srt_w u (upd (m_srt u) x8.toNatClampNeg ((m_srt u) (x8 - (1 : Int32)).toNatClampNeg)))) x8.toNatClampNeg ((m_as (m_srt_w u (upd (m_srt u) x8.toNatClampNeg ((m_srt u) (x8 - (1 : Int32)).toNatClampNeg)))) (x8 - (1 : Int32)).toNatClampNeg)))).bind fun u8 => (gd (0 ≤ (x8 - (1 : Int32)).toInt ∧ (x8 - (1 : Int32)).toInt < (200 : Nat)) (gd (0 ≤ x8.toInt ∧ x8.toInt < (200 : Nat)) (gd (0 ≤ (x8 - (1 : Int32)).toInt ∧ (x8 - (1 : Int32)).toInt < (200 : Nat)) (gd (0 ≤ x8.toInt ∧ x8.toInt < (200 : Nat)) ((some (m_dys_w (m_bs_w u8 (vp_updL (m_bs u8) x8.toNatClampNeg ((m_bs u8) (x8 - (1 : Int32)).toNatClampNeg))) (vp_updL (m_dys (m_bs_w u8 (vp_updL (m_bs u8) x8.toNatClampNeg ((m_bs u8) (x8 - (1 : Int32)).toNatClampNeg)))) x8.toNatClampNeg ((m_dys (m_bs_w u8 (vp_updL (m_bs u8) x8.toNatClampNeg ((m_bs u8) (x8 - (1 : Int32)).toNatClampNeg)))) (x8 - (1 : Int32)).toNatClampNeg)))).bind fun u13 => (k45 x1 y2 y4 y6 (x8 + (-1 : Int32)) u13)))))))))))))
def B_M_event_45 : Nat → Int32 → Int64 → Int64 → Int64 → Int32 → Mod → Option (Int32 × Mod)
  | 0, _, _, _, _, _, _ => none
  | fu + 1, x1, y2, y4, y6, x8, u => B_M_event_45s (B_M_event_45 fu) x1 y2 y4 y6 x8 u
def B_M_event_0 (x1 : Int32) (y2 : Int64) (y4 : Int64) (y6 : Int64) (u : Mod) : Option (Int32 × Mod) := (B_M_can_0 x1 y2 y4).bind fun v1 => (if v1 = 0 then (some ((0 : Int32), (m_th_w u (0 : Int32)))) else ((B_M_in_0 y6 (0 : Int64) (1000000 : Int64)).bind fun v3 => (if v3 = 0 then (some ((0 : Int32), (m_th_w u (0 : Int32)))) else (if (m_ct (m_th_w u (0 : Int32))) = (200 : Int32) then (some ((0 : Int32), (m_th_w u (0 : Int32)))) else (B_M_event_45 FU x1 y2 y4 y6 (m_ct (m_th_w u (0 : Int32))) (m_th_w u (0 : Int32)))))))
def B_M_clear_94s (k94 : Int32 → Mod → Option Mod) (x1 : Int32) (u : Mod) : Option Mod := if (10 : Int32) ≤ x1 then (some (m_pk_w (m_vd_w u (0 : Int32)) (0 : Int32))) else (gd (0 ≤ x1.toInt ∧ x1.toInt < (10 : Nat)) (k94 (x1 + (1 : Int32)) (m_ln_w u (upd (m_ln u) x1.toNatClampNeg (28 : Int32)))))
def B_M_clear_94 : Nat → Int32 → Mod → Option Mod
  | 0, _, _ => none
  | fu + 1, x1, u => B_M_clear_94s (B_M_clear_94 fu) x1 u
def B_M_clear_73s (k73 : Int32 → Mod → Option Mod) (x1 : Int32) (u : Mod) : Option Mod := if (126 : Int32) ≤ x1 then (B_M_clear_94 FU (0 : Int32) u) else (gd (0 ≤ x1.toInt ∧ x1.toInt < (126 : Nat)) (k73 (x1 + (1 : Int32)) (m_sm_w u (upd (m_sm u) x1.toNatClampNeg (-1 : Int32)))))
def B_M_clear_73 : Nat → Int32 → Mod → Option Mod
  | 0, _, _ => none
  | fu + 1, x1, u => B_M_clear_73s (B_M_clear_73 fu) x1 u
def B_M_clear_24s (k24 : Int32 → Mod → Option Mod) (x1 : Int32) (u : Mod) : Option Mod := if (21 : Int32) ≤ x1 then (B_M_clear_73 FU (0 : Int32) u) else (gd (0 ≤ x1.toInt ∧ x1.toInt < (21 : Nat)) (gd (0 ≤ x1.toInt ∧ x1.toInt < (21 : Nat)) ((some (m_per_w (m_rec_w u (upd (m_rec u) x1.toNatClampNeg (0 : Int32))) (upd (m_per (m_rec_w u (upd (m_rec u) x1.toNatClampNeg (0 : Int32)))) x1.toNatClampNeg (0 : Int32)))).bind fun u4 => (gd (0 ≤ x1.toInt ∧ x1.toInt < (21 : Nat)) (gd (0 ≤ x1.toInt ∧ x1.toInt < (21 : Nat)) ((some (m_qs_w (m_due_w u4 (vp_updL (m_due u4) x1.toNatClampNeg (0 : Int64))) (upd (m_qs (m_due_w u4 (vp_updL (m_due u4) x1.toNatClampNeg (0 : Int64)))) x1.toNatClampNeg (0 : Int32)))).bind fun u7 => (gd (0 ≤ x1.toInt ∧ x1.toInt < (21 : Nat)) (k24 (x1 + (1 : Int32)) (m_cls_w u7 (upd (m_cls u7) x1.toNatClampNeg (0 : Int32)))))))))))
def B_M_clear_24 : Nat → Int32 → Mod → Option Mod
  | 0, _, _ => none
  | fu + 1, x1, u => B_M_clear_24s (B_M_clear_24 fu) x1 u
def B_M_clear_2s (k2 : Int32 → Mod → Option Mod) (x1 : Int32) (u : Mod) : Option Mod := if (2100 : Int32) ≤ x1 then (B_M_clear_24 FU (0 : Int32) u) else (gd (0 ≤ x1.toInt ∧ x1.toInt < (2100 : Nat)) (k2 (x1 + (1 : Int32)) (m_hd_w u (upd (m_hd u) x1.toNatClampNeg (vp_nar .boolean (0 : Int32))))))
def B_M_clear_2 : Nat → Int32 → Mod → Option Mod
  | 0, _, _ => none
  | fu + 1, x1, u => B_M_clear_2s (B_M_clear_2 fu) x1 u
def B_M_clear_0 (u : Mod) : Option Mod := B_M_clear_2 FU (0 : Int32) u
def B_M_placeOf_2s (k2 : Int32 → Int32 → Int32 → Mod → Option Int32) (x1 : Int32) (x2 : Int32) (x3 : Int32) (u : Mod) : Option Int32 := gd (0 ≤ x1.toInt ∧ x1.toInt < (21 : Nat)) (if ((m_qs u) x1.toNatClampNeg) ≤ x3 then (some (-1 : Int32)) else (gd (0 ≤ (((20 : Int32) * x1) + x3).toInt ∧ (((20 : Int32) * x1) + x3).toInt < (420 : Nat)) (if ((m_qd u) (((20 : Int32) * x1) + x3).toNatClampNeg) = x2 then (some x3) else (k2 x1 x2 (x3 + (1 : Int32)) u))))
def B_M_placeOf_2 : Nat → Int32 → Int32 → Int32 → Mod → Option Int32
  | 0, _, _, _, _ => none
  | fu + 1, x1, x2, x3, u => B_M_placeOf_2s (B_M_placeOf_2 fu) x1 x2 x3 u
def B_M_placeOf_0 (x1 : Int32) (x2 : Int32) (u : Mod) : Option Int32 := B_M_placeOf_2 FU x1 x2 (0 : Int32) u
def B_M_leave_27s (k27 : Int32 → Int32 → Mod → Option (Int32 × Mod)) (x1 : Int32) (x4 : Int32) (u : Mod) : Option (Int32 × Mod) := gd (0 ≤ x1.toInt ∧ x1.toInt < (21 : Nat)) (if ((m_qs u) x1.toNatClampNeg) ≤ x4 then (some ((1 : Int32), u)) else (gd (0 ≤ ((((20 : Int32) * x1) + x4) + (1 : Int32)).toInt ∧ ((((20 : Int32) * x1) + x4) + (1 : Int32)).toInt < (420 : Nat)) (gd (0 ≤ (((20 : Int32) * x1) + x4).toInt ∧ (((20 : Int32) * x1) + x4).toInt < (420 : Nat)) ((some (m_qd_w u (upd (m_qd u) (((20 : Int32) * x1) + x4).toNatClampNeg ((m_qd u) ((((20 : Int32) * x1) + x4) + (1 : Int32)).toNatClampNeg)))).bind fun u5 => (k27 x1 (x4 + (1 : Int32)) u5)))))
def B_M_leave_27 : Nat → Int32 → Int32 → Mod → Option (Int32 × Mod)
  | 0, _, _, _ => none
  | fu + 1, x1, x4, u => B_M_leave_27s (B_M_leave_27 fu) x1 x4 u
def B_M_leave_0 (x1 : Int32) (x2 : Int32) (u : Mod) : Option (Int32 × Mod) := (B_M_placeOf_0 x1 x2 u).bind fun v1 => (if v1 = (-1 : Int32) then (some ((0 : Int32), u)) else (gd (0 ≤ x1.toInt ∧ x1.toInt < (21 : Nat)) (gd (0 ≤ x1.toInt ∧ x1.toInt < (21 : Nat)) (B_M_leave_27 FU x1 v1 (m_qs_w u (upd (m_qs u) x1.toNatClampNeg (((m_qs u) x1.toNatClampNeg) - (1 : Int32))))))))
def B_M_stand_0 (x1 : Int32) (x2 : Int32) (u : Mod) : Option (Int32 × Mod) := (B_M_placeOf_0 x1 x2 u).bind fun v1 => (if v1 = (-1 : Int32) then (gd (0 ≤ x1.toInt ∧ x1.toInt < (21 : Nat)) (gd (0 ≤ (((20 : Int32) * x1) + ((m_qs u) x1.toNatClampNeg)).toInt ∧ (((20 : Int32) * x1) + ((m_qs u) x1.toNatClampNeg)).toInt < (420 : Nat)) (gd (0 ≤ x1.toInt ∧ x1.toInt < (21 : Nat)) (gd (0 ≤ x1.toInt ∧ x1.toInt < (21 : Nat)) ((some (m_qs_w (m_qd_w u (upd (m_qd u) (((20 : Int32) * x1) + ((m_qs u) x1.toNatClampNeg)).toNatClampNeg x2)) (upd (m_qs (m_qd_w u (upd (m_qd u) (((20 : Int32) * x1) + ((m_qs u) x1.toNatClampNeg)).toNatClampNeg x2))) x1.toNatClampNeg (((m_qs (m_qd_w u (upd (m_qd u) (((20 : Int32) * x1) + ((m_qs u) x1.toNatClampNeg)).toNatClampNeg x2))) x1.toNatClampNeg) + (1 : Int32))))).bind fun u7 => (some ((1 : Int32), u7))))))) else (some ((0 : Int32), u)))
def B_M_lend_100 (u : Mod) : Option (Int32 × Mod) := some ((1 : Int32), u)
def B_M_lend_48 (x1 : Int32) (x2 : Int32) (y3 : Int64) (x5 : Int32) (u : Mod) : Option (Int32 × Mod) := (B_M_leave_0 x5 x2 u).bind fun v1 => (gd (0 ≤ x1.toInt ∧ x1.toInt < (21 : Nat)) (gd (0 ≤ x5.toInt ∧ x5.toInt < (21 : Nat)) (gd (0 ≤ ((m_cls (m_per_w v1.2 (upd (m_per v1.2) x1.toNatClampNeg x2))) x5.toNatClampNeg).toInt ∧ ((m_cls (m_per_w v1.2 (upd (m_per v1.2) x1.toNatClampNeg x2))) x5.toNatClampNeg).toInt < (10 : Nat)) (gd (0 ≤ x1.toInt ∧ x1.toInt < (21 : Nat)) ((some (m_due_w (m_per_w v1.2 (upd (m_per v1.2) x1.toNatClampNeg x2)) (vp_updL (m_due (m_per_w v1.2 (upd (m_per v1.2) x1.toNatClampNeg x2))) x1.toNatClampNeg (y3 + (((m_ln (m_per_w v1.2 (upd (m_per v1.2) x1.toNatClampNeg x2))) ((m_cls (m_per_w v1.2 (upd (m_per v1.2) x1.toNatClampNeg x2))) x5.toNatClampNeg).toNatClampNeg).toInt64))))).bind fun u6 => (if v1.1 = 0 then (gd (0 ≤ x1.toInt ∧ x1.toInt < (21 : Nat)) (if ((m_per u6) x1.toNatClampNeg) = x2 then (B_M_lend_100 u6) else (some ((0 : Int32), u6)))) else (B_M_lend_100 u6)))))))
def B_M_lend_0 (x1 : Int32) (x2 : Int32) (y3 : Int64) (u : Mod) : Option (Int32 × Mod) := gd (0 ≤ x1.toInt ∧ x1.toInt < (21 : Nat)) (if ((m_rec u) x1.toNatClampNeg) = 0 then (some ((0 : Int32), u)) else (gd (0 ≤ x1.toInt ∧ x1.toInt < (21 : Nat)) (if ((m_per u) x1.toNatClampNeg) = 0 then (gd (0 ≤ ((m_rec u) x1.toNatClampNeg).toInt ∧ ((m_rec u) x1.toNatClampNeg).toInt < (21 : Nat)) (if ((m_qs u) ((m_rec u) x1.toNatClampNeg).toNatClampNeg) ≤ 0 then (B_M_lend_48 x1 x2 y3 ((m_rec u) x1.toNatClampNeg) u) else (gd (0 ≤ ((20 : Int32) * ((m_rec u) x1.toNatClampNeg)).toInt ∧ ((20 : Int32) * ((m_rec u) x1.toNatClampNeg)).toInt < (420 : Nat)) (if ((m_qd u) ((20 : Int32) * ((m_rec u) x1.toNatClampNeg)).toNatClampNeg) = x2 then (B_M_lend_48 x1 x2 y3 ((m_rec u) x1.toNatClampNeg) u) else (some ((0 : Int32), u)))))) else (some ((0 : Int32), u)))))
def B_M_sets_0 (x1 : Int32) (x2 : Int32) (u : Mod) : Option (Int32 × Mod) := gd (0 ≤ x1.toInt ∧ x1.toInt < (2100 : Nat)) (gd (0 ≤ x1.toInt ∧ x1.toInt < (2100 : Nat)) (if ((m_hd u) x1.toNatClampNeg) = x2 then (some ((0 : Int32), (m_hd_w u (upd (m_hd u) x1.toNatClampNeg (vp_nar .boolean x2))))) else (some ((1 : Int32), (m_hd_w u (upd (m_hd u) x1.toNatClampNeg (vp_nar .boolean x2)))))))
def B_M_stores_32 (u : Mod) : Option (Int32 × Mod) := some ((1 : Int32), u)
def B_M_stores_15 (x1 : Int32) (x2 : Int32) (t0 : Int32) (u : Mod) : Option (Int32 × Mod) := gd (0 ≤ x1.toInt ∧ x1.toInt < (126 : Nat)) (if t0 = 0 then (if x2 = (-1 : Int32) then (some ((0 : Int32), (m_sm_w u (upd (m_sm u) x1.toNatClampNeg x2)))) else (B_M_stores_32 (m_sm_w u (upd (m_sm u) x1.toNatClampNeg x2)))) else (B_M_stores_32 (m_sm_w u (upd (m_sm u) x1.toNatClampNeg x2))))
def B_M_stores_0 (x1 : Int32) (x2 : Int32) (u : Mod) : Option (Int32 × Mod) := gd (0 ≤ x1.toInt ∧ x1.toInt < (126 : Nat)) (if ((m_sm u) x1.toNatClampNeg) = (-1 : Int32) then (B_M_stores_15 x1 x2 (0 : Int32) u) else (B_M_stores_15 x1 x2 (1 : Int32) u))
def B_M_does_0 (x1 : Int32) (u : Mod) : Option (Int32 × Mod) := gd (0 ≤ x1.toInt ∧ x1.toInt < (200 : Nat)) (gd (0 ≤ x1.toInt ∧ x1.toInt < (200 : Nat)) (gd (0 ≤ x1.toInt ∧ x1.toInt < (200 : Nat)) (if ((m_srt u) x1.toNatClampNeg) = (0 : Int32) then ((B_M_sets_0 (((100 : Int32) * ((m_as u) x1.toNatClampNeg)) + (((m_bs u) x1.toNatClampNeg).toInt32)) (1 : Int32) u).bind fun v5 => (gd (v5.1 = 0 ∨ v5.1 = 1) (some (v5.1, v5.2)))) else (if ((m_srt u) x1.toNatClampNeg) = (1 : Int32) then ((B_M_sets_0 (((100 : Int32) * ((m_as u) x1.toNatClampNeg)) + (((m_bs u) x1.toNatClampNeg).toInt32)) (0 : Int32) u).bind fun v8 => (gd (v8.1 = 0 ∨ v8.1 = 1) (some (v8.1, v8.2)))) else (if ((m_srt u) x1.toNatClampNeg) = (2 : Int32) then (gd (0 ≤ ((m_as u) x1.toNatClampNeg).toInt ∧ ((m_as u) x1.toNatClampNeg).toInt < (21 : Nat)) (if ((m_per u) ((m_as u) x1.toNatClampNeg).toNatClampNeg) = 0 then (gd (0 ≤ ((m_as u) x1.toNatClampNeg).toInt ∧ ((m_as u) x1.toNatClampNeg).toInt < (21 : Nat)) (some ((1 : Int32), (m_rec_w u (upd (m_rec u) ((m_as u) x1.toNatClampNeg).toNatClampNeg (((m_bs u) x1.toNatClampNeg).toInt32)))))) else (some ((0 : Int32), u)))) else (if ((m_srt u) x1.toNatClampNeg) = (3 : Int32) then (gd (0 ≤ x1.toInt ∧ x1.toInt < (200 : Nat)) ((B_M_lend_0 ((m_as u) x1.toNatClampNeg) (((m_bs u) x1.toNatClampNeg).toInt32) ((m_dys u) x1.toNatClampNeg) u).bind fun v16 => (gd (v16.1 = 0 ∨ v16.1 = 1) (some (v16.1, v16.2))))) else (if ((m_srt u) x1.toNatClampNeg) = (4 : Int32) then (gd (0 ≤ ((m_as u) x1.toNatClampNeg).toInt ∧ ((m_as u) x1.toNatClampNeg).toInt < (21 : Nat)) (gd (0 ≤ x1.toInt ∧ x1.toInt < (200 : Nat)) (gd (0 ≤ ((m_as u) x1.toNatClampNeg).toInt ∧ ((m_as u) x1.toNatClampNeg).toInt < (21 : Nat)) ((some (m_per_w (m_bk_w u (upd (m_bk u) x1.toNatClampNeg ((m_per u) ((m_as u) x1.toNatClampNeg).toNatClampNeg))) (upd (m_per (m_bk_w u (upd (m_bk u) x1.toNatClampNeg ((m_per u) ((m_as u) x1.toNatClampNeg).toNatClampNeg)))) ((m_as u) x1.toNatClampNeg).toNatClampNeg (0 : Int32)))).bind fun u22 => (gd (0 ≤ x1.toInt ∧ x1.toInt < (200 : Nat)) (if ((m_bk u22) x1.toNatClampNeg) = 0 then (some ((0 : Int32), u22)) else (some ((1 : Int32), u22)))))))) else (if ((m_srt u) x1.toNatClampNeg) = (5 : Int32) then ((B_M_stand_0 ((m_as u) x1.toNatClampNeg) (((m_bs u) x1.toNatClampNeg).toInt32) u).bind fun v26 => (gd (v26.1 = 0 ∨ v26.1 = 1) (some (v26.1, v26.2)))) else (if ((m_srt u) x1.toNatClampNeg) = (6 : Int32) then ((B_M_leave_0 ((m_as u) x1.toNatClampNeg) (((m_bs u) x1.toNatClampNeg).toInt32) u).bind fun v29 => (gd (v29.1 = 0 ∨ v29.1 = 1) (some (v29.1, v29.2)))) else (if ((m_srt u) x1.toNatClampNeg) = (7 : Int32) then (gd (0 ≤ x1.toInt ∧ x1.toInt < (200 : Nat)) ((B_M_stores_0 (((6 : Int32) * ((m_as u) x1.toNatClampNeg)) + (((m_bs u) x1.toNatClampNeg).toInt32)) ((((m_dys u) x1.toNatClampNeg) - ((m_dys u) x1.toNatClampNeg) / (7 : Int64) * (7 : Int64)).toInt32) u).bind fun v33 => (gd (v33.1 = 0 ∨ v33.1 = 1) (some (v33.1, v33.2))))) else (if ((m_srt u) x1.toNatClampNeg) = (8 : Int32) then ((B_M_stores_0 (((6 : Int32) * ((m_as u) x1.toNatClampNeg)) + (((m_bs u) x1.toNatClampNeg).toInt32)) (-1 : Int32) u).bind fun v36 => (gd (v36.1 = 0 ∨ v36.1 = 1) (some (v36.1, v36.2)))) else (if ((m_srt u) x1.toNatClampNeg) = (9 : Int32) then (gd (0 ≤ ((m_as u) x1.toNatClampNeg).toInt ∧ ((m_as u) x1.toNatClampNeg).toInt < (21 : Nat)) (some ((1 : Int32), (m_cls_w u (upd (m_cls u) ((m_as u) x1.toNatClampNeg).toNatClampNeg (((m_bs u) x1.toNatClampNeg).toInt32)))))) else (gd (0 ≤ ((m_as u) x1.toNatClampNeg).toInt ∧ ((m_as u) x1.toNatClampNeg).toInt < (10 : Nat)) (some ((1 : Int32), (m_ln_w u (upd (m_ln u) ((m_as u) x1.toNatClampNeg).toNatClampNeg (((m_bs u) x1.toNatClampNeg).toInt32))))))))))))))))))
def B_M_go_118 (k7 : Int64 → Int32 → Int32 → Int32 → Int32 → Mod → Option Mod) (k92 : Int64 → Int32 → Int32 → Int32 → Int32 → Int32 → Int32 → Mod → Option Mod) (y1 : Int64) (x3 : Int32) (x4 : Int32) (x5 : Int32) (x6 : Int32) (x8 : Int32) (t0 : Int32) (t1 : Int32) (u : Mod) : Option Mod := k92 y1 x3 x4 x5 x6 (t1 + t0) (x8 + (1 : Int32)) u
def B_M_go_149 (k7 : Int64 → Int32 → Int32 → Int32 → Int32 → Mod → Option Mod) (y1 : Int64) (x3 : Int32) (x4 : Int32) (x5 : Int32) (x6 : Int32) (u : Mod) : Option Mod := k7 y1 x3 x4 x5 (x6 + (1 : Int32)) u
def B_M_go_146 (k7 : Int64 → Int32 → Int32 → Int32 → Int32 → Mod → Option Mod) (y1 : Int64) (x3 : Int32) (x4 : Int32) (x5 : Int32) (x6 : Int32) (t0 : Int32) (u : Mod) : Option Mod := B_M_go_149 k7 y1 x3 x4 x5 x6 (m_pk_w u t0)
def B_M_go_92s (k7 : Int64 → Int32 → Int32 → Int32 → Int32 → Mod → Option Mod) (k92 : Int64 → Int32 → Int32 → Int32 → Int32 → Int32 → Int32 → Mod → Option Mod) (y1 : Int64) (x3 : Int32) (x4 : Int32) (x5 : Int32) (x6 : Int32) (x7 : Int32) (x8 : Int32) (u : Mod) : Option Mod := if (21 : Int32) ≤ x8 then (if x7 ≤ (m_pk u) then (B_M_go_146 k7 y1 x3 x4 x5 x6 (m_pk u) u) else (B_M_go_146 k7 y1 x3 x4 x5 x6 x7 u)) else (gd (0 ≤ x8.toInt ∧ x8.toInt < (21 : Nat)) (if ((m_per u) x8.toNatClampNeg) = x5 then (B_M_go_118 k7 k92 y1 x3 x4 x5 x6 x8 (1 : Int32) x7 u) else (B_M_go_118 k7 k92 y1 x3 x4 x5 x6 x8 (0 : Int32) x7 u)))
def B_M_go_92 (k7 : Int64 → Int32 → Int32 → Int32 → Int32 → Mod → Option Mod) : Nat → Int64 → Int32 → Int32 → Int32 → Int32 → Int32 → Int32 → Mod → Option Mod
  | 0, _, _, _, _, _, _, _, _ => none
  | fu + 1, y1, x3, x4, x5, x6, x7, x8, u => B_M_go_92s k7 (B_M_go_92 k7 fu) y1 x3 x4 x5 x6 x7 x8 u
def B_M_go_82 (k7 : Int64 → Int32 → Int32 → Int32 → Int32 → Mod → Option Mod) (y1 : Int64) (x3 : Int32) (x4 : Int32) (x5 : Int32) (x6 : Int32) (t0 : Int32) (t1 : Int32) (u : Mod) : Option Mod := B_M_go_92 k7 FU y1 x3 x4 x5 x6 (0 : Int32) (1 : Int32) (m_vd_w u (t1 + t0))
def B_M_go_61 (k7 : Int64 → Int32 → Int32 → Int32 → Int32 → Mod → Option Mod) (y1 : Int64) (x3 : Int32) (x4 : Int32) (x5 : Int32) (x6 : Int32) (t0 : Int32) (t1 : Int32) (u : Mod) : Option Mod := gd (0 ≤ t1.toInt ∧ t1.toInt < (200 : Nat)) (gd (0 ≤ x6.toInt ∧ x6.toInt < (200 : Nat)) (if ((m_vo (m_vo_w u (upd (m_vo u) t1.toNatClampNeg (vp_nar .boolean t0)))) x6.toNatClampNeg) = 0 then (B_M_go_82 k7 y1 x3 x4 x5 x6 (0 : Int32) (m_vd (m_vo_w u (upd (m_vo u) t1.toNatClampNeg (vp_nar .boolean t0)))) (m_vo_w u (upd (m_vo u) t1.toNatClampNeg (vp_nar .boolean t0)))) else (B_M_go_82 k7 y1 x3 x4 x5 x6 (1 : Int32) (m_vd (m_vo_w u (upd (m_vo u) t1.toNatClampNeg (vp_nar .boolean t0)))) (m_vo_w u (upd (m_vo u) t1.toNatClampNeg (vp_nar .boolean t0))))))
def B_M_go_7s (k7 : Int64 → Int32 → Int32 → Int32 → Int32 → Mod → Option Mod) (y1 : Int64) (x3 : Int32) (x4 : Int32) (x5 : Int32) (x6 : Int32) (u : Mod) : Option Mod := if (m_ct u) ≤ x6 then (some u) else (gd (0 ≤ x6.toInt ∧ x6.toInt < (200 : Nat)) (if 0 < (lg_cmp ((m_dys u) x6.toNatClampNeg) y1) then (B_M_go_149 k7 y1 x3 x4 x5 x6 u) else (if x6 = x3 then (B_M_go_149 k7 y1 x3 x4 x5 x6 u) else (if x6 = x4 then (B_M_go_149 k7 y1 x3 x4 x5 x6 u) else ((B_M_does_0 x6 u).bind fun v6 => (if v6.1 = 0 then (B_M_go_61 k7 y1 x3 x4 x5 x6 (1 : Int32) x6 v6.2) else (B_M_go_61 k7 y1 x3 x4 x5 x6 (0 : Int32) x6 v6.2)))))))
def B_M_go_7 : Nat → Int64 → Int32 → Int32 → Int32 → Int32 → Mod → Option Mod
  | 0, _, _, _, _, _, _ => none
  | fu + 1, y1, x3, x4, x5, x6, u => B_M_go_7s (B_M_go_7 fu) y1 x3 x4 x5 x6 u
def B_M_go_0 (y1 : Int64) (x3 : Int32) (x4 : Int32) (x5 : Int32) (u : Mod) : Option Mod := (B_M_clear_0 u).bind fun v1 => (B_M_go_7 FU y1 x3 x4 x5 (0 : Int32) v1)
def B_M_all_0 (u : Mod) : Option Mod := (B_M_go_0 (1000000 : Int64) (-1 : Int32) (-1 : Int32) (-1 : Int32) u).bind fun v1 => (some v1)
def B_M_isNumber_0 (x0 : Int32) : Option Int32 := if x0 ≤ 0 then (some (0 : Int32)) else (if (21 : Int32) ≤ x0 then (some (0 : Int32)) else (some (1 : Int32)))
def B_M_counts_0 (x1 : Int32) (u : Mod) : Option (Int32 × Mod) := if x1 < 0 then (some ((-1 : Int32), (m_th_w u (0 : Int32)))) else (if x1 < (m_ct (m_th_w u (0 : Int32))) then ((B_M_all_0 (m_th_w u (0 : Int32))).bind fun v3 => (gd (0 ≤ x1.toInt ∧ x1.toInt < (200 : Nat)) (if ((m_vo v3) x1.toNatClampNeg) = 0 then (some ((1 : Int32), v3)) else (some ((0 : Int32), v3))))) else (some ((-1 : Int32), (m_th_w u (0 : Int32)))))
def B_M_events_0 (u : Mod) : Option (Int32 × Mod) := some ((m_ct (m_th_w u (0 : Int32))), (m_th_w u (0 : Int32)))
def B_M_refused_0 (u : Mod) : Option (Int32 × Mod) := (B_M_all_0 (m_th_w u (0 : Int32))).bind fun v1 => (some ((m_vd v1), v1))
def B_M_state_114 (k79 : Int32 → Int32 → Int32 → Mod → Option (Int32 × Mod)) (x2 : Int32) (x6 : Int32) (t0 : Int32) (t1 : Int32) (u : Mod) : Option (Int32 × Mod) := k79 x2 (t1 + t0) (x6 + (1 : Int32)) u
def B_M_state_113 (k79 : Int32 → Int32 → Int32 → Mod → Option (Int32 × Mod)) (x2 : Int32) (x6 : Int32) (t0 : Int32) (u : Mod) : Option (Int32 × Mod) := B_M_state_114 k79 x2 x6 (0 : Int32) t0 u
def B_M_state_79s (k79 : Int32 → Int32 → Int32 → Mod → Option (Int32 × Mod)) (x2 : Int32) (x5 : Int32) (x6 : Int32) (u : Mod) : Option (Int32 × Mod) := if (21 : Int32) ≤ x6 then (some (x5, u)) else (gd (0 ≤ x6.toInt ∧ x6.toInt < (21 : Nat)) (if ((m_rec u) x6.toNatClampNeg) = x2 then (gd (0 ≤ x6.toInt ∧ x6.toInt < (21 : Nat)) (if ((m_per u) x6.toNatClampNeg) = 0 then (B_M_state_114 k79 x2 x6 (1 : Int32) x5 u) else (B_M_state_113 k79 x2 x6 x5 u))) else (B_M_state_113 k79 x2 x6 x5 u)))
def B_M_state_79 : Nat → Int32 → Int32 → Int32 → Mod → Option (Int32 × Mod)
  | 0, _, _, _, _ => none
  | fu + 1, x2, x5, x6, u => B_M_state_79s (B_M_state_79 fu) x2 x5 x6 u
def B_M_state_0 (x1 : Int32) (x2 : Int32) (y3 : Int64) (u : Mod) : Option (Int32 × Mod) := (B_M_isNumber_0 x2).bind fun v1 => (if v1 = 0 then (some ((-1 : Int32), (m_th_w u (0 : Int32)))) else ((B_M_go_0 y3 (-1 : Int32) (-1 : Int32) (-1 : Int32) (m_th_w u (0 : Int32))).bind fun v3 => (if x1 = (0 : Int32) then (gd (0 ≤ x2.toInt ∧ x2.toInt < (21 : Nat)) (some (((m_rec v3) x2.toNatClampNeg), v3))) else (if x1 = (1 : Int32) then (gd (0 ≤ x2.toInt ∧ x2.toInt < (21 : Nat)) (some (((m_per v3) x2.toNatClampNeg), v3))) else (if x1 = (2 : Int32) then (gd (0 ≤ x2.toInt ∧ x2.toInt < (21 : Nat)) (some (((m_cls v3) x2.toNatClampNeg), v3))) else (if x1 = (3 : Int32) then (B_M_state_79 FU x2 (0 : Int32) (1 : Int32) v3) else (some ((-1 : Int32), v3))))))))
def B_M_heading_58 (k14 : Int32 → Int32 → Int32 → Int32 → Mod → Option (Int32 × Mod)) (x1 : Int32) (x2 : Int32) (x3 : Int32) (x4 : Int32) (u : Mod) : Option (Int32 × Mod) := k14 x1 x2 x3 (x4 + (1 : Int32)) u
def B_M_heading_14s (k14 : Int32 → Int32 → Int32 → Int32 → Mod → Option (Int32 × Mod)) (x1 : Int32) (x2 : Int32) (x3 : Int32) (x4 : Int32) (u : Mod) : Option (Int32 × Mod) := if (100 : Int32) ≤ x4 then (some ((-1 : Int32), u)) else ((B_M_isNumber_0 x1).bind fun v2 => (if v2 = 0 then (some ((-1 : Int32), u)) else (if x2 < 0 then (some ((-1 : Int32), u)) else (gd (0 ≤ (((100 : Int32) * x1) + x4).toInt ∧ (((100 : Int32) * x1) + x4).toInt < (2100 : Nat)) (if ((m_hd u) (((100 : Int32) * x1) + x4).toNatClampNeg) = 0 then (B_M_heading_58 k14 x1 x2 x3 x4 u) else (if x3 = x2 then (some (x4, u)) else (B_M_heading_58 k14 x1 x2 (x3 + (1 : Int32)) x4 u)))))))
def B_M_heading_14 : Nat → Int32 → Int32 → Int32 → Int32 → Mod → Option (Int32 × Mod)
  | 0, _, _, _, _, _ => none
  | fu + 1, x1, x2, x3, x4, u => B_M_heading_14s (B_M_heading_14 fu) x1 x2 x3 x4 u
def B_M_heading_0 (x1 : Int32) (x2 : Int32) (u : Mod) : Option (Int32 × Mod) := (B_M_all_0 (m_th_w u (0 : Int32))).bind fun v1 => (B_M_heading_14 FU x1 x2 (0 : Int32) (1 : Int32) v1)
def B_M_question_93 (k39 : Int32 → Int32 → Int32 → Mod → Option (Int32 × Mod)) (x1 : Int32) (x2 : Int32) (x3 : Int32) (u : Mod) : Option (Int32 × Mod) := k39 x1 x2 (x3 + (1 : Int32)) u
def B_M_question_39s (k39 : Int32 → Int32 → Int32 → Mod → Option (Int32 × Mod)) (x1 : Int32) (x2 : Int32) (x3 : Int32) (u : Mod) : Option (Int32 × Mod) := if (21 : Int32) ≤ x3 then (some ((m_hc u), u)) else (gd (0 ≤ (((100 : Int32) * x3) + x1).toInt ∧ (((100 : Int32) * x3) + x1).toInt < (2100 : Nat)) (if ((m_hd u) (((100 : Int32) * x3) + x1).toNatClampNeg) = 0 then (B_M_question_93 k39 x1 x2 x3 u) else (gd (0 ≤ (((100 : Int32) * x3) + x2).toInt ∧ (((100 : Int32) * x3) + x2).toInt < (2100 : Nat)) (if ((m_hd u) (((100 : Int32) * x3) + x2).toNatClampNeg) = 0 then (gd (0 ≤ (m_hc u).toInt ∧ (m_hc u).toInt < (20 : Nat)) ((some (m_hc_w (m_hit_w u (upd (m_hit u) (m_hc u).toNatClampNeg x3)) ((m_hc (m_hit_w u (upd (m_hit u) (m_hc u).toNatClampNeg x3))) + (1 : Int32)))).bind fun u7 => (B_M_question_93 k39 x1 x2 x3 u7))) else (B_M_question_93 k39 x1 x2 x3 u)))))
def B_M_question_39 : Nat → Int32 → Int32 → Int32 → Mod → Option (Int32 × Mod)
  | 0, _, _, _, _ => none
  | fu + 1, x1, x2, x3, u => B_M_question_39s (B_M_question_39 fu) x1 x2 x3 u
def B_M_question_0 (x1 : Int32) (x2 : Int32) (u : Mod) : Option (Int32 × Mod) := if x1 < (1 : Int32) then (some ((-1 : Int32), (m_th_w u (0 : Int32)))) else (if (99 : Int32) < x1 then (some ((-1 : Int32), (m_th_w u (0 : Int32)))) else (if x2 < 0 then (some ((-1 : Int32), (m_th_w u (0 : Int32)))) else (if x2 ≤ (99 : Int32) then ((B_M_all_0 (m_th_w u (0 : Int32))).bind fun v5 => (B_M_question_39 FU x1 x2 (1 : Int32) (m_hc_w v5 (0 : Int32)))) else (some ((-1 : Int32), (m_th_w u (0 : Int32)))))))
def B_M_hit_17 (u : Mod) : Option (Int32 × Mod) := some ((-1 : Int32), u)
def B_M_hit_0 (x1 : Int32) (u : Mod) : Option (Int32 × Mod) := if x1 < 0 then (B_M_hit_17 (m_th_w u (0 : Int32))) else (if x1 < (m_hc (m_th_w u (0 : Int32))) then (gd (0 ≤ x1.toInt ∧ x1.toInt < (20 : Nat)) (some (((m_hit (m_th_w u (0 : Int32))) x1.toNatClampNeg), (m_th_w u (0 : Int32))))) else (B_M_hit_17 (m_th_w u (0 : Int32))))
def B_M_due_0 (x1 : Int32) (u : Mod) : Option (Int64 × Mod) := (B_M_all_0 (m_th_w u (0 : Int32))).bind fun v1 => ((B_M_isNumber_0 x1).bind fun v2 => (if v2 = 0 then (some ((-1 : Int64), v1)) else (gd (0 ≤ x1.toInt ∧ x1.toInt < (21 : Nat)) (if ((m_per v1) x1.toNatClampNeg) = 0 then (some ((-1 : Int64), v1)) else (gd (0 ≤ x1.toInt ∧ x1.toInt < (21 : Nat)) (some (((m_due v1) x1.toNatClampNeg), v1)))))))
def B_M_queue_30 (u : Mod) : Option (Int32 × Mod) := some ((-1 : Int32), u)
def B_M_queue_0 (x1 : Int32) (x2 : Int32) (u : Mod) : Option (Int32 × Mod) := (B_M_all_0 (m_th_w u (0 : Int32))).bind fun v1 => ((B_M_isNumber_0 x1).bind fun v2 => (if v2 = 0 then (B_M_queue_30 v1) else (if x2 < 0 then (B_M_queue_30 v1) else (gd (0 ≤ x1.toInt ∧ x1.toInt < (21 : Nat)) (if x2 < ((m_qs v1) x1.toNatClampNeg) then (gd (0 ≤ (((20 : Int32) * x1) + x2).toInt ∧ (((20 : Int32) * x1) + x2).toInt < (420 : Nat)) (some (((m_qd v1) (((20 : Int32) * x1) + x2).toNatClampNeg), v1))) else (B_M_queue_30 v1))))))
def B_M_poll_55 (k26 : Int32 → Int32 → Int32 → Int32 → Mod → Option (Int32 × Mod)) (x1 : Int32) (x3 : Int32) (x4 : Int32) (t0 : Int32) (t1 : Int32) (u : Mod) : Option (Int32 × Mod) := k26 x1 (t1 + t0) x3 (x4 + (1 : Int32)) u
def B_M_poll_110 (k66 : Int32 → Int32 → Int32 → Int32 → Mod → Option (Int32 × Mod)) (k79 : Int32 → Int32 → Int32 → Int32 → Int32 → Int32 → Mod → Option (Int32 × Mod)) (x1 : Int32) (x2 : Int32) (x3 : Int32) (x4 : Int32) (x6 : Int32) (t0 : Int32) (t1 : Int32) (u : Mod) : Option (Int32 × Mod) := k79 x1 x2 x3 x4 (t1 + t0) (x6 + (1 : Int32)) u
def B_M_poll_133 (k66 : Int32 → Int32 → Int32 → Int32 → Mod → Option (Int32 × Mod)) (x1 : Int32) (x2 : Int32) (x4 : Int32) (t0 : Int32) (u : Mod) : Option (Int32 × Mod) := k66 x1 x2 t0 (x4 + (1 : Int32)) u
def B_M_poll_79s (k66 : Int32 → Int32 → Int32 → Int32 → Mod → Option (Int32 × Mod)) (k79 : Int32 → Int32 → Int32 → Int32 → Int32 → Int32 → Mod → Option (Int32 × Mod)) (x1 : Int32) (x2 : Int32) (x3 : Int32) (x4 : Int32) (x5 : Int32) (x6 : Int32) (u : Mod) : Option (Int32 × Mod) := if (6 : Int32) ≤ x6 then (if ((2 : Int32) * x5) ≤ x2 then (B_M_poll_133 k66 x1 x2 x4 x3 u) else (B_M_poll_133 k66 x1 x2 x4 x4 u)) else (gd (0 ≤ (((6 : Int32) * x1) + x6).toInt ∧ (((6 : Int32) * x1) + x6).toInt < (126 : Nat)) (if ((m_sm u) (((6 : Int32) * x1) + x6).toNatClampNeg) = x4 then (B_M_poll_110 k66 k79 x1 x2 x3 x4 x6 (1 : Int32) x5 u) else (B_M_poll_110 k66 k79 x1 x2 x3 x4 x6 (0 : Int32) x5 u)))
def B_M_poll_79 (k66 : Int32 → Int32 → Int32 → Int32 → Mod → Option (Int32 × Mod)) : Nat → Int32 → Int32 → Int32 → Int32 → Int32 → Int32 → Mod → Option (Int32 × Mod)
  | 0, _, _, _, _, _, _, _ => none
  | fu + 1, x1, x2, x3, x4, x5, x6, u => B_M_poll_79s k66 (B_M_poll_79 k66 fu) x1 x2 x3 x4 x5 x6 u
def B_M_poll_66s (k66 : Int32 → Int32 → Int32 → Int32 → Mod → Option (Int32 × Mod)) (x1 : Int32) (x2 : Int32) (x3 : Int32) (x4 : Int32) (u : Mod) : Option (Int32 × Mod) := if (7 : Int32) ≤ x4 then (if x2 = 0 then (some ((-1 : Int32), u)) else (some (x3, u))) else (B_M_poll_79 k66 FU x1 x2 x3 x4 (0 : Int32) (1 : Int32) u)
def B_M_poll_66 : Nat → Int32 → Int32 → Int32 → Int32 → Mod → Option (Int32 × Mod)
  | 0, _, _, _, _, _ => none
  | fu + 1, x1, x2, x3, x4, u => B_M_poll_66s (B_M_poll_66 fu) x1 x2 x3 x4 u
def B_M_poll_26s (k26 : Int32 → Int32 → Int32 → Int32 → Mod → Option (Int32 × Mod)) (x1 : Int32) (x2 : Int32) (x3 : Int32) (x4 : Int32) (u : Mod) : Option (Int32 × Mod) := if (6 : Int32) ≤ x4 then (B_M_poll_66 FU x1 x2 x3 (0 : Int32) u) else (gd (0 ≤ (((6 : Int32) * x1) + x4).toInt ∧ (((6 : Int32) * x1) + x4).toInt < (126 : Nat)) (if ((m_sm u) (((6 : Int32) * x1) + x4).toNatClampNeg) = (-1 : Int32) then (B_M_poll_55 k26 x1 x3 x4 (0 : Int32) x2 u) else (B_M_poll_55 k26 x1 x3 x4 (1 : Int32) x2 u)))
def B_M_poll_26 : Nat → Int32 → Int32 → Int32 → Int32 → Mod → Option (Int32 × Mod)
  | 0, _, _, _, _, _ => none
  | fu + 1, x1, x2, x3, x4, u => B_M_poll_26s (B_M_poll_26 fu) x1 x2 x3 x4 u
def B_M_poll_0 (x1 : Int32) (u : Mod) : Option (Int32 × Mod) := (B_M_isNumber_0 x1).bind fun v1 => (if v1 = 0 then (some ((-1 : Int32), (m_th_w u (0 : Int32)))) else ((B_M_all_0 (m_th_w u (0 : Int32))).bind fun v3 => (B_M_poll_26 FU x1 (0 : Int32) (7 : Int32) (1 : Int32) v3)))
def B_M_kept_90 (k15 : Int32 → Int32 → Int64 → Int32 → Int32 → Int32 → Mod → Option (Int32 × Mod)) (x1 : Int32) (x2 : Int32) (y3 : Int64) (x5 : Int32) (x6 : Int32) (x7 : Int32) (u : Mod) : Option (Int32 × Mod) := k15 x1 x2 y3 x5 x6 (x7 + (1 : Int32)) u
def B_M_kept_15s (k15 : Int32 → Int32 → Int64 → Int32 → Int32 → Int32 → Mod → Option (Int32 × Mod)) (x1 : Int32) (x2 : Int32) (y3 : Int64) (x5 : Int32) (x6 : Int32) (x7 : Int32) (u : Mod) : Option (Int32 × Mod) := if (m_ct u) ≤ x7 then (some ((-1 : Int32), u)) else ((B_M_isNumber_0 x1).bind fun v2 => (if v2 = 0 then (some ((-1 : Int32), u)) else (if x2 < 0 then (some ((-1 : Int32), u)) else (gd (0 ≤ x7.toInt ∧ x7.toInt < (200 : Nat)) (if ((m_srt u) x7.toNatClampNeg) = (4 : Int32) then (gd (0 ≤ x7.toInt ∧ x7.toInt < (200 : Nat)) (if ((m_bk u) x7.toNatClampNeg) = x1 then (gd (0 ≤ x7.toInt ∧ x7.toInt < (200 : Nat)) (if (lg_cmp (((m_dys u) x7.toNatClampNeg) + (x5.toInt64)) y3) < 0 then (B_M_kept_90 k15 x1 x2 y3 x5 x6 x7 u) else (if x6 = x2 then (gd (0 ≤ x7.toInt ∧ x7.toInt < (200 : Nat)) (some (((m_as u) x7.toNatClampNeg), u))) else (B_M_kept_90 k15 x1 x2 y3 x5 (x6 + (1 : Int32)) x7 u)))) else (B_M_kept_90 k15 x1 x2 y3 x5 x6 x7 u))) else (B_M_kept_90 k15 x1 x2 y3 x5 x6 x7 u))))))
def B_M_kept_15 : Nat → Int32 → Int32 → Int64 → Int32 → Int32 → Int32 → Mod → Option (Int32 × Mod)
  | 0, _, _, _, _, _, _, _ => none
  | fu + 1, x1, x2, y3, x5, x6, x7, u => B_M_kept_15s (B_M_kept_15 fu) x1 x2 y3 x5 x6 x7 u
def B_M_kept_0 (x1 : Int32) (x2 : Int32) (y3 : Int64) (x5 : Int32) (u : Mod) : Option (Int32 × Mod) := (B_M_all_0 (m_th_w u (0 : Int32))).bind fun v1 => (B_M_kept_15 FU x1 x2 y3 x5 (0 : Int32) (0 : Int32) v1)
def B_M_most_0 (x1 : Int32) (u : Mod) : Option (Int32 × Mod) := (B_M_isNumber_0 x1).bind fun v1 => (if v1 = 0 then (some ((-1 : Int32), (m_th_w u (0 : Int32)))) else (if (m_ct (m_th_w u (0 : Int32))) ≤ (100 : Int32) then ((B_M_go_0 (1000000 : Int64) (-1 : Int32) (-1 : Int32) x1 (m_th_w u (0 : Int32))).bind fun v4 => (some ((m_pk v4), v4))) else (some ((-9 : Int32), (m_th_w u (0 : Int32))))))
def B_M_least_94 (k21 : Int32 → Int32 → Mod → Option (Int32 × Mod)) (k31 : Int32 → Int32 → Int32 → Mod → Option (Int32 × Mod)) (x1 : Int32) (x2 : Int32) (x3 : Int32) (u : Mod) : Option (Int32 × Mod) := k31 x1 x2 (x3 + (1 : Int32)) u
def B_M_least_93 (k21 : Int32 → Int32 → Mod → Option (Int32 × Mod)) (k31 : Int32 → Int32 → Int32 → Mod → Option (Int32 × Mod)) (x2 : Int32) (x3 : Int32) (t0 : Int32) (u : Mod) : Option (Int32 × Mod) := B_M_least_94 k21 k31 t0 x2 x3 u
def B_M_least_61 (k21 : Int32 → Int32 → Mod → Option (Int32 × Mod)) (k31 : Int32 → Int32 → Int32 → Mod → Option (Int32 × Mod)) (x1 : Int32) (x2 : Int32) (x3 : Int32) (t0 : Int32) (t1 : Int32) (u : Mod) : Option (Int32 × Mod) := if x1 ≤ (t1 + t0) then (B_M_least_94 k21 k31 x1 x2 x3 u) else ((B_M_go_0 (1000000 : Int64) x2 x3 (-1 : Int32) u).bind fun v2 => (if (m_vd v2) = 0 then (B_M_least_93 k21 k31 x2 x3 (t1 + t0) v2) else (B_M_least_93 k21 k31 x2 x3 x1 v2)))
def B_M_least_56 (k21 : Int32 → Int32 → Mod → Option (Int32 × Mod)) (k31 : Int32 → Int32 → Int32 → Mod → Option (Int32 × Mod)) (x1 : Int32) (x2 : Int32) (x3 : Int32) (t0 : Int32) (u : Mod) : Option (Int32 × Mod) := B_M_least_61 k21 k31 x1 x2 x3 (0 : Int32) t0 u
def B_M_least_46 (k21 : Int32 → Int32 → Mod → Option (Int32 × Mod)) (k31 : Int32 → Int32 → Int32 → Mod → Option (Int32 × Mod)) (x1 : Int32) (x2 : Int32) (x3 : Int32) (t0 : Int32) (u : Mod) : Option (Int32 × Mod) := if x3 = (-1 : Int32) then (B_M_least_56 k21 k31 x1 x2 x3 t0 u) else (if x3 = x2 then (B_M_least_56 k21 k31 x1 x2 x3 t0 u) else (B_M_least_61 k21 k31 x1 x2 x3 (1 : Int32) t0 u))
def B_M_least_31s (k21 : Int32 → Int32 → Mod → Option (Int32 × Mod)) (k31 : Int32 → Int32 → Int32 → Mod → Option (Int32 × Mod)) (x1 : Int32) (x2 : Int32) (x3 : Int32) (u : Mod) : Option (Int32 × Mod) := if x2 < x3 then (k21 x1 (x2 + (1 : Int32)) u) else (if x2 = (-1 : Int32) then (B_M_least_46 k21 k31 x1 x2 x3 (0 : Int32) u) else (B_M_least_46 k21 k31 x1 x2 x3 (1 : Int32) u))
def B_M_least_31 (k21 : Int32 → Int32 → Mod → Option (Int32 × Mod)) : Nat → Int32 → Int32 → Int32 → Mod → Option (Int32 × Mod)
  | 0, _, _, _, _ => none
  | fu + 1, x1, x2, x3, u => B_M_least_31s k21 (B_M_least_31 k21 fu) x1 x2 x3 u
def B_M_least_21s (k21 : Int32 → Int32 → Mod → Option (Int32 × Mod)) (x1 : Int32) (x2 : Int32) (u : Mod) : Option (Int32 × Mod) := if (m_ct u) ≤ x2 then (some (x1, u)) else (B_M_least_31 k21 FU x1 x2 (-1 : Int32) u)
def B_M_least_21 : Nat → Int32 → Int32 → Mod → Option (Int32 × Mod)
  | 0, _, _, _ => none
  | fu + 1, x1, x2, u => B_M_least_21s (B_M_least_21 fu) x1 x2 u
def B_M_least_0 (u : Mod) : Option (Int32 × Mod) := if (m_ct (m_th_w u (0 : Int32))) ≤ (30 : Int32) then (B_M_least_21 FU (3 : Int32) (-1 : Int32) (m_th_w u (0 : Int32))) else (some ((-9 : Int32), (m_th_w u (0 : Int32))))
end
section
section
variable {p : Program} {l : Launch} {e : Env} {s : State} {m : MethodId} {args : Array Value} {below : List Frame} {meth : Method} {c : Code} {D : va_G} {cI cJ cZ : ClassId} {A : Nat → Prop} {n a : Nat}
set_option maxHeartbeats 4000000 in
set_option maxRecDepth 100000 in
theorem w_J_fillJ_6s {res : (Nat → Int64)} (C : Cx p s m args meth c prog_8_method_101_code 5 (Option.none : Option FieldType) "java/util/Arrays" tb D cl9 (tyy cI cJ cZ) A) {k6 : Int64 → Int32 → Int32 → (Nat → Int64) → Option (Nat → Int64)} (hk6 : ∀ (y1 : Int64) (x3 : Int32) (x4 : Int32) (u : (Nat → Int64)) (H : Heap) (locs : List Loc) (ls : Array Slot), va_P D cl9 ((cJJ cJ n a) u) H → va_D A ((cJJ cJ n a) u) → va_S A s.heap H locs → lv_has ls 5 [(0, .ref a), (1, .long y1), (3, .int x3), (4, .int x4)] → k6 y1 x3 x4 u = some res → W p l e rm_J_fillJ s m args below meth c H locs 0 0 (MQ below (Qwv D cl9 (tyy cI cJ cZ) (cJJ cJ n a) A res) args s 0 0 A) (F0 m 6 ls [])) (y1 : Int64) (x3 : Int32) (x4 : Int32) (u : (Nat → Int64)) (H : Heap) (locs : List Loc) (ls : Array Slot) (hP : va_P D cl9 ((cJJ cJ n a) u) H) (hD : va_D A ((cJJ cJ n a) u)) (hS : va_S A s.heap H locs) (hl : lv_has ls 5 [(0, .ref a), (1, .long y1), (3, .int x3), (4, .int x4)]) (hM : B_J_fillJ_6s n k6 y1 x3 x4 u = some res) : W p l e rm_J_fillJ s m args below meth c H locs 0 0 (MQ below (Qwv D cl9 (tyy cI cJ cZ) (cJJ cJ n a) A res) args s 0 0 A) (F0 m 6 ls []) := by
  have C0 := C
  obtain ⟨hx, hb, hr, hml, hown, hts, hlocks, hK, hA⟩ := C
  replace C := C0
  unfold B_J_fillJ_6s at hM
  refine lv_iload_n hx hb d_J_fillJ_6 rfl (lv_at hl 2 rfl) ?_
  refine lv_iload hx hb d_J_fillJ_7 (lv_at hl 3 rfl) ?_
  refine lv_icmp_ge (tgt := 22) hx hb d_J_fillJ_9 (by decide) (fun c1 => ?_) (fun c1 => ?_)
  · replace hM := it_t c1 hM
    obtain rfl := Option.some.inj hM
    exact W.vret hx hb hr (fun t ht hW => ⟨⟨u, rfl, rfl, by rw [ht]; exact hP, va_K.moved hW.alike hK, hD⟩, hS.F ht⟩) hS.2.2 d_J_fillJ_22
  · replace hM := it_f c1 hM
    refine lv_aload_n hx hb d_J_fillJ_12 rfl (lv_at hl 0 rfl) ?_
    refine lv_iload_n hx hb d_J_fillJ_13 rfl (lv_at hl 2 rfl) ?_
    refine lv_lload_n hx hb d_J_fillJ_14 rfl (lv_at hl 1 rfl) ?_
    obtain ⟨h2, hM⟩ := gd_some hM
    refine va_last hx hb hK hP hD hS 0 1 rfl rfl (vp_in_iff.mpr h2) d_J_fillJ_15 (fun H locs hP hD hS => ?_)
    have hP : va_P D cl9 ((cJJ cJ n a) (vp_updL u x3.toNatClampNeg y1)) H := hP
    have hD : va_D A ((cJJ cJ n a) (vp_updL u x3.toNatClampNeg y1)) := hD
    refine lv_iinc (v := (x3 + (1 : Int32))) (lv' := [(3, .int (x3 + (1 : Int32))), (0, .ref a), (1, .long y1), (4, .int x4)]) hx hb d_J_fillJ_16 hl (k := 2) rfl rfl (by decide) rfl (fun ls hl => ?_)
    refine lv_goto (tgt := 6) hx hb d_J_fillJ_19 (by decide) ?_
    exact hk6 y1 (x3 + (1 : Int32)) x4 (vp_updL u x3.toNatClampNeg y1) H locs ls hP hD hS (lv_sub hl [1, 2, 0, 3] rfl) hM
theorem w_J_fillJ_6 {res : (Nat → Int64)} (C : Cx p s m args meth c prog_8_method_101_code 5 (Option.none : Option FieldType) "java/util/Arrays" tb D cl9 (tyy cI cJ cZ) A) : ∀ (fu : Nat) (y1 : Int64) (x3 : Int32) (x4 : Int32) (u : (Nat → Int64)) (H : Heap) (locs : List Loc) (ls : Array Slot), va_P D cl9 ((cJJ cJ n a) u) H → va_D A ((cJJ cJ n a) u) → va_S A s.heap H locs → lv_has ls 5 [(0, .ref a), (1, .long y1), (3, .int x3), (4, .int x4)] → B_J_fillJ_6 n fu y1 x3 x4 u = some res → W p l e rm_J_fillJ s m args below meth c H locs 0 0 (MQ below (Qwv D cl9 (tyy cI cJ cZ) (cJJ cJ n a) A res) args s 0 0 A) (F0 m 6 ls []) := by
  intro fu
  induction fu with
  | zero =>
    intro y1 x3 x4 u H locs ls hP hD hS hl hM
    have hM : (none : Option (Nat → Int64)) = some res := hM
    cases hM
  | succ fu ih =>
    intro y1 x3 x4 u H locs ls hP hD hS hl hM
    exact w_J_fillJ_6s C ih y1 x3 x4 u H locs ls hP hD hS hl hM
set_option maxHeartbeats 4000000 in
set_option maxRecDepth 100000 in
theorem w_J_fillJ_0 {res : (Nat → Int64)} (C : Cx p s m args meth c prog_8_method_101_code 5 (Option.none : Option FieldType) "java/util/Arrays" tb D cl9 (tyy cI cJ cZ) A) (y1 : Int64) (u : (Nat → Int64)) (H : Heap) (locs : List Loc) (ls : Array Slot) (hP : va_P D cl9 ((cJJ cJ n a) u) H) (hD : va_D A ((cJJ cJ n a) u)) (hS : va_S A s.heap H locs) (hl : lv_has ls 5 [(0, .ref a), (1, .long y1)]) (hM : B_J_fillJ_0 n y1 u = some res) : W p l e rm_J_fillJ s m args below meth c H locs 0 0 (MQ below (Qwv D cl9 (tyy cI cJ cZ) (cJJ cJ n a) A res) args s 0 0 A) (F0 m 0 ls []) := by
  have C0 := C
  obtain ⟨hx, hb, hr, hml, hown, hts, hlocks, hK, hA⟩ := C
  replace C := C0
  unfold B_J_fillJ_0 at hM
  refine lv_iconst (v := (0 : Int32)) hx hb d_J_fillJ_0 (by decide) ?_
  refine lv_istore_n (lv' := [(3, .int (0 : Int32)), (0, .ref a), (1, .long y1)]) hx hb d_J_fillJ_1 rfl hl (by decide) rfl (fun ls hl => ?_)
  refine lv_aload_n hx hb d_J_fillJ_2 rfl (lv_at hl 1 rfl) ?_
  refine va_alen (v := (nI (n))) hx hb hK hP 0 1 rfl rfl rfl d_J_fillJ_3 ?_
  refine lv_istore (lv' := [(4, .int (nI (n))), (3, .int (0 : Int32)), (0, .ref a), (1, .long y1)]) hx hb d_J_fillJ_4 hl (by decide) rfl (fun ls hl => ?_)
  exact w_J_fillJ_6 C FU y1 (0 : Int32) (nI (n)) u H locs ls hP hD hS (lv_sub hl [2, 3, 1, 0] rfl) hM
end
set_option maxRecDepth 100000 in
theorem c_J_fillJ (l : Launch) (D : va_G) (cI cJ cZ : ClassId) (n a : Nat) (sz : Nat) (y1 : Int64) (u : (Nat → Int64)) (res : (Nat → Int64)) (hM : B_J_fillJ_0 n y1 u = some res) : Met l y_J_fillJ ws_J_fillJ rm_J_fillJ (va_Pc [.ref a, .long y1] (pr_ D cl9 (tyy cI cJ cZ) (cJJ cJ n a) u sz)) (Qwv D cl9 (tyy cI cJ cZ) (cJJ cJ n a) (va_A ((cJJ cJ n a) u) sz) res) 0 0 (va_A ((cJJ cJ n a) u) sz) := by
  refine Met.ofW (cc := prog_8_method_101_code) (maxL := 5) (ret := (Option.none : Option FieldType)) (by decide) rfl ?_
  intro p e s m args below meth c s₁ B hml hv
  obtain ⟨rfl, hsz, hP, hK, hD0⟩ := hv
  subst hsz
  have hts0 := atoms_spec (ws := ws_J_fillJ) B.pre
  have hl := lv_entry ([.ref a, .long y1]) (n := 5) (Nat.le_of_ble_eq_true rfl)
  rw [lg_entry_eq]
  generalize (lg_sl ([.ref a, .long y1]) ++ List.replicate (5 - (lg_sl ([.ref a, .long y1])).length) Slot.unset).toArray = ls at hl ⊢
  exact w_J_fillJ_0 ⟨B.exec, B.bytes, B.returns, hml, findClass_of_methodNamed B.named, fun w h => hts0 w (List.mem_cons_of_mem _ h), B.notSynchronized, hK, fun q h => Or.inr h⟩ y1 u s.heap [] ls hP hD0.self va_S.rf hl hM
end
section
section
variable {p : Program} {l : Launch} {e : Env} {s : State} {m : MethodId} {args : Array Value} {below : List Frame} {meth : Method} {c : Code} {D : va_G} {cI cJ cZ : ClassId} {A : Nat → Prop} {n a : Nat}
set_option maxHeartbeats 4000000 in
set_option maxRecDepth 100000 in
theorem w_J_fillI_5s {res : (Nat → Int32)} (C : Cx p s m args meth c prog_8_method_103_code 4 (Option.none : Option FieldType) "java/util/Arrays" tb D cl9 (tyy cI cJ cZ) A) {k5 : Int32 → Int32 → Int32 → (Nat → Int32) → Option (Nat → Int32)} (hk5 : ∀ (x1 : Int32) (x2 : Int32) (x3 : Int32) (u : (Nat → Int32)) (H : Heap) (locs : List Loc) (ls : Array Slot), va_P D cl9 ((cJI cI n a) u) H → va_D A ((cJI cI n a) u) → va_S A s.heap H locs → lv_has ls 4 [(0, .ref a), (1, .int x1), (2, .int x2), (3, .int x3)] → k5 x1 x2 x3 u = some res → W p l e rm_J_fillI s m args below meth c H locs 0 0 (MQ below (Qwv D cl9 (tyy cI cJ cZ) (cJI cI n a) A res) args s 0 0 A) (F0 m 5 ls [])) (x1 : Int32) (x2 : Int32) (x3 : Int32) (u : (Nat → Int32)) (H : Heap) (locs : List Loc) (ls : Array Slot) (hP : va_P D cl9 ((cJI cI n a) u) H) (hD : va_D A ((cJI cI n a) u)) (hS : va_S A s.heap H locs) (hl : lv_has ls 4 [(0, .ref a), (1, .int x1), (2, .int x2), (3, .int x3)]) (hM : B_J_fillI_5s n k5 x1 x2 x3 u = some res) : W p l e rm_J_fillI s m args below meth c H locs 0 0 (MQ below (Qwv D cl9 (tyy cI cJ cZ) (cJI cI n a) A res) args s 0 0 A) (F0 m 5 ls []) := by
  have C0 := C
  obtain ⟨hx, hb, hr, hml, hown, hts, hlocks, hK, hA⟩ := C
  replace C := C0
  unfold B_J_fillI_5s at hM
  refine lv_iload_n hx hb d_J_fillI_5 rfl (lv_at hl 2 rfl) ?_
  refine lv_iload_n hx hb d_J_fillI_6 rfl (lv_at hl 3 rfl) ?_
  refine lv_icmp_ge (tgt := 20) hx hb d_J_fillI_7 (by decide) (fun c1 => ?_) (fun c1 => ?_)
  · replace hM := it_t c1 hM
    obtain rfl := Option.some.inj hM
    exact W.vret hx hb hr (fun t ht hW => ⟨⟨u, rfl, rfl, by rw [ht]; exact hP, va_K.moved hW.alike hK, hD⟩, hS.F ht⟩) hS.2.2 d_J_fillI_20
  · replace hM := it_f c1 hM
    refine lv_aload_n hx hb d_J_fillI_10 rfl (lv_at hl 0 rfl) ?_
    refine lv_iload_n hx hb d_J_fillI_11 rfl (lv_at hl 2 rfl) ?_
    refine lv_iload_n hx hb d_J_fillI_12 rfl (lv_at hl 1 rfl) ?_
    obtain ⟨h2, hM⟩ := gd_some hM
    refine va_iast hx hb hK hP hD hS 0 0 rfl rfl (vp_in_iff.mpr h2) d_J_fillI_13 (fun H locs hP hD hS => ?_)
    have hP : va_P D cl9 ((cJI cI n a) (upd u x2.toNatClampNeg x1)) H := hP
    have hD : va_D A ((cJI cI n a) (upd u x2.toNatClampNeg x1)) := hD
    refine lv_iinc (v := (x2 + (1 : Int32))) (lv' := [(2, .int (x2 + (1 : Int32))), (0, .ref a), (1, .int x1), (3, .int x3)]) hx hb d_J_fillI_14 hl (k := 2) rfl rfl (by decide) rfl (fun ls hl => ?_)
    refine lv_goto (tgt := 5) hx hb d_J_fillI_17 (by decide) ?_
    exact hk5 x1 (x2 + (1 : Int32)) x3 (upd u x2.toNatClampNeg x1) H locs ls hP hD hS (lv_sub hl [1, 2, 0, 3] rfl) hM
theorem w_J_fillI_5 {res : (Nat → Int32)} (C : Cx p s m args meth c prog_8_method_103_code 4 (Option.none : Option FieldType) "java/util/Arrays" tb D cl9 (tyy cI cJ cZ) A) : ∀ (fu : Nat) (x1 : Int32) (x2 : Int32) (x3 : Int32) (u : (Nat → Int32)) (H : Heap) (locs : List Loc) (ls : Array Slot), va_P D cl9 ((cJI cI n a) u) H → va_D A ((cJI cI n a) u) → va_S A s.heap H locs → lv_has ls 4 [(0, .ref a), (1, .int x1), (2, .int x2), (3, .int x3)] → B_J_fillI_5 n fu x1 x2 x3 u = some res → W p l e rm_J_fillI s m args below meth c H locs 0 0 (MQ below (Qwv D cl9 (tyy cI cJ cZ) (cJI cI n a) A res) args s 0 0 A) (F0 m 5 ls []) := by
  intro fu
  induction fu with
  | zero =>
    intro x1 x2 x3 u H locs ls hP hD hS hl hM
    have hM : (none : Option (Nat → Int32)) = some res := hM
    cases hM
  | succ fu ih =>
    intro x1 x2 x3 u H locs ls hP hD hS hl hM
    exact w_J_fillI_5s C ih x1 x2 x3 u H locs ls hP hD hS hl hM
set_option maxHeartbeats 4000000 in
set_option maxRecDepth 100000 in
theorem w_J_fillI_0 {res : (Nat → Int32)} (C : Cx p s m args meth c prog_8_method_103_code 4 (Option.none : Option FieldType) "java/util/Arrays" tb D cl9 (tyy cI cJ cZ) A) (x1 : Int32) (u : (Nat → Int32)) (H : Heap) (locs : List Loc) (ls : Array Slot) (hP : va_P D cl9 ((cJI cI n a) u) H) (hD : va_D A ((cJI cI n a) u)) (hS : va_S A s.heap H locs) (hl : lv_has ls 4 [(0, .ref a), (1, .int x1)]) (hM : B_J_fillI_0 n x1 u = some res) : W p l e rm_J_fillI s m args below meth c H locs 0 0 (MQ below (Qwv D cl9 (tyy cI cJ cZ) (cJI cI n a) A res) args s 0 0 A) (F0 m 0 ls []) := by
  have C0 := C
  obtain ⟨hx, hb, hr, hml, hown, hts, hlocks, hK, hA⟩ := C
  replace C := C0
  unfold B_J_fillI_0 at hM
  refine lv_iconst (v := (0 : Int32)) hx hb d_J_fillI_0 (by decide) ?_
  refine lv_istore_n (lv' := [(2, .int (0 : Int32)), (0, .ref a), (1, .int x1)]) hx hb d_J_fillI_1 rfl hl (by decide) rfl (fun ls hl => ?_)
  refine lv_aload_n hx hb d_J_fillI_2 rfl (lv_at hl 1 rfl) ?_
  refine va_alen (v := (nI (n))) hx hb hK hP 0 0 rfl rfl rfl d_J_fillI_3 ?_
  refine lv_istore_n (lv' := [(3, .int (nI (n))), (2, .int (0 : Int32)), (0, .ref a), (1, .int x1)]) hx hb d_J_fillI_4 rfl hl (by decide) rfl (fun ls hl => ?_)
  exact w_J_fillI_5 C FU x1 (0 : Int32) (nI (n)) u H locs ls hP hD hS (lv_sub hl [2, 3, 1, 0] rfl) hM
end
set_option maxRecDepth 100000 in
theorem c_J_fillI (l : Launch) (D : va_G) (cI cJ cZ : ClassId) (n a : Nat) (sz : Nat) (x1 : Int32) (u : (Nat → Int32)) (res : (Nat → Int32)) (hM : B_J_fillI_0 n x1 u = some res) : Met l y_J_fillI ws_J_fillI rm_J_fillI (va_Pc [.ref a, .int x1] (pr_ D cl9 (tyy cI cJ cZ) (cJI cI n a) u sz)) (Qwv D cl9 (tyy cI cJ cZ) (cJI cI n a) (va_A ((cJI cI n a) u) sz) res) 0 0 (va_A ((cJI cI n a) u) sz) := by
  refine Met.ofW (cc := prog_8_method_103_code) (maxL := 4) (ret := (Option.none : Option FieldType)) (by decide) rfl ?_
  intro p e s m args below meth c s₁ B hml hv
  obtain ⟨rfl, hsz, hP, hK, hD0⟩ := hv
  subst hsz
  have hts0 := atoms_spec (ws := ws_J_fillI) B.pre
  have hl := lv_entry ([.ref a, .int x1]) (n := 4) (Nat.le_of_ble_eq_true rfl)
  rw [lg_entry_eq]
  generalize (lg_sl ([.ref a, .int x1]) ++ List.replicate (4 - (lg_sl ([.ref a, .int x1])).length) Slot.unset).toArray = ls at hl ⊢
  exact w_J_fillI_0 ⟨B.exec, B.bytes, B.returns, hml, findClass_of_methodNamed B.named, fun w h => hts0 w (List.mem_cons_of_mem _ h), B.notSynchronized, hK, fun q h => Or.inr h⟩ x1 u s.heap [] ls hP hD0.self va_S.rf hl hM
end
section
section
variable {p : Program} {l : Launch} {e : Env} {s : State} {m : MethodId} {args : Array Value} {below : List Frame} {meth : Method} {c : Code} {D : va_G} {cI cJ cZ : ClassId} {A : Nat → Prop} {ad : Nat → Nat}
set_option maxHeartbeats 4000000 in
set_option maxRecDepth 100000 in
theorem w_S_clear_0 {res : Lib} (C : Cx p s m args meth c prog_3_method_2_code 1 (Option.none : Option FieldType) "PlainLibrary$Shelves" tb D cl9 (tyy cI cJ cZ) A) (u : Lib) (H : Heap) (locs : List Loc) (ls : Array Slot) (hP : va_P D cl9 ((cL cI cJ cZ ad) u) H) (hD : va_D A ((cL cI cJ cZ ad) u)) (hS : va_S A s.heap H locs) (hl : lv_has ls 1 [(0, .ref (ad 6))]) (hM : B_S_clear_0 u = some res) : W p l e rm_S_clear s m args below meth c H locs 0 0 (MQ below (Qwv D cl9 (tyy cI cJ cZ) (cL cI cJ cZ ad) A res) args s 0 0 A) (F0 m 0 ls []) := by
  have C0 := C
  obtain ⟨hx, hb, hr, hml, hown, hts, hlocks, hK, hA⟩ := C
  replace C := C0
  unfold B_S_clear_0 at hM
  refine lv_aload_n hx hb d_S_clear_0 rfl (lv_at hl 0 rfl) ?_
  refine va_get (D := D) (ci := 1) (v := .ref (ad 7)) (C := R_S) (T := T_S) (N := 9) hx hb hts in_S hown hK hP 6 rfl rfl 0 (by decide) (hts _ mm_72) (fun _ h9 => h9) rfl d_S_clear_1 ?_
  refine lv_lconst (v := (0 : Int64)) hx hb d_S_clear_4 (by decide) ?_
  obtain ⟨v1, hq1, hM⟩ := bd_some hM
  refine fj_v (F := (cJJ cJ 42 (ad 7))) (u := (l_hb u)) (res := v1) (ws := ((cL cI cJ cZ ad) u)) (wr := ((((cL cI cJ cZ ad) u)).eraseIdx 7)) (va_runS (As := [.ref (ad 7), .long (0 : Int64)]) (rest := []) ⟨hx, hb, hml, hown, hts⟩ (c_J_fillJ l D cI cJ cZ 42 (ad 7) H.size (0 : Int64) (l_hb u) v1 hq1) (va_cwS 2 hts (gS mm_155 mm_156 mm_32 mm_157) rfl rfl rfl hs_J_fillJ ⟨Nat.le_of_ble_eq_true rfl, Nat.le_of_ble_eq_true rfl⟩) (ps_ (F := (cJJ cJ 42 (ad 7))) (u := (l_hb u)) hK (hP.sub (ws' := (cJJ cJ 42 (ad 7)) (l_hb u)) [7] rfl) (hD.sub (ws' := (cJJ cJ 42 (ad 7)) (l_hb u)) [7] (by decide) rfl)) rfl rfl hl.1 rfl (lv_room (Nat.le_of_ble_eq_true rfl)) d_S_clear_5 ⟨Nat.le_of_ble_eq_true rfl, Nat.le_of_ble_eq_true rfl⟩) hP hD hS (va_free (wc := (cJJ cJ 42 (ad 7)) (l_hb u)) hD hS hA [7] rfl) [7] [0, 1, 2, 3, 4, 5, 6, 8, 9, 10, 11, 12, 13, 14, 15, 16] rfl rfl (by decide) (by decide) (fun H locs hP hD hS => ?_)
  replace hP := hP.sub (ws' := ((cL cI cJ cZ ad) (l_hb_w u v1))) [0, 1, 2, 3, 4, 5, 6, 16, 7, 8, 9, 10, 11, 12, 13, 14, 15] rfl
  replace hD := hD.sub (ws' := ((cL cI cJ cZ ad) (l_hb_w u v1))) [0, 1, 2, 3, 4, 5, 6, 16, 7, 8, 9, 10, 11, 12, 13, 14, 15] (by decide) rfl
  refine lv_aload_n hx hb d_S_clear_8 rfl (lv_at hl 0 rfl) ?_
  refine va_get (D := D) (ci := 1) (v := .ref (ad 8)) (C := R_S) (T := T_S) (N := 9) hx hb hts in_S hown hK hP 6 rfl rfl 1 (by decide) (hts _ mm_73) (fun _ h9 => h9) rfl d_S_clear_9 ?_
  refine lv_iconst (v := (0 : Int32)) hx hb d_S_clear_12 (by decide) ?_
  obtain ⟨v2, hq2, hM⟩ := bd_some hM
  refine fj_v (F := (cJI cI 21 (ad 8))) (u := (l_rec (l_hb_w u v1))) (res := v2) (ws := ((cL cI cJ cZ ad) (l_hb_w u v1))) (wr := ((((cL cI cJ cZ ad) (l_hb_w u v1))).eraseIdx 8)) (va_runS (As := [.ref (ad 8), .int (0 : Int32)]) (rest := []) ⟨hx, hb, hml, hown, hts⟩ (c_J_fillI l D cI cJ cZ 21 (ad 8) H.size (0 : Int32) (l_rec (l_hb_w u v1)) v2 hq2) (va_cwS 2 hts (gS mm_158 mm_159 mm_32 mm_160) rfl rfl rfl hs_J_fillI ⟨Nat.le_of_ble_eq_true rfl, Nat.le_of_ble_eq_true rfl⟩) (ps_ (F := (cJI cI 21 (ad 8))) (u := (l_rec (l_hb_w u v1))) hK (hP.sub (ws' := (cJI cI 21 (ad 8)) (l_rec (l_hb_w u v1))) [8] rfl) (hD.sub (ws' := (cJI cI 21 (ad 8)) (l_rec (l_hb_w u v1))) [8] (by decide) rfl)) rfl rfl hl.1 rfl (lv_room (Nat.le_of_ble_eq_true rfl)) d_S_clear_13 ⟨Nat.le_of_ble_eq_true rfl, Nat.le_of_ble_eq_true rfl⟩) hP hD hS (va_free (wc := (cJI cI 21 (ad 8)) (l_rec (l_hb_w u v1))) hD hS hA [8] rfl) [8] [0, 1, 2, 3, 4, 5, 6, 7, 9, 10, 11, 12, 13, 14, 15, 16] rfl rfl (by decide) (by decide) (fun H locs hP hD hS => ?_)
  replace hP := hP.sub (ws' := ((cL cI cJ cZ ad) (l_rec_w (l_hb_w u v1) v2))) [0, 1, 2, 3, 4, 5, 6, 7, 16, 8, 9, 10, 11, 12, 13, 14, 15] rfl
  replace hD := hD.sub (ws' := ((cL cI cJ cZ ad) (l_rec_w (l_hb_w u v1) v2))) [0, 1, 2, 3, 4, 5, 6, 7, 16, 8, 9, 10, 11, 12, 13, 14, 15] (by decide) rfl
  refine lv_aload_n hx hb d_S_clear_16 rfl (lv_at hl 0 rfl) ?_
  refine va_get (D := D) (ci := 1) (v := .ref (ad 9)) (C := R_S) (T := T_S) (N := 9) hx hb hts in_S hown hK hP 6 rfl rfl 2 (by decide) (hts _ mm_74) (fun _ h9 => h9) rfl d_S_clear_17 ?_
  refine lv_iconst (v := (0 : Int32)) hx hb d_S_clear_20 (by decide) ?_
  obtain ⟨v3, hq3, hM⟩ := bd_some hM
  refine fj_v (F := (cJI cI 21 (ad 9))) (u := (l_per (l_rec_w (l_hb_w u v1) v2))) (res := v3) (ws := ((cL cI cJ cZ ad) (l_rec_w (l_hb_w u v1) v2))) (wr := ((((cL cI cJ cZ ad) (l_rec_w (l_hb_w u v1) v2))).eraseIdx 9)) (va_runS (As := [.ref (ad 9), .int (0 : Int32)]) (rest := []) ⟨hx, hb, hml, hown, hts⟩ (c_J_fillI l D cI cJ cZ 21 (ad 9) H.size (0 : Int32) (l_per (l_rec_w (l_hb_w u v1) v2)) v3 hq3) (va_cwS 2 hts (gS mm_158 mm_159 mm_32 mm_160) rfl rfl rfl hs_J_fillI ⟨Nat.le_of_ble_eq_true rfl, Nat.le_of_ble_eq_true rfl⟩) (ps_ (F := (cJI cI 21 (ad 9))) (u := (l_per (l_rec_w (l_hb_w u v1) v2))) hK (hP.sub (ws' := (cJI cI 21 (ad 9)) (l_per (l_rec_w (l_hb_w u v1) v2))) [9] rfl) (hD.sub (ws' := (cJI cI 21 (ad 9)) (l_per (l_rec_w (l_hb_w u v1) v2))) [9] (by decide) rfl)) rfl rfl hl.1 rfl (lv_room (Nat.le_of_ble_eq_true rfl)) d_S_clear_21 ⟨Nat.le_of_ble_eq_true rfl, Nat.le_of_ble_eq_true rfl⟩) hP hD hS (va_free (wc := (cJI cI 21 (ad 9)) (l_per (l_rec_w (l_hb_w u v1) v2))) hD hS hA [9] rfl) [9] [0, 1, 2, 3, 4, 5, 6, 7, 8, 10, 11, 12, 13, 14, 15, 16] rfl rfl (by decide) (by decide) (fun H locs hP hD hS => ?_)
  replace hP := hP.sub (ws' := ((cL cI cJ cZ ad) (l_per_w (l_rec_w (l_hb_w u v1) v2) v3))) [0, 1, 2, 3, 4, 5, 6, 7, 8, 16, 9, 10, 11, 12, 13, 14, 15] rfl
  replace hD := hD.sub (ws' := ((cL cI cJ cZ ad) (l_per_w (l_rec_w (l_hb_w u v1) v2) v3))) [0, 1, 2, 3, 4, 5, 6, 7, 8, 16, 9, 10, 11, 12, 13, 14, 15] (by decide) rfl
  refine lv_aload_n hx hb d_S_clear_24 rfl (lv_at hl 0 rfl) ?_
  refine va_get (D := D) (ci := 1) (v := .ref (ad 12)) (C := R_S) (T := T_S) (N := 9) hx hb hts in_S hown hK hP 6 rfl rfl 5 (by decide) (hts _ mm_77) (fun _ h9 => h9) rfl d_S_clear_25 ?_
  refine lv_iconst (v := (0 : Int32)) hx hb d_S_clear_28 (by decide) ?_
  obtain ⟨v4, hq4, hM⟩ := bd_some hM
  refine fj_v (F := (cJI cI 21 (ad 12))) (u := (l_ql (l_per_w (l_rec_w (l_hb_w u v1) v2) v3))) (res := v4) (ws := ((cL cI cJ cZ ad) (l_per_w (l_rec_w (l_hb_w u v1) v2) v3))) (wr := ((((cL cI cJ cZ ad) (l_per_w (l_rec_w (l_hb_w u v1) v2) v3))).eraseIdx 12)) (va_runS (As := [.ref (ad 12), .int (0 : Int32)]) (rest := []) ⟨hx, hb, hml, hown, hts⟩ (c_J_fillI l D cI cJ cZ 21 (ad 12) H.size (0 : Int32) (l_ql (l_per_w (l_rec_w (l_hb_w u v1) v2) v3)) v4 hq4) (va_cwS 2 hts (gS mm_158 mm_159 mm_32 mm_160) rfl rfl rfl hs_J_fillI ⟨Nat.le_of_ble_eq_true rfl, Nat.le_of_ble_eq_true rfl⟩) (ps_ (F := (cJI cI 21 (ad 12))) (u := (l_ql (l_per_w (l_rec_w (l_hb_w u v1) v2) v3))) hK (hP.sub (ws' := (cJI cI 21 (ad 12)) (l_ql (l_per_w (l_rec_w (l_hb_w u v1) v2) v3))) [12] rfl) (hD.sub (ws' := (cJI cI 21 (ad 12)) (l_ql (l_per_w (l_rec_w (l_hb_w u v1) v2) v3))) [12] (by decide) rfl)) rfl rfl hl.1 rfl (lv_room (Nat.le_of_ble_eq_true rfl)) d_S_clear_29 ⟨Nat.le_of_ble_eq_true rfl, Nat.le_of_ble_eq_true rfl⟩) hP hD hS (va_free (wc := (cJI cI 21 (ad 12)) (l_ql (l_per_w (l_rec_w (l_hb_w u v1) v2) v3))) hD hS hA [12] rfl) [12] [0, 1, 2, 3, 4, 5, 6, 7, 8, 9, 10, 11, 13, 14, 15, 16] rfl rfl (by decide) (by decide) (fun H locs hP hD hS => ?_)
  replace hP := hP.sub (ws' := ((cL cI cJ cZ ad) (l_ql_w (l_per_w (l_rec_w (l_hb_w u v1) v2) v3) v4))) [0, 1, 2, 3, 4, 5, 6, 7, 8, 9, 10, 11, 16, 12, 13, 14, 15] rfl
  replace hD := hD.sub (ws' := ((cL cI cJ cZ ad) (l_ql_w (l_per_w (l_rec_w (l_hb_w u v1) v2) v3) v4))) [0, 1, 2, 3, 4, 5, 6, 7, 8, 9, 10, 11, 16, 12, 13, 14, 15] (by decide) rfl
  refine lv_aload_n hx hb d_S_clear_32 rfl (lv_at hl 0 rfl) ?_
  refine va_get (D := D) (ci := 1) (v := .ref (ad 13)) (C := R_S) (T := T_S) (N := 9) hx hb hts in_S hown hK hP 6 rfl rfl 6 (by decide) (hts _ mm_78) (fun _ h9 => h9) rfl d_S_clear_33 ?_
  refine lv_iconst (v := (0 : Int32)) hx hb d_S_clear_36 (by decide) ?_
  obtain ⟨v5, hq5, hM⟩ := bd_some hM
  refine fj_v (F := (cJI cI 21 (ad 13))) (u := (l_cls (l_ql_w (l_per_w (l_rec_w (l_hb_w u v1) v2) v3) v4))) (res := v5) (ws := ((cL cI cJ cZ ad) (l_ql_w (l_per_w (l_rec_w (l_hb_w u v1) v2) v3) v4))) (wr := ((((cL cI cJ cZ ad) (l_ql_w (l_per_w (l_rec_w (l_hb_w u v1) v2) v3) v4))).eraseIdx 13)) (va_runS (As := [.ref (ad 13), .int (0 : Int32)]) (rest := []) ⟨hx, hb, hml, hown, hts⟩ (c_J_fillI l D cI cJ cZ 21 (ad 13) H.size (0 : Int32) (l_cls (l_ql_w (l_per_w (l_rec_w (l_hb_w u v1) v2) v3) v4)) v5 hq5) (va_cwS 2 hts (gS mm_158 mm_159 mm_32 mm_160) rfl rfl rfl hs_J_fillI ⟨Nat.le_of_ble_eq_true rfl, Nat.le_of_ble_eq_true rfl⟩) (ps_ (F := (cJI cI 21 (ad 13))) (u := (l_cls (l_ql_w (l_per_w (l_rec_w (l_hb_w u v1) v2) v3) v4))) hK (hP.sub (ws' := (cJI cI 21 (ad 13)) (l_cls (l_ql_w (l_per_w (l_rec_w (l_hb_w u v1) v2) v3) v4))) [13] rfl) (hD.sub (ws' := (cJI cI 21 (ad 13)) (l_cls (l_ql_w (l_per_w (l_rec_w (l_hb_w u v1) v2) v3) v4))) [13] (by decide) rfl)) rfl rfl hl.1 rfl (lv_room (Nat.le_of_ble_eq_true rfl)) d_S_clear_37 ⟨Nat.le_of_ble_eq_true rfl, Nat.le_of_ble_eq_true rfl⟩) hP hD hS (va_free (wc := (cJI cI 21 (ad 13)) (l_cls (l_ql_w (l_per_w (l_rec_w (l_hb_w u v1) v2) v3) v4))) hD hS hA [13] rfl) [13] [0, 1, 2, 3, 4, 5, 6, 7, 8, 9, 10, 11, 12, 14, 15, 16] rfl rfl (by decide) (by decide) (fun H locs hP hD hS => ?_)
  replace hP := hP.sub (ws' := ((cL cI cJ cZ ad) (l_cls_w (l_ql_w (l_per_w (l_rec_w (l_hb_w u v1) v2) v3) v4) v5))) [0, 1, 2, 3, 4, 5, 6, 7, 8, 9, 10, 11, 12, 16, 13, 14, 15] rfl
  replace hD := hD.sub (ws' := ((cL cI cJ cZ ad) (l_cls_w (l_ql_w (l_per_w (l_rec_w (l_hb_w u v1) v2) v3) v4) v5))) [0, 1, 2, 3, 4, 5, 6, 7, 8, 9, 10, 11, 12, 16, 13, 14, 15] (by decide) rfl
  refine lv_aload_n hx hb d_S_clear_40 rfl (lv_at hl 0 rfl) ?_
  refine va_get (D := D) (ci := 1) (v := .ref (ad 14)) (C := R_S) (T := T_S) (N := 9) hx hb hts in_S hown hK hP 6 rfl rfl 7 (by decide) (hts _ mm_79) (fun _ h9 => h9) rfl d_S_clear_41 ?_
  refine lv_bipush (v := (28 : Int32)) hx hb d_S_clear_44 (by decide) ?_
  obtain ⟨v6, hq6, hM⟩ := bd_some hM
  refine fj_v (F := (cJI cI 10 (ad 14))) (u := (l_ln (l_cls_w (l_ql_w (l_per_w (l_rec_w (l_hb_w u v1) v2) v3) v4) v5))) (res := v6) (ws := ((cL cI cJ cZ ad) (l_cls_w (l_ql_w (l_per_w (l_rec_w (l_hb_w u v1) v2) v3) v4) v5))) (wr := ((((cL cI cJ cZ ad) (l_cls_w (l_ql_w (l_per_w (l_rec_w (l_hb_w u v1) v2) v3) v4) v5))).eraseIdx 14)) (va_runS (As := [.ref (ad 14), .int (28 : Int32)]) (rest := []) ⟨hx, hb, hml, hown, hts⟩ (c_J_fillI l D cI cJ cZ 10 (ad 14) H.size (28 : Int32) (l_ln (l_cls_w (l_ql_w (l_per_w (l_rec_w (l_hb_w u v1) v2) v3) v4) v5)) v6 hq6) (va_cwS 2 hts (gS mm_158 mm_159 mm_32 mm_160) rfl rfl rfl hs_J_fillI ⟨Nat.le_of_ble_eq_true rfl, Nat.le_of_ble_eq_true rfl⟩) (ps_ (F := (cJI cI 10 (ad 14))) (u := (l_ln (l_cls_w (l_ql_w (l_per_w (l_rec_w (l_hb_w u v1) v2) v3) v4) v5))) hK (hP.sub (ws' := (cJI cI 10 (ad 14)) (l_ln (l_cls_w (l_ql_w (l_per_w (l_rec_w (l_hb_w u v1) v2) v3) v4) v5))) [14] rfl) (hD.sub (ws' := (cJI cI 10 (ad 14)) (l_ln (l_cls_w (l_ql_w (l_per_w (l_rec_w (l_hb_w u v1) v2) v3) v4) v5))) [14] (by decide) rfl)) rfl rfl hl.1 rfl (lv_room (Nat.le_of_ble_eq_true rfl)) d_S_clear_46 ⟨Nat.le_of_ble_eq_true rfl, Nat.le_of_ble_eq_true rfl⟩) hP hD hS (va_free (wc := (cJI cI 10 (ad 14)) (l_ln (l_cls_w (l_ql_w (l_per_w (l_rec_w (l_hb_w u v1) v2) v3) v4) v5))) hD hS hA [14] rfl) [14] [0, 1, 2, 3, 4, 5, 6, 7, 8, 9, 10, 11, 12, 13, 15, 16] rfl rfl (by decide) (by decide) (fun H locs hP hD hS => ?_)
  replace hP := hP.sub (ws' := ((cL cI cJ cZ ad) (l_ln_w (l_cls_w (l_ql_w (l_per_w (l_rec_w (l_hb_w u v1) v2) v3) v4) v5) v6))) [0, 1, 2, 3, 4, 5, 6, 7, 8, 9, 10, 11, 12, 13, 16, 14, 15] rfl
  replace hD := hD.sub (ws' := ((cL cI cJ cZ ad) (l_ln_w (l_cls_w (l_ql_w (l_per_w (l_rec_w (l_hb_w u v1) v2) v3) v4) v5) v6))) [0, 1, 2, 3, 4, 5, 6, 7, 8, 9, 10, 11, 12, 13, 16, 14, 15] (by decide) rfl
  refine lv_aload_n hx hb d_S_clear_49 rfl (lv_at hl 0 rfl) ?_
  refine va_get (D := D) (ci := 1) (v := .ref (ad 15)) (C := R_S) (T := T_S) (N := 9) hx hb hts in_S hown hK hP 6 rfl rfl 8 (by decide) (hts _ mm_80) (fun _ h9 => h9) rfl d_S_clear_50 ?_
  refine lv_iconst (v := (-1 : Int32)) hx hb d_S_clear_53 (by decide) ?_
  obtain ⟨v7, hq7, hM⟩ := bd_some hM
  refine fj_v (F := (cJI cI 126 (ad 15))) (u := (l_sm (l_ln_w (l_cls_w (l_ql_w (l_per_w (l_rec_w (l_hb_w u v1) v2) v3) v4) v5) v6))) (res := v7) (ws := ((cL cI cJ cZ ad) (l_ln_w (l_cls_w (l_ql_w (l_per_w (l_rec_w (l_hb_w u v1) v2) v3) v4) v5) v6))) (wr := ((((cL cI cJ cZ ad) (l_ln_w (l_cls_w (l_ql_w (l_per_w (l_rec_w (l_hb_w u v1) v2) v3) v4) v5) v6))).eraseIdx 15)) (va_runS (As := [.ref (ad 15), .int (-1 : Int32)]) (rest := []) ⟨hx, hb, hml, hown, hts⟩ (c_J_fillI l D cI cJ cZ 126 (ad 15) H.size (-1 : Int32) (l_sm (l_ln_w (l_cls_w (l_ql_w (l_per_w (l_rec_w (l_hb_w u v1) v2) v3) v4) v5) v6)) v7 hq7) (va_cwS 2 hts (gS mm_158 mm_159 mm_32 mm_160) rfl rfl rfl hs_J_fillI ⟨Nat.le_of_ble_eq_true rfl, Nat.le_of_ble_eq_true rfl⟩) (ps_ (F := (cJI cI 126 (ad 15))) (u := (l_sm (l_ln_w (l_cls_w (l_ql_w (l_per_w (l_rec_w (l_hb_w u v1) v2) v3) v4) v5) v6))) hK (hP.sub (ws' := (cJI cI 126 (ad 15)) (l_sm (l_ln_w (l_cls_w (l_ql_w (l_per_w (l_rec_w (l_hb_w u v1) v2) v3) v4) v5) v6))) [15] rfl) (hD.sub (ws' := (cJI cI 126 (ad 15)) (l_sm (l_ln_w (l_cls_w (l_ql_w (l_per_w (l_rec_w (l_hb_w u v1) v2) v3) v4) v5) v6))) [15] (by decide) rfl)) rfl rfl hl.1 rfl (lv_room (Nat.le_of_ble_eq_true rfl)) d_S_clear_54 ⟨Nat.le_of_ble_eq_true rfl, Nat.le_of_ble_eq_true rfl⟩) hP hD hS (va_free (wc := (cJI cI 126 (ad 15)) (l_sm (l_ln_w (l_cls_w (l_ql_w (l_per_w (l_rec_w (l_hb_w u v1) v2) v3) v4) v5) v6))) hD hS hA [15] rfl) [15] [0, 1, 2, 3, 4, 5, 6, 7, 8, 9, 10, 11, 12, 13, 14, 16] rfl rfl (by decide) (by decide) (fun H locs hP hD hS => ?_)
  replace hP := hP.sub (ws' := ((cL cI cJ cZ ad) (l_sm_w (l_ln_w (l_cls_w (l_ql_w (l_per_w (l_rec_w (l_hb_w u v1) v2) v3) v4) v5) v6) v7))) [0, 1, 2, 3, 4, 5, 6, 7, 8, 9, 10, 11, 12, 13, 14, 16, 15] rfl
  replace hD := hD.sub (ws' := ((cL cI cJ cZ ad) (l_sm_w (l_ln_w (l_cls_w (l_ql_w (l_per_w (l_rec_w (l_hb_w u v1) v2) v3) v4) v5) v6) v7))) [0, 1, 2, 3, 4, 5, 6, 7, 8, 9, 10, 11, 12, 13, 14, 16, 15] (by decide) rfl
  obtain rfl := Option.some.inj hM
  exact W.vret hx hb hr (fun t ht hW => ⟨⟨(l_sm_w (l_ln_w (l_cls_w (l_ql_w (l_per_w (l_rec_w (l_hb_w u v1) v2) v3) v4) v5) v6) v7), rfl, rfl, by rw [ht]; exact hP, va_K.moved hW.alike hK, hD⟩, hS.F ht⟩) hS.2.2 d_S_clear_57
end
set_option maxRecDepth 100000 in
theorem c_S_clear (l : Launch) (D : va_G) (cI cJ cZ : ClassId) (ad : Nat → Nat) (sz : Nat) (u : Lib) (res : Lib) (hM : B_S_clear_0 u = some res) : Met l y_S_clear ws_S_clear rm_S_clear (va_Pc [.ref (ad 6)] (pr_ D cl9 (tyy cI cJ cZ) (cL cI cJ cZ ad) u sz)) (Qwv D cl9 (tyy cI cJ cZ) (cL cI cJ cZ ad) (va_A ((cL cI cJ cZ ad) u) sz) res) 0 0 (va_A ((cL cI cJ cZ ad) u) sz) := by
  refine Met.ofW (cc := prog_3_method_2_code) (maxL := 1) (ret := (Option.none : Option FieldType)) (by decide) rfl ?_
  intro p e s m args below meth c s₁ B hml hv
  obtain ⟨rfl, hsz, hP, hK, hD0⟩ := hv
  subst hsz
  have hts0 := atoms_spec (ws := ws_S_clear) B.pre
  have hl := lv_entry ([.ref (ad 6)]) (n := 1) (Nat.le_of_ble_eq_true rfl)
  rw [lg_entry_eq]
  generalize (lg_sl ([.ref (ad 6)]) ++ List.replicate (1 - (lg_sl ([.ref (ad 6)])).length) Slot.unset).toArray = ls at hl ⊢
  exact w_S_clear_0 ⟨B.exec, B.bytes, B.returns, hml, findClass_of_methodNamed B.named, fun w h => hts0 w (List.mem_cons_of_mem _ h), B.notSynchronized, hK, fun q h => Or.inr h⟩ u s.heap [] ls hP hD0.self va_S.rf hl hM
end
section
section
variable {p : Program} {l : Launch} {e : Env} {s : State} {m : MethodId} {args : Array Value} {below : List Frame} {meth : Method} {c : Code} {D : va_G} {cI cJ cZ : ClassId} {A : Nat → Prop}
set_option maxHeartbeats 4000000 in
set_option maxRecDepth 100000 in
theorem w_S_wordIndex_0 {res : Int32} (C : Cx p s m args meth c prog_3_method_16_code 2 (Option.some FieldType.int) "PlainLibrary$Shelves" tb D cl9 (tyy cI cJ cZ) A) (x0 : Int32) (x1 : Int32) (H : Heap) (locs : List Loc) (ls : Array Slot) (hP : va_P D cl9 (nW ()) H) (hD : va_D (fun _ => True) (nW ())) (hS : va_S A s.heap H locs) (hl : lv_has ls 2 [(0, .int x0), (1, .int x1)]) (hM : B_S_wordIndex_0 x0 x1 = some res) : W p l e rm_S_wordIndex s m args below meth c H locs 0 0 (MQ below (Qri A res) args s 0 0 A) (F0 m 0 ls []) := by
  have C0 := C
  obtain ⟨hx, hb, hr, hml, hown, hts, hlocks, hK, hA⟩ := C
  replace C := C0
  unfold B_S_wordIndex_0 at hM
  refine lv_iload_n hx hb d_S_wordIndex_0 rfl (lv_at hl 0 rfl) ?_
  refine lv_iconst (v := (2 : Int32)) hx hb d_S_wordIndex_1 (by decide) ?_
  refine lv_imul hx hb d_S_wordIndex_2 ?_
  refine lv_iload_n hx hb d_S_wordIndex_3 rfl (lv_at hl 1 rfl) ?_
  refine lv_bipush (v := (64 : Int32)) hx hb d_S_wordIndex_4 (by decide) ?_
  refine lv_idiv hx hb d_S_wordIndex_6 (by decide) ?_
  refine lv_iadd hx hb d_S_wordIndex_7 ?_
  obtain rfl := Option.some.inj hM
  exact W.iret (v := ((x0 * (2 : Int32)) + (x1 / (64 : Int32)))) hx hb hr (fun t ht hW => ⟨⟨((x0 * (2 : Int32)) + (x1 / (64 : Int32))), (), rfl, rfl, trivial⟩, hS.F ht⟩) hS.2.2 d_S_wordIndex_8
end
set_option maxRecDepth 100000 in
theorem c_S_wordIndex (l : Launch) (D : va_G) (cI cJ cZ : ClassId) (sz : Nat) (x0 : Int32) (x1 : Int32) (res : Int32) (hM : B_S_wordIndex_0 x0 x1 = some res) : Met l y_S_wordIndex ws_S_wordIndex rm_S_wordIndex (va_Pc [.int x0, .int x1] (pr_ D cl9 (tyy cI cJ cZ) nW () sz)) (Qri (va_A [] sz) res) 0 0 (va_A [] sz) := by
  refine Met.ofW (cc := prog_3_method_16_code) (maxL := 2) (ret := (Option.some FieldType.int)) (by decide) rfl ?_
  intro p e s m args below meth c s₁ B hml hv
  obtain ⟨rfl, hsz, hP, hK, hD0⟩ := hv
  subst hsz
  have hts0 := atoms_spec (ws := ws_S_wordIndex) B.pre
  have hl := lv_entry ([.int x0, .int x1]) (n := 2) (Nat.le_of_ble_eq_true rfl)
  rw [lg_entry_eq]
  generalize (lg_sl ([.int x0, .int x1]) ++ List.replicate (2 - (lg_sl ([.int x0, .int x1])).length) Slot.unset).toArray = ls at hl ⊢
  exact w_S_wordIndex_0 ⟨B.exec, B.bytes, B.returns, hml, findClass_of_methodNamed B.named, fun w h => hts0 w (List.mem_cons_of_mem _ h), B.notSynchronized, hK, fun q h => Or.inr h⟩ x0 x1 s.heap [] ls hP hD0 va_S.rf hl hM
end
section
section
variable {p : Program} {l : Launch} {e : Env} {s : State} {m : MethodId} {args : Array Value} {below : List Frame} {meth : Method} {c : Code} {D : va_G} {cI cJ cZ : ClassId} {A : Nat → Prop}
set_option maxHeartbeats 4000000 in
set_option maxRecDepth 100000 in
theorem w_S_bitOf_0 {res : Int64} (C : Cx p s m args meth c prog_3_method_17_code 1 (Option.some FieldType.long) "PlainLibrary$Shelves" tb D cl9 (tyy cI cJ cZ) A) (x0 : Int32) (H : Heap) (locs : List Loc) (ls : Array Slot) (hP : va_P D cl9 (nW ()) H) (hD : va_D (fun _ => True) (nW ())) (hS : va_S A s.heap H locs) (hl : lv_has ls 1 [(0, .int x0)]) (hM : B_S_bitOf_0 x0 = some res) : W p l e rm_S_bitOf s m args below meth c H locs 0 0 (MQ below (Qrl A res) args s 0 0 A) (F0 m 0 ls []) := by
  have C0 := C
  obtain ⟨hx, hb, hr, hml, hown, hts, hlocks, hK, hA⟩ := C
  replace C := C0
  unfold B_S_bitOf_0 at hM
  refine lv_lconst (v := (1 : Int64)) hx hb d_S_bitOf_0 (by decide) ?_
  refine lv_iload_n hx hb d_S_bitOf_1 rfl (lv_at hl 0 rfl) ?_
  refine lv_bipush (v := (64 : Int32)) hx hb d_S_bitOf_2 (by decide) ?_
  refine lv_irem hx hb d_S_bitOf_4 (by decide) ?_
  refine lv_lshl (v := (1 : Int64) <<< ((x0 - x0 / (64 : Int32) * (64 : Int32)).toInt64 &&& 63)) hx hb d_S_bitOf_5 rfl ?_
  obtain rfl := Option.some.inj hM
  exact W.lret (v := ((1 : Int64) <<< ((x0 - x0 / (64 : Int32) * (64 : Int32)).toInt64 &&& 63))) hx hb hr (fun t ht hW => ⟨⟨((1 : Int64) <<< ((x0 - x0 / (64 : Int32) * (64 : Int32)).toInt64 &&& 63)), (), rfl, rfl, trivial⟩, hS.F ht⟩) hS.2.2 d_S_bitOf_6
end
set_option maxRecDepth 100000 in
theorem c_S_bitOf (l : Launch) (D : va_G) (cI cJ cZ : ClassId) (sz : Nat) (x0 : Int32) (res : Int64) (hM : B_S_bitOf_0 x0 = some res) : Met l y_S_bitOf ws_S_bitOf rm_S_bitOf (va_Pc [.int x0] (pr_ D cl9 (tyy cI cJ cZ) nW () sz)) (Qrl (va_A [] sz) res) 0 0 (va_A [] sz) := by
  refine Met.ofW (cc := prog_3_method_17_code) (maxL := 1) (ret := (Option.some FieldType.long)) (by decide) rfl ?_
  intro p e s m args below meth c s₁ B hml hv
  obtain ⟨rfl, hsz, hP, hK, hD0⟩ := hv
  subst hsz
  have hts0 := atoms_spec (ws := ws_S_bitOf) B.pre
  have hl := lv_entry ([.int x0]) (n := 1) (Nat.le_of_ble_eq_true rfl)
  rw [lg_entry_eq]
  generalize (lg_sl ([.int x0]) ++ List.replicate (1 - (lg_sl ([.int x0])).length) Slot.unset).toArray = ls at hl ⊢
  exact w_S_bitOf_0 ⟨B.exec, B.bytes, B.returns, hml, findClass_of_methodNamed B.named, fun w h => hts0 w (List.mem_cons_of_mem _ h), B.notSynchronized, hK, fun q h => Or.inr h⟩ x0 s.heap [] ls hP hD0 va_S.rf hl hM
end
section
section
variable {p : Program} {l : Launch} {e : Env} {s : State} {m : MethodId} {args : Array Value} {below : List Frame} {meth : Method} {c : Code} {D : va_G} {cI cJ cZ : ClassId} {A : Nat → Prop} {ad : Nat → Nat}
set_option maxHeartbeats 4000000 in
set_option maxRecDepth 100000 in
theorem w_S_hasHeading_0 {res : Int32} (C : Cx p s m args meth c prog_3_method_9_code 3 (Option.some FieldType.boolean) "PlainLibrary$Shelves" tb D cl9 (tyy cI cJ cZ) A) (x1 : Int32) (x2 : Int32) (u : Lib) (H : Heap) (locs : List Loc) (ls : Array Slot) (hP : va_P D cl9 ((cL cI cJ cZ ad) u) H) (hD : va_D (fun _ => True) ((cL cI cJ cZ ad) u)) (hS : va_S A s.heap H locs) (hl : lv_has ls 3 [(0, .ref (ad 6)), (1, .int x1), (2, .int x2)]) (hM : B_S_hasHeading_0 x1 x2 u = some res) : W p l e rm_S_hasHeading s m args below meth c H locs 0 0 (MQ below (Qri A res) args s 0 0 A) (F0 m 0 ls []) := by
  have C0 := C
  obtain ⟨hx, hb, hr, hml, hown, hts, hlocks, hK, hA⟩ := C
  replace C := C0
  unfold B_S_hasHeading_0 at hM
  refine lv_aload_n hx hb d_S_hasHeading_0 rfl (lv_at hl 0 rfl) ?_
  refine va_get (D := D) (ci := 1) (v := .ref (ad 7)) (C := R_S) (T := T_S) (N := 9) hx hb hts in_S hown hK hP 6 rfl rfl 0 (by decide) (hts _ mm_72) (fun _ h9 => h9) rfl d_S_hasHeading_1 ?_
  refine lv_iload_n hx hb d_S_hasHeading_4 rfl (lv_at hl 1 rfl) ?_
  refine lv_iload_n hx hb d_S_hasHeading_5 rfl (lv_at hl 2 rfl) ?_
  obtain ⟨v1, hq1, hM⟩ := bd_some hM
  refine fr_i (res := v1) (va_runS (As := [.int x1, .int x2]) (rest := [.ref (ad 7)]) ⟨hx, hb, hml, hown, hts⟩ (c_S_wordIndex l D cI cJ cZ H.size x1 x2 v1 hq1) (va_cwS 2 hts (gS mm_177 mm_178 mm_29 mm_179) rfl rfl rfl hs_S_wordIndex ⟨Nat.le_of_ble_eq_true rfl, Nat.le_of_ble_eq_true rfl⟩) (ps_ (F := nW) (u := ()) hK nP (nD (A := fun _ => True))) rfl rfl hl.1 rfl (lv_room (Nat.le_of_ble_eq_true rfl)) d_S_hasHeading_6 ⟨Nat.le_of_ble_eq_true rfl, Nat.le_of_ble_eq_true rfl⟩) hP hS hA (fun H locs hP hS => ?_)
  obtain ⟨h2, hM⟩ := gd_some hM
  refine va_lald hx hb hK hP 7 1 rfl rfl (vp_in_iff.mpr h2) d_S_hasHeading_9 ?_
  refine lv_iload_n hx hb d_S_hasHeading_10 rfl (lv_at hl 2 rfl) ?_
  obtain ⟨v3, hq3, hM⟩ := bd_some hM
  refine fr_l (res := v3) (va_runS (As := [.int x2]) (rest := [.long ((l_hb u) v1.toNatClampNeg)]) ⟨hx, hb, hml, hown, hts⟩ (c_S_bitOf l D cI cJ cZ H.size x2 v3 hq3) (va_cwS 1 hts (gS mm_180 mm_181 mm_29 mm_182) rfl rfl rfl hs_S_bitOf ⟨Nat.le_of_ble_eq_true rfl, Nat.le_of_ble_eq_true rfl⟩) (ps_ (F := nW) (u := ()) hK nP (nD (A := fun _ => True))) rfl rfl hl.1 rfl (lv_room (Nat.le_of_ble_eq_true rfl)) d_S_hasHeading_11 ⟨Nat.le_of_ble_eq_true rfl, Nat.le_of_ble_eq_true rfl⟩) hP hS hA (fun H locs hP hS => ?_)
  refine lv_land hx hb d_S_hasHeading_14 ?_
  refine lv_lconst (v := (0 : Int64)) hx hb d_S_hasHeading_15 (by decide) ?_
  refine W.lcmp hx hb d_S_hasHeading_16 ?_
  refine lv_if_eq (tgt := 24) hx hb d_S_hasHeading_17 (by decide) (fun c4 => ?_) (fun c4 => ?_)
  · replace hM := it_t c4 hM
    refine lv_iconst (v := (0 : Int32)) hx hb d_S_hasHeading_24 (by decide) ?_
    obtain rfl := Option.some.inj hM
    exact W.zret (v := (0 : Int32)) hx hb hr rfl (fun t ht hW => ⟨⟨(0 : Int32), (), rfl, rfl, trivial⟩, hS.F ht⟩) hS.2.2 d_S_hasHeading_25
  · replace hM := it_f c4 hM
    refine lv_iconst (v := (1 : Int32)) hx hb d_S_hasHeading_20 (by decide) ?_
    refine lv_goto (tgt := 25) hx hb d_S_hasHeading_21 (by decide) ?_
    obtain rfl := Option.some.inj hM
    exact W.zret (v := (1 : Int32)) hx hb hr rfl (fun t ht hW => ⟨⟨(1 : Int32), (), rfl, rfl, trivial⟩, hS.F ht⟩) hS.2.2 d_S_hasHeading_25
end
set_option maxRecDepth 100000 in
theorem c_S_hasHeading (l : Launch) (D : va_G) (cI cJ cZ : ClassId) (ad : Nat → Nat) (sz : Nat) (x1 : Int32) (x2 : Int32) (u : Lib) (res : Int32) (hM : B_S_hasHeading_0 x1 x2 u = some res) : Met l y_S_hasHeading ws_S_hasHeading rm_S_hasHeading (va_Pc [.ref (ad 6), .int x1, .int x2] (pr_ D cl9 (tyy cI cJ cZ) (cL cI cJ cZ ad) u sz)) (Qri (va_A [] sz) res) 0 0 (va_A [] sz) := by
  refine Met.ofW (cc := prog_3_method_9_code) (maxL := 3) (ret := (Option.some FieldType.boolean)) (by decide) rfl ?_
  intro p e s m args below meth c s₁ B hml hv
  obtain ⟨rfl, hsz, hP, hK, hD0⟩ := hv
  subst hsz
  have hts0 := atoms_spec (ws := ws_S_hasHeading) B.pre
  have hl := lv_entry ([.ref (ad 6), .int x1, .int x2]) (n := 3) (Nat.le_of_ble_eq_true rfl)
  rw [lg_entry_eq]
  generalize (lg_sl ([.ref (ad 6), .int x1, .int x2]) ++ List.replicate (3 - (lg_sl ([.ref (ad 6), .int x1, .int x2])).length) Slot.unset).toArray = ls at hl ⊢
  exact w_S_hasHeading_0 ⟨B.exec, B.bytes, B.returns, hml, findClass_of_methodNamed B.named, fun w h => hts0 w (List.mem_cons_of_mem _ h), B.notSynchronized, hK, fun q h => Or.inr h⟩ x1 x2 u s.heap [] ls hP hD0 va_S.rf hl hM
end
section
section
variable {p : Program} {l : Launch} {e : Env} {s : State} {m : MethodId} {args : Array Value} {below : List Frame} {meth : Method} {c : Code} {D : va_G} {cI cJ cZ : ClassId} {A : Nat → Prop} {ad : Nat → Nat}
set_option maxHeartbeats 4000000 in
set_option maxRecDepth 100000 in
theorem w_S_addHeading_0 {res : (Int32 × Lib)} (C : Cx p s m args meth c prog_3_method_18_code 3 (Option.some FieldType.boolean) "PlainLibrary$Shelves" tb D cl9 (tyy cI cJ cZ) A) (x1 : Int32) (x2 : Int32) (u : Lib) (H : Heap) (locs : List Loc) (ls : Array Slot) (hP : va_P D cl9 ((cL cI cJ cZ ad) u) H) (hD : va_D A ((cL cI cJ cZ ad) u)) (hS : va_S A s.heap H locs) (hl : lv_has ls 3 [(0, .ref (ad 6)), (1, .int x1), (2, .int x2)]) (hM : B_S_addHeading_0 x1 x2 u = some res) : W p l e rm_S_addHeading s m args below meth c H locs 0 0 (MQ below (Qwi D cl9 (tyy cI cJ cZ) (cL cI cJ cZ ad) A res) args s 0 0 A) (F0 m 0 ls []) := by
  have C0 := C
  obtain ⟨hx, hb, hr, hml, hown, hts, hlocks, hK, hA⟩ := C
  replace C := C0
  unfold B_S_addHeading_0 at hM
  refine lv_aload_n hx hb d_S_addHeading_0 rfl (lv_at hl 0 rfl) ?_
  refine lv_iload_n hx hb d_S_addHeading_1 rfl (lv_at hl 1 rfl) ?_
  refine lv_iload_n hx hb d_S_addHeading_2 rfl (lv_at hl 2 rfl) ?_
  obtain ⟨v1, hq1, hM⟩ := bd_some hM
  refine fr_i (res := v1) (va_runV (As := [.int x1, .int x2]) (rest := []) ⟨hx, hb, hml, hown, hts⟩ (c_S_hasHeading l D cI cJ cZ ad H.size x1 x2 u v1 hq1) (cwV 2 hts (gV mm_173 mm_174 mm_175 mm_29 mm_176) rfl rfl rfl hd_S_hasHeading ⟨Nat.le_of_ble_eq_true rfl, Nat.le_of_ble_eq_true rfl⟩) (pv_ (F := (cL cI cJ cZ ad)) (u := u) hK hP hD (va_recv hK hP (ci := 1) (q0 := 6) rfl rfl)) rfl rfl hl.1 rfl (lv_room (Nat.le_of_ble_eq_true rfl)) d_S_addHeading_3 ⟨Nat.le_of_ble_eq_true rfl, Nat.le_of_ble_eq_true rfl⟩) hP hS hA (fun H locs hP hS => ?_)
  refine lv_if_eq (tgt := 11) hx hb d_S_addHeading_6 (by decide) (fun c2 => ?_) (fun c2 => ?_)
  · replace hM := it_t c2 hM
    refine lv_aload_n hx hb d_S_addHeading_11 rfl (lv_at hl 0 rfl) ?_
    refine va_get (D := D) (ci := 1) (v := .ref (ad 7)) (C := R_S) (T := T_S) (N := 9) hx hb hts in_S hown hK hP 6 rfl rfl 0 (by decide) (hts _ mm_72) (fun _ h9 => h9) rfl d_S_addHeading_12 ?_
    refine lv_iload_n hx hb d_S_addHeading_15 rfl (lv_at hl 1 rfl) ?_
    refine lv_iload_n hx hb d_S_addHeading_16 rfl (lv_at hl 2 rfl) ?_
    obtain ⟨v3, hq3, hM⟩ := bd_some hM
    refine fr_i (res := v3) (va_runS (As := [.int x1, .int x2]) (rest := [.ref (ad 7)]) ⟨hx, hb, hml, hown, hts⟩ (c_S_wordIndex l D cI cJ cZ H.size x1 x2 v3 hq3) (va_cwS 2 hts (gS mm_177 mm_178 mm_29 mm_179) rfl rfl rfl hs_S_wordIndex ⟨Nat.le_of_ble_eq_true rfl, Nat.le_of_ble_eq_true rfl⟩) (ps_ (F := nW) (u := ()) hK nP (nD (A := fun _ => True))) rfl rfl hl.1 rfl (lv_room (Nat.le_of_ble_eq_true rfl)) d_S_addHeading_17 ⟨Nat.le_of_ble_eq_true rfl, Nat.le_of_ble_eq_true rfl⟩) hP hS hA (fun H locs hP hS => ?_)
    refine lv_dup2_11 hx hb d_S_addHeading_20 rfl rfl ?_
    obtain ⟨h4, hM⟩ := gd_some hM
    refine va_lald hx hb hK hP 7 1 rfl rfl (vp_in_iff.mpr h4) d_S_addHeading_21 ?_
    refine lv_iload_n hx hb d_S_addHeading_22 rfl (lv_at hl 2 rfl) ?_
    obtain ⟨v5, hq5, hM⟩ := bd_some hM
    refine fr_l (res := v5) (va_runS (As := [.int x2]) (rest := [.long ((l_hb u) v3.toNatClampNeg), .int v3, .ref (ad 7)]) ⟨hx, hb, hml, hown, hts⟩ (c_S_bitOf l D cI cJ cZ H.size x2 v5 hq5) (va_cwS 1 hts (gS mm_180 mm_181 mm_29 mm_182) rfl rfl rfl hs_S_bitOf ⟨Nat.le_of_ble_eq_true rfl, Nat.le_of_ble_eq_true rfl⟩) (ps_ (F := nW) (u := ()) hK nP (nD (A := fun _ => True))) rfl rfl hl.1 rfl (lv_room (Nat.le_of_ble_eq_true rfl)) d_S_addHeading_23 ⟨Nat.le_of_ble_eq_true rfl, Nat.le_of_ble_eq_true rfl⟩) hP hS hA (fun H locs hP hS => ?_)
    refine lv_lor hx hb d_S_addHeading_26 ?_
    obtain ⟨h6, hM⟩ := gd_some hM
    refine va_last hx hb hK hP hD hS 7 1 rfl rfl (vp_in_iff.mpr h6) d_S_addHeading_27 (fun H locs hP hD hS => ?_)
    have hP : va_P D cl9 ((cL cI cJ cZ ad) (l_hb_w u (vp_updL (l_hb u) v3.toNatClampNeg (((l_hb u) v3.toNatClampNeg) ||| v5)))) H := hP
    have hD : va_D A ((cL cI cJ cZ ad) (l_hb_w u (vp_updL (l_hb u) v3.toNatClampNeg (((l_hb u) v3.toNatClampNeg) ||| v5)))) := hD
    refine lv_iconst (v := (1 : Int32)) hx hb d_S_addHeading_28 (by decide) ?_
    obtain rfl := Option.some.inj hM
    exact W.zret (v := (1 : Int32)) hx hb hr rfl (fun t ht hW => ⟨⟨(1 : Int32), (l_hb_w u (vp_updL (l_hb u) v3.toNatClampNeg (((l_hb u) v3.toNatClampNeg) ||| v5))), rfl, rfl, by rw [ht]; exact hP, va_K.moved hW.alike hK, hD⟩, hS.F ht⟩) hS.2.2 d_S_addHeading_29
  · replace hM := it_f c2 hM
    refine lv_iconst (v := (0 : Int32)) hx hb d_S_addHeading_9 (by decide) ?_
    obtain rfl := Option.some.inj hM
    exact W.zret (v := (0 : Int32)) hx hb hr rfl (fun t ht hW => ⟨⟨(0 : Int32), u, rfl, rfl, by rw [ht]; exact hP, va_K.moved hW.alike hK, hD⟩, hS.F ht⟩) hS.2.2 d_S_addHeading_10
end
set_option maxRecDepth 100000 in
theorem c_S_addHeading (l : Launch) (D : va_G) (cI cJ cZ : ClassId) (ad : Nat → Nat) (sz : Nat) (x1 : Int32) (x2 : Int32) (u : Lib) (res : (Int32 × Lib)) (hM : B_S_addHeading_0 x1 x2 u = some res) : Met l y_S_addHeading ws_S_addHeading rm_S_addHeading (va_Pc [.ref (ad 6), .int x1, .int x2] (pr_ D cl9 (tyy cI cJ cZ) (cL cI cJ cZ ad) u sz)) (Qwi D cl9 (tyy cI cJ cZ) (cL cI cJ cZ ad) (va_A ((cL cI cJ cZ ad) u) sz) res) 0 0 (va_A ((cL cI cJ cZ ad) u) sz) := by
  refine Met.ofW (cc := prog_3_method_18_code) (maxL := 3) (ret := (Option.some FieldType.boolean)) (by decide) rfl ?_
  intro p e s m args below meth c s₁ B hml hv
  obtain ⟨rfl, hsz, hP, hK, hD0⟩ := hv
  subst hsz
  have hts0 := atoms_spec (ws := ws_S_addHeading) B.pre
  have hl := lv_entry ([.ref (ad 6), .int x1, .int x2]) (n := 3) (Nat.le_of_ble_eq_true rfl)
  rw [lg_entry_eq]
  generalize (lg_sl ([.ref (ad 6), .int x1, .int x2]) ++ List.replicate (3 - (lg_sl ([.ref (ad 6), .int x1, .int x2])).length) Slot.unset).toArray = ls at hl ⊢
  exact w_S_addHeading_0 ⟨B.exec, B.bytes, B.returns, hml, findClass_of_methodNamed B.named, fun w h => hts0 w (List.mem_cons_of_mem _ h), B.notSynchronized, hK, fun q h => Or.inr h⟩ x1 x2 u s.heap [] ls hP hD0.self va_S.rf hl hM
end
section
section
variable {p : Program} {l : Launch} {e : Env} {s : State} {m : MethodId} {args : Array Value} {below : List Frame} {meth : Method} {c : Code} {D : va_G} {cI cJ cZ : ClassId} {A : Nat → Prop} {ad : Nat → Nat}
set_option maxHeartbeats 4000000 in
set_option maxRecDepth 100000 in
theorem w_S_dropHeading_0 {res : (Int32 × Lib)} (C : Cx p s m args meth c prog_3_method_19_code 3 (Option.some FieldType.boolean) "PlainLibrary$Shelves" tb D cl9 (tyy cI cJ cZ) A) (x1 : Int32) (x2 : Int32) (u : Lib) (H : Heap) (locs : List Loc) (ls : Array Slot) (hP : va_P D cl9 ((cL cI cJ cZ ad) u) H) (hD : va_D A ((cL cI cJ cZ ad) u)) (hS : va_S A s.heap H locs) (hl : lv_has ls 3 [(0, .ref (ad 6)), (1, .int x1), (2, .int x2)]) (hM : B_S_dropHeading_0 x1 x2 u = some res) : W p l e rm_S_dropHeading s m args below meth c H locs 0 0 (MQ below (Qwi D cl9 (tyy cI cJ cZ) (cL cI cJ cZ ad) A res) args s 0 0 A) (F0 m 0 ls []) := by
  have C0 := C
  obtain ⟨hx, hb, hr, hml, hown, hts, hlocks, hK, hA⟩ := C
  replace C := C0
  unfold B_S_dropHeading_0 at hM
  refine lv_aload_n hx hb d_S_dropHeading_0 rfl (lv_at hl 0 rfl) ?_
  refine lv_iload_n hx hb d_S_dropHeading_1 rfl (lv_at hl 1 rfl) ?_
  refine lv_iload_n hx hb d_S_dropHeading_2 rfl (lv_at hl 2 rfl) ?_
  obtain ⟨v1, hq1, hM⟩ := bd_some hM
  refine fr_i (res := v1) (va_runV (As := [.int x1, .int x2]) (rest := []) ⟨hx, hb, hml, hown, hts⟩ (c_S_hasHeading l D cI cJ cZ ad H.size x1 x2 u v1 hq1) (cwV 2 hts (gV mm_173 mm_174 mm_175 mm_29 mm_176) rfl rfl rfl hd_S_hasHeading ⟨Nat.le_of_ble_eq_true rfl, Nat.le_of_ble_eq_true rfl⟩) (pv_ (F := (cL cI cJ cZ ad)) (u := u) hK hP hD (va_recv hK hP (ci := 1) (q0 := 6) rfl rfl)) rfl rfl hl.1 rfl (lv_room (Nat.le_of_ble_eq_true rfl)) d_S_dropHeading_3 ⟨Nat.le_of_ble_eq_true rfl, Nat.le_of_ble_eq_true rfl⟩) hP hS hA (fun H locs hP hS => ?_)
  refine lv_if_ne (tgt := 11) hx hb d_S_dropHeading_6 (by decide) (fun c2 => ?_) (fun c2 => ?_)
  · replace hM := it_f c2 hM
    refine lv_aload_n hx hb d_S_dropHeading_11 rfl (lv_at hl 0 rfl) ?_
    refine va_get (D := D) (ci := 1) (v := .ref (ad 7)) (C := R_S) (T := T_S) (N := 9) hx hb hts in_S hown hK hP 6 rfl rfl 0 (by decide) (hts _ mm_72) (fun _ h9 => h9) rfl d_S_dropHeading_12 ?_
    refine lv_iload_n hx hb d_S_dropHeading_15 rfl (lv_at hl 1 rfl) ?_
    refine lv_iload_n hx hb d_S_dropHeading_16 rfl (lv_at hl 2 rfl) ?_
    obtain ⟨v3, hq3, hM⟩ := bd_some hM
    refine fr_i (res := v3) (va_runS (As := [.int x1, .int x2]) (rest := [.ref (ad 7)]) ⟨hx, hb, hml, hown, hts⟩ (c_S_wordIndex l D cI cJ cZ H.size x1 x2 v3 hq3) (va_cwS 2 hts (gS mm_177 mm_178 mm_29 mm_179) rfl rfl rfl hs_S_wordIndex ⟨Nat.le_of_ble_eq_true rfl, Nat.le_of_ble_eq_true rfl⟩) (ps_ (F := nW) (u := ()) hK nP (nD (A := fun _ => True))) rfl rfl hl.1 rfl (lv_room (Nat.le_of_ble_eq_true rfl)) d_S_dropHeading_17 ⟨Nat.le_of_ble_eq_true rfl, Nat.le_of_ble_eq_true rfl⟩) hP hS hA (fun H locs hP hS => ?_)
    refine lv_dup2_11 hx hb d_S_dropHeading_20 rfl rfl ?_
    obtain ⟨h4, hM⟩ := gd_some hM
    refine va_lald hx hb hK hP 7 1 rfl rfl (vp_in_iff.mpr h4) d_S_dropHeading_21 ?_
    refine lv_iload_n hx hb d_S_dropHeading_22 rfl (lv_at hl 2 rfl) ?_
    obtain ⟨v5, hq5, hM⟩ := bd_some hM
    refine fr_l (res := v5) (va_runS (As := [.int x2]) (rest := [.long ((l_hb u) v3.toNatClampNeg), .int v3, .ref (ad 7)]) ⟨hx, hb, hml, hown, hts⟩ (c_S_bitOf l D cI cJ cZ H.size x2 v5 hq5) (va_cwS 1 hts (gS mm_180 mm_181 mm_29 mm_182) rfl rfl rfl hs_S_bitOf ⟨Nat.le_of_ble_eq_true rfl, Nat.le_of_ble_eq_true rfl⟩) (ps_ (F := nW) (u := ()) hK nP (nD (A := fun _ => True))) rfl rfl hl.1 rfl (lv_room (Nat.le_of_ble_eq_true rfl)) d_S_dropHeading_23 ⟨Nat.le_of_ble_eq_true rfl, Nat.le_of_ble_eq_true rfl⟩) hP hS hA (fun H locs hP hS => ?_)
    refine lv_ldc2 (v := (-1 : Int64)) hx hb hown (hts _ mm_187) d_S_dropHeading_26 ?_
    refine lv_lxor hx hb d_S_dropHeading_29 ?_
    refine lv_land hx hb d_S_dropHeading_30 ?_
    obtain ⟨h6, hM⟩ := gd_some hM
    refine va_last hx hb hK hP hD hS 7 1 rfl rfl (vp_in_iff.mpr h6) d_S_dropHeading_31 (fun H locs hP hD hS => ?_)
    have hP : va_P D cl9 ((cL cI cJ cZ ad) (l_hb_w u (vp_updL (l_hb u) v3.toNatClampNeg (((l_hb u) v3.toNatClampNeg) &&& (v5 ^^^ (-1 : Int64)))))) H := hP
    have hD : va_D A ((cL cI cJ cZ ad) (l_hb_w u (vp_updL (l_hb u) v3.toNatClampNeg (((l_hb u) v3.toNatClampNeg) &&& (v5 ^^^ (-1 : Int64)))))) := hD
    refine lv_iconst (v := (1 : Int32)) hx hb d_S_dropHeading_32 (by decide) ?_
    obtain rfl := Option.some.inj hM
    exact W.zret (v := (1 : Int32)) hx hb hr rfl (fun t ht hW => ⟨⟨(1 : Int32), (l_hb_w u (vp_updL (l_hb u) v3.toNatClampNeg (((l_hb u) v3.toNatClampNeg) &&& (v5 ^^^ (-1 : Int64))))), rfl, rfl, by rw [ht]; exact hP, va_K.moved hW.alike hK, hD⟩, hS.F ht⟩) hS.2.2 d_S_dropHeading_33
  · replace hM := it_t c2 hM
    refine lv_iconst (v := (0 : Int32)) hx hb d_S_dropHeading_9 (by decide) ?_
    obtain rfl := Option.some.inj hM
    exact W.zret (v := (0 : Int32)) hx hb hr rfl (fun t ht hW => ⟨⟨(0 : Int32), u, rfl, rfl, by rw [ht]; exact hP, va_K.moved hW.alike hK, hD⟩, hS.F ht⟩) hS.2.2 d_S_dropHeading_10
end
set_option maxRecDepth 100000 in
theorem c_S_dropHeading (l : Launch) (D : va_G) (cI cJ cZ : ClassId) (ad : Nat → Nat) (sz : Nat) (x1 : Int32) (x2 : Int32) (u : Lib) (res : (Int32 × Lib)) (hM : B_S_dropHeading_0 x1 x2 u = some res) : Met l y_S_dropHeading ws_S_dropHeading rm_S_dropHeading (va_Pc [.ref (ad 6), .int x1, .int x2] (pr_ D cl9 (tyy cI cJ cZ) (cL cI cJ cZ ad) u sz)) (Qwi D cl9 (tyy cI cJ cZ) (cL cI cJ cZ ad) (va_A ((cL cI cJ cZ ad) u) sz) res) 0 0 (va_A ((cL cI cJ cZ ad) u) sz) := by
  refine Met.ofW (cc := prog_3_method_19_code) (maxL := 3) (ret := (Option.some FieldType.boolean)) (by decide) rfl ?_
  intro p e s m args below meth c s₁ B hml hv
  obtain ⟨rfl, hsz, hP, hK, hD0⟩ := hv
  subst hsz
  have hts0 := atoms_spec (ws := ws_S_dropHeading) B.pre
  have hl := lv_entry ([.ref (ad 6), .int x1, .int x2]) (n := 3) (Nat.le_of_ble_eq_true rfl)
  rw [lg_entry_eq]
  generalize (lg_sl ([.ref (ad 6), .int x1, .int x2]) ++ List.replicate (3 - (lg_sl ([.ref (ad 6), .int x1, .int x2])).length) Slot.unset).toArray = ls at hl ⊢
  exact w_S_dropHeading_0 ⟨B.exec, B.bytes, B.returns, hml, findClass_of_methodNamed B.named, fun w h => hts0 w (List.mem_cons_of_mem _ h), B.notSynchronized, hK, fun q h => Or.inr h⟩ x1 x2 u s.heap [] ls hP hD0.self va_S.rf hl hM
end
section
section
variable {p : Program} {l : Launch} {e : Env} {s : State} {m : MethodId} {args : Array Value} {below : List Frame} {meth : Method} {c : Code} {D : va_G} {cI cJ cZ : ClassId} {A : Nat → Prop} {ad : Nat → Nat}
set_option maxHeartbeats 4000000 in
set_option maxRecDepth 100000 in
theorem w_S_setRecord_0 {res : (Int32 × Lib)} (C : Cx p s m args meth c prog_3_method_20_code 3 (Option.some FieldType.boolean) "PlainLibrary$Shelves" tb D cl9 (tyy cI cJ cZ) A) (x1 : Int32) (x2 : Int32) (u : Lib) (H : Heap) (locs : List Loc) (ls : Array Slot) (hP : va_P D cl9 ((cL cI cJ cZ ad) u) H) (hD : va_D A ((cL cI cJ cZ ad) u)) (hS : va_S A s.heap H locs) (hl : lv_has ls 3 [(0, .ref (ad 6)), (1, .int x1), (2, .int x2)]) (hM : B_S_setRecord_0 x1 x2 u = some res) : W p l e rm_S_setRecord s m args below meth c H locs 0 0 (MQ below (Qwi D cl9 (tyy cI cJ cZ) (cL cI cJ cZ ad) A res) args s 0 0 A) (F0 m 0 ls []) := by
  have C0 := C
  obtain ⟨hx, hb, hr, hml, hown, hts, hlocks, hK, hA⟩ := C
  replace C := C0
  unfold B_S_setRecord_0 at hM
  refine lv_aload_n hx hb d_S_setRecord_0 rfl (lv_at hl 0 rfl) ?_
  refine va_get (D := D) (ci := 1) (v := .ref (ad 9)) (C := R_S) (T := T_S) (N := 9) hx hb hts in_S hown hK hP 6 rfl rfl 2 (by decide) (hts _ mm_74) (fun _ h9 => h9) rfl d_S_setRecord_1 ?_
  refine lv_iload_n hx hb d_S_setRecord_4 rfl (lv_at hl 1 rfl) ?_
  obtain ⟨h1, hM⟩ := gd_some hM
  refine va_iald hx hb hK hP 9 0 rfl rfl (vp_in_iff.mpr h1) d_S_setRecord_5 ?_
  refine lv_if_eq (tgt := 11) hx hb d_S_setRecord_6 (by decide) (fun c2 => ?_) (fun c2 => ?_)
  · replace hM := it_t c2 hM
    refine lv_aload_n hx hb d_S_setRecord_11 rfl (lv_at hl 0 rfl) ?_
    refine va_get (D := D) (ci := 1) (v := .ref (ad 8)) (C := R_S) (T := T_S) (N := 9) hx hb hts in_S hown hK hP 6 rfl rfl 1 (by decide) (hts _ mm_73) (fun _ h9 => h9) rfl d_S_setRecord_12 ?_
    refine lv_iload_n hx hb d_S_setRecord_15 rfl (lv_at hl 1 rfl) ?_
    refine lv_iload_n hx hb d_S_setRecord_16 rfl (lv_at hl 2 rfl) ?_
    obtain ⟨h3, hM⟩ := gd_some hM
    refine va_iast hx hb hK hP hD hS 8 0 rfl rfl (vp_in_iff.mpr h3) d_S_setRecord_17 (fun H locs hP hD hS => ?_)
    have hP : va_P D cl9 ((cL cI cJ cZ ad) (l_rec_w u (upd (l_rec u) x1.toNatClampNeg x2))) H := hP
    have hD : va_D A ((cL cI cJ cZ ad) (l_rec_w u (upd (l_rec u) x1.toNatClampNeg x2))) := hD
    refine lv_iconst (v := (1 : Int32)) hx hb d_S_setRecord_18 (by decide) ?_
    obtain rfl := Option.some.inj hM
    exact W.zret (v := (1 : Int32)) hx hb hr rfl (fun t ht hW => ⟨⟨(1 : Int32), (l_rec_w u (upd (l_rec u) x1.toNatClampNeg x2)), rfl, rfl, by rw [ht]; exact hP, va_K.moved hW.alike hK, hD⟩, hS.F ht⟩) hS.2.2 d_S_setRecord_19
  · replace hM := it_f c2 hM
    refine lv_iconst (v := (0 : Int32)) hx hb d_S_setRecord_9 (by decide) ?_
    obtain rfl := Option.some.inj hM
    exact W.zret (v := (0 : Int32)) hx hb hr rfl (fun t ht hW => ⟨⟨(0 : Int32), u, rfl, rfl, by rw [ht]; exact hP, va_K.moved hW.alike hK, hD⟩, hS.F ht⟩) hS.2.2 d_S_setRecord_10
end
set_option maxRecDepth 100000 in
theorem c_S_setRecord (l : Launch) (D : va_G) (cI cJ cZ : ClassId) (ad : Nat → Nat) (sz : Nat) (x1 : Int32) (x2 : Int32) (u : Lib) (res : (Int32 × Lib)) (hM : B_S_setRecord_0 x1 x2 u = some res) : Met l y_S_setRecord ws_S_setRecord rm_S_setRecord (va_Pc [.ref (ad 6), .int x1, .int x2] (pr_ D cl9 (tyy cI cJ cZ) (cL cI cJ cZ ad) u sz)) (Qwi D cl9 (tyy cI cJ cZ) (cL cI cJ cZ ad) (va_A ((cL cI cJ cZ ad) u) sz) res) 0 0 (va_A ((cL cI cJ cZ ad) u) sz) := by
  refine Met.ofW (cc := prog_3_method_20_code) (maxL := 3) (ret := (Option.some FieldType.boolean)) (by decide) rfl ?_
  intro p e s m args below meth c s₁ B hml hv
  obtain ⟨rfl, hsz, hP, hK, hD0⟩ := hv
  subst hsz
  have hts0 := atoms_spec (ws := ws_S_setRecord) B.pre
  have hl := lv_entry ([.ref (ad 6), .int x1, .int x2]) (n := 3) (Nat.le_of_ble_eq_true rfl)
  rw [lg_entry_eq]
  generalize (lg_sl ([.ref (ad 6), .int x1, .int x2]) ++ List.replicate (3 - (lg_sl ([.ref (ad 6), .int x1, .int x2])).length) Slot.unset).toArray = ls at hl ⊢
  exact w_S_setRecord_0 ⟨B.exec, B.bytes, B.returns, hml, findClass_of_methodNamed B.named, fun w h => hts0 w (List.mem_cons_of_mem _ h), B.notSynchronized, hK, fun q h => Or.inr h⟩ x1 x2 u s.heap [] ls hP hD0.self va_S.rf hl hM
end
section
section
variable {p : Program} {l : Launch} {e : Env} {s : State} {m : MethodId} {args : Array Value} {below : List Frame} {meth : Method} {c : Code} {D : va_G} {cI cJ cZ : ClassId} {A : Nat → Prop} {ad : Nat → Nat}
set_option maxHeartbeats 4000000 in
set_option maxRecDepth 100000 in
theorem w_S_personAt_0 {res : Int32} (C : Cx p s m args meth c prog_3_method_12_code 3 (Option.some FieldType.int) "PlainLibrary$Shelves" tb D cl9 (tyy cI cJ cZ) A) (x1 : Int32) (x2 : Int32) (u : Lib) (H : Heap) (locs : List Loc) (ls : Array Slot) (hP : va_P D cl9 ((cL cI cJ cZ ad) u) H) (hD : va_D (fun _ => True) ((cL cI cJ cZ ad) u)) (hS : va_S A s.heap H locs) (hl : lv_has ls 3 [(0, .ref (ad 6)), (1, .int x1), (2, .int x2)]) (hM : B_S_personAt_0 x1 x2 u = some res) : W p l e rm_S_personAt s m args below meth c H locs 0 0 (MQ below (Qri A res) args s 0 0 A) (F0 m 0 ls []) := by
  have C0 := C
  obtain ⟨hx, hb, hr, hml, hown, hts, hlocks, hK, hA⟩ := C
  replace C := C0
  unfold B_S_personAt_0 at hM
  refine lv_iload_n hx hb d_S_personAt_0 rfl (lv_at hl 2 rfl) ?_
  refine lv_if_lt (tgt := 28) hx hb d_S_personAt_1 (by decide) (fun c1 => ?_) (fun c1 => ?_)
  · replace hM := it_t c1 hM
    refine lv_iconst (v := (-1 : Int32)) hx hb d_S_personAt_28 (by decide) ?_
    obtain rfl := Option.some.inj hM
    exact W.iret (v := (-1 : Int32)) hx hb hr (fun t ht hW => ⟨⟨(-1 : Int32), (), rfl, rfl, trivial⟩, hS.F ht⟩) hS.2.2 d_S_personAt_29
  · replace hM := it_f c1 hM
    refine lv_iload_n hx hb d_S_personAt_4 rfl (lv_at hl 2 rfl) ?_
    refine lv_aload_n hx hb d_S_personAt_5 rfl (lv_at hl 0 rfl) ?_
    refine va_get (D := D) (ci := 1) (v := .ref (ad 12)) (C := R_S) (T := T_S) (N := 9) hx hb hts in_S hown hK hP 6 rfl rfl 5 (by decide) (hts _ mm_77) (fun _ h9 => h9) rfl d_S_personAt_6 ?_
    refine lv_iload_n hx hb d_S_personAt_9 rfl (lv_at hl 1 rfl) ?_
    obtain ⟨h2, hM⟩ := gd_some hM
    refine va_iald hx hb hK hP 12 0 rfl rfl (vp_in_iff.mpr h2) d_S_personAt_10 ?_
    refine lv_icmp_ge (tgt := 28) hx hb d_S_personAt_11 (by decide) (fun c3 => ?_) (fun c3 => ?_)
    · replace hM := it_t c3 hM
      refine lv_iconst (v := (-1 : Int32)) hx hb d_S_personAt_28 (by decide) ?_
      obtain rfl := Option.some.inj hM
      exact W.iret (v := (-1 : Int32)) hx hb hr (fun t ht hW => ⟨⟨(-1 : Int32), (), rfl, rfl, trivial⟩, hS.F ht⟩) hS.2.2 d_S_personAt_29
    · replace hM := it_f c3 hM
      refine lv_aload_n hx hb d_S_personAt_14 rfl (lv_at hl 0 rfl) ?_
      refine va_get (D := D) (ci := 1) (v := .ref (ad 11)) (C := R_S) (T := T_S) (N := 9) hx hb hts in_S hown hK hP 6 rfl rfl 4 (by decide) (hts _ mm_76) (fun _ h9 => h9) rfl d_S_personAt_15 ?_
      refine lv_iload_n hx hb d_S_personAt_18 rfl (lv_at hl 1 rfl) ?_
      refine lv_bipush (v := (20 : Int32)) hx hb d_S_personAt_19 (by decide) ?_
      refine lv_imul hx hb d_S_personAt_21 ?_
      refine lv_iload_n hx hb d_S_personAt_22 rfl (lv_at hl 2 rfl) ?_
      refine lv_iadd hx hb d_S_personAt_23 ?_
      obtain ⟨h4, hM⟩ := gd_some hM
      refine va_iald hx hb hK hP 11 0 rfl rfl (vp_in_iff.mpr h4) d_S_personAt_24 ?_
      refine lv_goto (tgt := 29) hx hb d_S_personAt_25 (by decide) ?_
      obtain rfl := Option.some.inj hM
      exact W.iret (v := ((l_qd u) ((x1 * (20 : Int32)) + x2).toNatClampNeg)) hx hb hr (fun t ht hW => ⟨⟨((l_qd u) ((x1 * (20 : Int32)) + x2).toNatClampNeg), (), rfl, rfl, trivial⟩, hS.F ht⟩) hS.2.2 d_S_personAt_29
end
set_option maxRecDepth 100000 in
theorem c_S_personAt (l : Launch) (D : va_G) (cI cJ cZ : ClassId) (ad : Nat → Nat) (sz : Nat) (x1 : Int32) (x2 : Int32) (u : Lib) (res : Int32) (hM : B_S_personAt_0 x1 x2 u = some res) : Met l y_S_personAt ws_S_personAt rm_S_personAt (va_Pc [.ref (ad 6), .int x1, .int x2] (pr_ D cl9 (tyy cI cJ cZ) (cL cI cJ cZ ad) u sz)) (Qri (va_A [] sz) res) 0 0 (va_A [] sz) := by
  refine Met.ofW (cc := prog_3_method_12_code) (maxL := 3) (ret := (Option.some FieldType.int)) (by decide) rfl ?_
  intro p e s m args below meth c s₁ B hml hv
  obtain ⟨rfl, hsz, hP, hK, hD0⟩ := hv
  subst hsz
  have hts0 := atoms_spec (ws := ws_S_personAt) B.pre
  have hl := lv_entry ([.ref (ad 6), .int x1, .int x2]) (n := 3) (Nat.le_of_ble_eq_true rfl)
  rw [lg_entry_eq]
  generalize (lg_sl ([.ref (ad 6), .int x1, .int x2]) ++ List.replicate (3 - (lg_sl ([.ref (ad 6), .int x1, .int x2])).length) Slot.unset).toArray = ls at hl ⊢
  exact w_S_personAt_0 ⟨B.exec, B.bytes, B.returns, hml, findClass_of_methodNamed B.named, fun w h => hts0 w (List.mem_cons_of_mem _ h), B.notSynchronized, hK, fun q h => Or.inr h⟩ x1 x2 u s.heap [] ls hP hD0 va_S.rf hl hM
end
section
section
variable {p : Program} {l : Launch} {e : Env} {s : State} {m : MethodId} {args : Array Value} {below : List Frame} {meth : Method} {c : Code} {D : va_G} {cI cJ cZ : ClassId} {A : Nat → Prop} {ad : Nat → Nat}
set_option maxHeartbeats 4000000 in
set_option maxRecDepth 100000 in
theorem w_S_placeInQueue_2s {res : Int32} (C : Cx p s m args meth c prog_3_method_23_code 4 (Option.some FieldType.int) "PlainLibrary$Shelves" tb D cl9 (tyy cI cJ cZ) A) {k2 : Int32 → Int32 → Int32 → Lib → Option Int32} (hk2 : ∀ (x1 : Int32) (x2 : Int32) (x3 : Int32) (u : Lib) (H : Heap) (locs : List Loc) (ls : Array Slot), va_P D cl9 ((cL cI cJ cZ ad) u) H → va_D (fun _ => True) ((cL cI cJ cZ ad) u) → va_S A s.heap H locs → lv_has ls 4 [(0, .ref (ad 6)), (1, .int x1), (2, .int x2), (3, .int x3)] → k2 x1 x2 x3 u = some res → W p l e rm_S_placeInQueue s m args below meth c H locs 0 0 (MQ below (Qri A res) args s 0 0 A) (F0 m 2 ls [])) (x1 : Int32) (x2 : Int32) (x3 : Int32) (u : Lib) (H : Heap) (locs : List Loc) (ls : Array Slot) (hP : va_P D cl9 ((cL cI cJ cZ ad) u) H) (hD : va_D (fun _ => True) ((cL cI cJ cZ ad) u)) (hS : va_S A s.heap H locs) (hl : lv_has ls 4 [(0, .ref (ad 6)), (1, .int x1), (2, .int x2), (3, .int x3)]) (hM : B_S_placeInQueue_2s k2 x1 x2 x3 u = some res) : W p l e rm_S_placeInQueue s m args below meth c H locs 0 0 (MQ below (Qri A res) args s 0 0 A) (F0 m 2 ls []) := by
  have C0 := C
  obtain ⟨hx, hb, hr, hml, hown, hts, hlocks, hK, hA⟩ := C
  replace C := C0
  unfold B_S_placeInQueue_2s at hM
  refine lv_iload_n hx hb d_S_placeInQueue_2 rfl (lv_at hl 3 rfl) ?_
  refine lv_aload_n hx hb d_S_placeInQueue_3 rfl (lv_at hl 0 rfl) ?_
  refine va_get (D := D) (ci := 1) (v := .ref (ad 12)) (C := R_S) (T := T_S) (N := 9) hx hb hts in_S hown hK hP 6 rfl rfl 5 (by decide) (hts _ mm_77) (fun _ h9 => h9) rfl d_S_placeInQueue_4 ?_
  refine lv_iload_n hx hb d_S_placeInQueue_7 rfl (lv_at hl 1 rfl) ?_
  obtain ⟨h1, hM⟩ := gd_some hM
  refine va_iald hx hb hK hP 12 0 rfl rfl (vp_in_iff.mpr h1) d_S_placeInQueue_8 ?_
  refine lv_icmp_ge (tgt := 35) hx hb d_S_placeInQueue_9 (by decide) (fun c2 => ?_) (fun c2 => ?_)
  · replace hM := it_t c2 hM
    refine lv_iconst (v := (-1 : Int32)) hx hb d_S_placeInQueue_35 (by decide) ?_
    obtain rfl := Option.some.inj hM
    exact W.iret (v := (-1 : Int32)) hx hb hr (fun t ht hW => ⟨⟨(-1 : Int32), (), rfl, rfl, trivial⟩, hS.F ht⟩) hS.2.2 d_S_placeInQueue_36
  · replace hM := it_f c2 hM
    refine lv_aload_n hx hb d_S_placeInQueue_12 rfl (lv_at hl 0 rfl) ?_
    refine va_get (D := D) (ci := 1) (v := .ref (ad 11)) (C := R_S) (T := T_S) (N := 9) hx hb hts in_S hown hK hP 6 rfl rfl 4 (by decide) (hts _ mm_76) (fun _ h9 => h9) rfl d_S_placeInQueue_13 ?_
    refine lv_iload_n hx hb d_S_placeInQueue_16 rfl (lv_at hl 1 rfl) ?_
    refine lv_bipush (v := (20 : Int32)) hx hb d_S_placeInQueue_17 (by decide) ?_
    refine lv_imul hx hb d_S_placeInQueue_19 ?_
    refine lv_iload_n hx hb d_S_placeInQueue_20 rfl (lv_at hl 3 rfl) ?_
    refine lv_iadd hx hb d_S_placeInQueue_21 ?_
    obtain ⟨h3, hM⟩ := gd_some hM
    refine va_iald hx hb hK hP 11 0 rfl rfl (vp_in_iff.mpr h3) d_S_placeInQueue_22 ?_
    refine lv_iload_n hx hb d_S_placeInQueue_23 rfl (lv_at hl 2 rfl) ?_
    refine lv_icmp_ne (tgt := 29) hx hb d_S_placeInQueue_24 (by decide) (fun c4 => ?_) (fun c4 => ?_)
    · replace hM := it_f c4 hM
      refine lv_iinc (v := (x3 + (1 : Int32))) (lv' := [(3, .int (x3 + (1 : Int32))), (0, .ref (ad 6)), (1, .int x1), (2, .int x2)]) hx hb d_S_placeInQueue_29 hl (k := 3) rfl rfl (by decide) rfl (fun ls hl => ?_)
      refine lv_goto (tgt := 2) hx hb d_S_placeInQueue_32 (by decide) ?_
      exact hk2 x1 x2 (x3 + (1 : Int32)) u H locs ls hP hD hS (lv_sub hl [1, 2, 3, 0] rfl) hM
    · replace hM := it_t c4 hM
      refine lv_iload_n hx hb d_S_placeInQueue_27 rfl (lv_at hl 3 rfl) ?_
      obtain rfl := Option.some.inj hM
      exact W.iret (v := x3) hx hb hr (fun t ht hW => ⟨⟨x3, (), rfl, rfl, trivial⟩, hS.F ht⟩) hS.2.2 d_S_placeInQueue_28
theorem w_S_placeInQueue_2 {res : Int32} (C : Cx p s m args meth c prog_3_method_23_code 4 (Option.some FieldType.int) "PlainLibrary$Shelves" tb D cl9 (tyy cI cJ cZ) A) : ∀ (fu : Nat) (x1 : Int32) (x2 : Int32) (x3 : Int32) (u : Lib) (H : Heap) (locs : List Loc) (ls : Array Slot), va_P D cl9 ((cL cI cJ cZ ad) u) H → va_D (fun _ => True) ((cL cI cJ cZ ad) u) → va_S A s.heap H locs → lv_has ls 4 [(0, .ref (ad 6)), (1, .int x1), (2, .int x2), (3, .int x3)] → B_S_placeInQueue_2 fu x1 x2 x3 u = some res → W p l e rm_S_placeInQueue s m args below meth c H locs 0 0 (MQ below (Qri A res) args s 0 0 A) (F0 m 2 ls []) := by
  intro fu
  induction fu with
  | zero =>
    intro x1 x2 x3 u H locs ls hP hD hS hl hM
    have hM : (none : Option Int32) = some res := hM
    cases hM
  | succ fu ih =>
    intro x1 x2 x3 u H locs ls hP hD hS hl hM
    exact w_S_placeInQueue_2s C ih x1 x2 x3 u H locs ls hP hD hS hl hM
set_option maxHeartbeats 4000000 in
set_option maxRecDepth 100000 in
theorem w_S_placeInQueue_0 {res : Int32} (C : Cx p s m args meth c prog_3_method_23_code 4 (Option.some FieldType.int) "PlainLibrary$Shelves" tb D cl9 (tyy cI cJ cZ) A) (x1 : Int32) (x2 : Int32) (u : Lib) (H : Heap) (locs : List Loc) (ls : Array Slot) (hP : va_P D cl9 ((cL cI cJ cZ ad) u) H) (hD : va_D (fun _ => True) ((cL cI cJ cZ ad) u)) (hS : va_S A s.heap H locs) (hl : lv_has ls 4 [(0, .ref (ad 6)), (1, .int x1), (2, .int x2)]) (hM : B_S_placeInQueue_0 x1 x2 u = some res) : W p l e rm_S_placeInQueue s m args below meth c H locs 0 0 (MQ below (Qri A res) args s 0 0 A) (F0 m 0 ls []) := by
  have C0 := C
  obtain ⟨hx, hb, hr, hml, hown, hts, hlocks, hK, hA⟩ := C
  replace C := C0
  unfold B_S_placeInQueue_0 at hM
  refine lv_iconst (v := (0 : Int32)) hx hb d_S_placeInQueue_0 (by decide) ?_
  refine lv_istore_n (lv' := [(3, .int (0 : Int32)), (0, .ref (ad 6)), (1, .int x1), (2, .int x2)]) hx hb d_S_placeInQueue_1 rfl hl (by decide) rfl (fun ls hl => ?_)
  exact w_S_placeInQueue_2 C FU x1 x2 (0 : Int32) u H locs ls hP hD hS (lv_sub hl [1, 2, 3, 0] rfl) hM
end
set_option maxRecDepth 100000 in
theorem c_S_placeInQueue (l : Launch) (D : va_G) (cI cJ cZ : ClassId) (ad : Nat → Nat) (sz : Nat) (x1 : Int32) (x2 : Int32) (u : Lib) (res : Int32) (hM : B_S_placeInQueue_0 x1 x2 u = some res) : Met l y_S_placeInQueue ws_S_placeInQueue rm_S_placeInQueue (va_Pc [.ref (ad 6), .int x1, .int x2] (pr_ D cl9 (tyy cI cJ cZ) (cL cI cJ cZ ad) u sz)) (Qri (va_A [] sz) res) 0 0 (va_A [] sz) := by
  refine Met.ofW (cc := prog_3_method_23_code) (maxL := 4) (ret := (Option.some FieldType.int)) (by decide) rfl ?_
  intro p e s m args below meth c s₁ B hml hv
  obtain ⟨rfl, hsz, hP, hK, hD0⟩ := hv
  subst hsz
  have hts0 := atoms_spec (ws := ws_S_placeInQueue) B.pre
  have hl := lv_entry ([.ref (ad 6), .int x1, .int x2]) (n := 4) (Nat.le_of_ble_eq_true rfl)
  rw [lg_entry_eq]
  generalize (lg_sl ([.ref (ad 6), .int x1, .int x2]) ++ List.replicate (4 - (lg_sl ([.ref (ad 6), .int x1, .int x2])).length) Slot.unset).toArray = ls at hl ⊢
  exact w_S_placeInQueue_0 ⟨B.exec, B.bytes, B.returns, hml, findClass_of_methodNamed B.named, fun w h => hts0 w (List.mem_cons_of_mem _ h), B.notSynchronized, hK, fun q h => Or.inr h⟩ x1 x2 u s.heap [] ls hP hD0 va_S.rf hl hM
end
section
section
variable {p : Program} {l : Launch} {e : Env} {s : State} {m : MethodId} {args : Array Value} {below : List Frame} {meth : Method} {c : Code} {D : va_G} {cI cJ cZ : ClassId} {A : Nat → Prop} {ad : Nat → Nat}
set_option maxHeartbeats 4000000 in
set_option maxRecDepth 100000 in
theorem w_S_leaveQueue_0 {res : (Int32 × Lib)} (C : Cx p s m args meth c prog_3_method_25_code 5 (Option.some FieldType.boolean) "PlainLibrary$Shelves" tb D cl9 (tyy cI cJ cZ) A) (x1 : Int32) (x2 : Int32) (u : Lib) (H : Heap) (locs : List Loc) (ls : Array Slot) (hP : va_P D cl9 ((cL cI cJ cZ ad) u) H) (hD : va_D A ((cL cI cJ cZ ad) u)) (hS : va_S A s.heap H locs) (hl : lv_has ls 5 [(0, .ref (ad 6)), (1, .int x1), (2, .int x2)]) (hM : B_S_leaveQueue_0 x1 x2 u = some res) : W p l e rm_S_leaveQueue s m args below meth c H locs 0 0 (MQ below (Qwi D cl9 (tyy cI cJ cZ) (cL cI cJ cZ ad) A res) args s 0 0 A) (F0 m 0 ls []) := by
  have C0 := C
  obtain ⟨hx, hb, hr, hml, hown, hts, hlocks, hK, hA⟩ := C
  replace C := C0
  unfold B_S_leaveQueue_0 at hM
  refine lv_aload_n hx hb d_S_leaveQueue_0 rfl (lv_at hl 0 rfl) ?_
  refine lv_iload_n hx hb d_S_leaveQueue_1 rfl (lv_at hl 1 rfl) ?_
  refine lv_iload_n hx hb d_S_leaveQueue_2 rfl (lv_at hl 2 rfl) ?_
  obtain ⟨v1, hq1, hM⟩ := bd_some hM
  refine fr_i (res := v1) (va_runV (As := [.int x1, .int x2]) (rest := []) ⟨hx, hb, hml, hown, hts⟩ (c_S_placeInQueue l D cI cJ cZ ad H.size x1 x2 u v1 hq1) (cwV 2 hts (gV mm_204 mm_206 (ms_ 6 rfl rfl) mm_29 mm_207) rfl rfl rfl hd_S_placeInQueue ⟨Nat.le_of_ble_eq_true rfl, Nat.le_of_ble_eq_true rfl⟩) (pv_ (F := (cL cI cJ cZ ad)) (u := u) hK hP hD (va_recv hK hP (ci := 1) (q0 := 6) rfl rfl)) rfl rfl hl.1 rfl (lv_room (Nat.le_of_ble_eq_true rfl)) d_S_leaveQueue_3 ⟨Nat.le_of_ble_eq_true rfl, Nat.le_of_ble_eq_true rfl⟩) hP hS hA (fun H locs hP hS => ?_)
  refine lv_istore_n (lv' := [(3, .int v1), (0, .ref (ad 6)), (1, .int x1), (2, .int x2)]) hx hb d_S_leaveQueue_6 rfl hl (by decide) rfl (fun ls hl => ?_)
  refine lv_iload_n hx hb d_S_leaveQueue_7 rfl (lv_at hl 0 rfl) ?_
  refine lv_iconst (v := (-1 : Int32)) hx hb d_S_leaveQueue_8 (by decide) ?_
  refine lv_icmp_ne (tgt := 14) hx hb d_S_leaveQueue_9 (by decide) (fun c2 => ?_) (fun c2 => ?_)
  · replace hM := it_f c2 hM
    refine lv_iload_n hx hb d_S_leaveQueue_14 rfl (lv_at hl 2 rfl) ?_
    refine lv_bipush (v := (20 : Int32)) hx hb d_S_leaveQueue_15 (by decide) ?_
    refine lv_imul hx hb d_S_leaveQueue_17 ?_
    refine lv_iload_n hx hb d_S_leaveQueue_18 rfl (lv_at hl 0 rfl) ?_
    refine lv_iadd hx hb d_S_leaveQueue_19 ?_
    refine lv_istore (lv' := [(4, .int ((x1 * (20 : Int32)) + v1)), (3, .int v1), (0, .ref (ad 6)), (1, .int x1), (2, .int x2)]) hx hb d_S_leaveQueue_20 hl (by decide) rfl (fun ls hl => ?_)
    refine lv_aload_n hx hb d_S_leaveQueue_22 rfl (lv_at hl 2 rfl) ?_
    refine va_get (D := D) (ci := 1) (v := .ref (ad 11)) (C := R_S) (T := T_S) (N := 9) hx hb hts in_S hown hK hP 6 rfl rfl 4 (by decide) (hts _ mm_76) (fun _ h9 => h9) rfl d_S_leaveQueue_23 ?_
    refine lv_iload hx hb d_S_leaveQueue_26 (lv_at hl 0 rfl) ?_
    refine lv_iconst (v := (1 : Int32)) hx hb d_S_leaveQueue_28 (by decide) ?_
    refine lv_iadd hx hb d_S_leaveQueue_29 ?_
    refine lv_aload_n hx hb d_S_leaveQueue_30 rfl (lv_at hl 2 rfl) ?_
    refine va_get (D := D) (ci := 1) (v := .ref (ad 11)) (C := R_S) (T := T_S) (N := 9) hx hb hts in_S hown hK hP 6 rfl rfl 4 (by decide) (hts _ mm_76) (fun _ h9 => h9) rfl d_S_leaveQueue_31 ?_
    refine lv_iload hx hb d_S_leaveQueue_34 (lv_at hl 0 rfl) ?_
    refine lv_aload_n hx hb d_S_leaveQueue_36 rfl (lv_at hl 2 rfl) ?_
    refine va_get (D := D) (ci := 1) (v := .ref (ad 12)) (C := R_S) (T := T_S) (N := 9) hx hb hts in_S hown hK hP 6 rfl rfl 5 (by decide) (hts _ mm_77) (fun _ h9 => h9) rfl d_S_leaveQueue_37 ?_
    refine lv_iload_n hx hb d_S_leaveQueue_40 rfl (lv_at hl 3 rfl) ?_
    obtain ⟨h3, hM⟩ := gd_some hM
    refine va_iald hx hb hK hP 12 0 rfl rfl (vp_in_iff.mpr h3) d_S_leaveQueue_41 ?_
    refine lv_iload_n hx hb d_S_leaveQueue_42 rfl (lv_at hl 1 rfl) ?_
    refine lv_isub hx hb d_S_leaveQueue_43 ?_
    refine lv_iconst (v := (1 : Int32)) hx hb d_S_leaveQueue_44 (by decide) ?_
    refine lv_isub hx hb d_S_leaveQueue_45 ?_
    obtain ⟨⟨h4a, h4b, h4c, h4d, h4e⟩, hM⟩ := gd_some hM
    refine va_copyi (ty := .int) hx hb (hml.trans hl.1.symm) hown (hts _ mm_208) (hts _ mm_142) (hts _ mm_141) (hts _ mm_31) hK hP hD hS 11 11 0 0 rfl rfl rfl rfl rfl (ic_nn h4a) (ic_nn h4b) (ic_nn h4c) (ic_le h4a h4c h4d) (ic_le h4b h4c h4e) (fun _ _ => rfl) (Nat.le_of_ble_eq_true rfl) (Nat.le_of_ble_eq_true rfl) d_S_leaveQueue_46 (fun H locs hP hD hS => ?_)
    have hP : va_P D cl9 ((cL cI cJ cZ ad) (l_qd_w u (va_cpy (l_qd u) (l_qd u) (((x1 * (20 : Int32)) + v1) + (1 : Int32)).toNatClampNeg ((x1 * (20 : Int32)) + v1).toNatClampNeg ((((l_ql u) x1.toNatClampNeg) - v1) - (1 : Int32)).toNatClampNeg))) H := hP
    have hD : va_D A ((cL cI cJ cZ ad) (l_qd_w u (va_cpy (l_qd u) (l_qd u) (((x1 * (20 : Int32)) + v1) + (1 : Int32)).toNatClampNeg ((x1 * (20 : Int32)) + v1).toNatClampNeg ((((l_ql u) x1.toNatClampNeg) - v1) - (1 : Int32)).toNatClampNeg))) := hD
    obtain ⟨u5, hu5, hM⟩ := bd_some hM
    rw [Option.some.inj hu5] at hP hD
    refine lv_aload_n hx hb d_S_leaveQueue_49 rfl (lv_at hl 2 rfl) ?_
    refine va_get (D := D) (ci := 1) (v := .ref (ad 12)) (C := R_S) (T := T_S) (N := 9) hx hb hts in_S hown hK hP 6 rfl rfl 5 (by decide) (hts _ mm_77) (fun _ h9 => h9) rfl d_S_leaveQueue_50 ?_
    refine lv_iload_n hx hb d_S_leaveQueue_53 rfl (lv_at hl 3 rfl) ?_
    refine lv_dup2_11 hx hb d_S_leaveQueue_54 rfl rfl ?_
    obtain ⟨h6, hM⟩ := gd_some hM
    refine va_iald hx hb hK hP 12 0 rfl rfl (vp_in_iff.mpr h6) d_S_leaveQueue_55 ?_
    refine lv_iconst (v := (1 : Int32)) hx hb d_S_leaveQueue_56 (by decide) ?_
    refine lv_isub hx hb d_S_leaveQueue_57 ?_
    obtain ⟨h7, hM⟩ := gd_some hM
    refine va_iast hx hb hK hP hD hS 12 0 rfl rfl (vp_in_iff.mpr h7) d_S_leaveQueue_58 (fun H locs hP hD hS => ?_)
    have hP : va_P D cl9 ((cL cI cJ cZ ad) (l_ql_w u5 (upd (l_ql u5) x1.toNatClampNeg (((l_ql u5) x1.toNatClampNeg) - (1 : Int32))))) H := hP
    have hD : va_D A ((cL cI cJ cZ ad) (l_ql_w u5 (upd (l_ql u5) x1.toNatClampNeg (((l_ql u5) x1.toNatClampNeg) - (1 : Int32))))) := hD
    refine lv_iconst (v := (1 : Int32)) hx hb d_S_leaveQueue_59 (by decide) ?_
    obtain rfl := Option.some.inj hM
    exact W.zret (v := (1 : Int32)) hx hb hr rfl (fun t ht hW => ⟨⟨(1 : Int32), (l_ql_w u5 (upd (l_ql u5) x1.toNatClampNeg (((l_ql u5) x1.toNatClampNeg) - (1 : Int32)))), rfl, rfl, by rw [ht]; exact hP, va_K.moved hW.alike hK, hD⟩, hS.F ht⟩) hS.2.2 d_S_leaveQueue_60
  · replace hM := it_t c2 hM
    refine lv_iconst (v := (0 : Int32)) hx hb d_S_leaveQueue_12 (by decide) ?_
    obtain rfl := Option.some.inj hM
    exact W.zret (v := (0 : Int32)) hx hb hr rfl (fun t ht hW => ⟨⟨(0 : Int32), u, rfl, rfl, by rw [ht]; exact hP, va_K.moved hW.alike hK, hD⟩, hS.F ht⟩) hS.2.2 d_S_leaveQueue_13
end
set_option maxRecDepth 100000 in
theorem c_S_leaveQueue (l : Launch) (D : va_G) (cI cJ cZ : ClassId) (ad : Nat → Nat) (sz : Nat) (x1 : Int32) (x2 : Int32) (u : Lib) (res : (Int32 × Lib)) (hM : B_S_leaveQueue_0 x1 x2 u = some res) : Met l y_S_leaveQueue ws_S_leaveQueue rm_S_leaveQueue (va_Pc [.ref (ad 6), .int x1, .int x2] (pr_ D cl9 (tyy cI cJ cZ) (cL cI cJ cZ ad) u sz)) (Qwi D cl9 (tyy cI cJ cZ) (cL cI cJ cZ ad) (va_A ((cL cI cJ cZ ad) u) sz) res) 0 0 (va_A ((cL cI cJ cZ ad) u) sz) := by
  refine Met.ofW (cc := prog_3_method_25_code) (maxL := 5) (ret := (Option.some FieldType.boolean)) (by decide) rfl ?_
  intro p e s m args below meth c s₁ B hml hv
  obtain ⟨rfl, hsz, hP, hK, hD0⟩ := hv
  subst hsz
  have hts0 := atoms_spec (ws := ws_S_leaveQueue) B.pre
  have hl := lv_entry ([.ref (ad 6), .int x1, .int x2]) (n := 5) (Nat.le_of_ble_eq_true rfl)
  rw [lg_entry_eq]
  generalize (lg_sl ([.ref (ad 6), .int x1, .int x2]) ++ List.replicate (5 - (lg_sl ([.ref (ad 6), .int x1, .int x2])).length) Slot.unset).toArray = ls at hl ⊢
  exact w_S_leaveQueue_0 ⟨B.exec, B.bytes, B.returns, hml, findClass_of_methodNamed B.named, fun w h => hts0 w (List.mem_cons_of_mem _ h), B.notSynchronized, hK, fun q h => Or.inr h⟩ x1 x2 u s.heap [] ls hP hD0.self va_S.rf hl hM
end
section
section
variable {p : Program} {l : Launch} {e : Env} {s : State} {m : MethodId} {args : Array Value} {below : List Frame} {meth : Method} {c : Code} {D : va_G} {cI cJ cZ : ClassId} {A : Nat → Prop} {ad : Nat → Nat}
set_option maxHeartbeats 4000000 in
set_option maxRecDepth 100000 in
theorem w_S_lend_47 {res : (Int32 × Lib)} (C : Cx p s m args meth c prog_3_method_21_code 7 (Option.some FieldType.boolean) "PlainLibrary$Shelves" tb D cl9 (tyy cI cJ cZ) A) (x1 : Int32) (x2 : Int32) (y3 : Int64) (x5 : Int32) (u : Lib) (H : Heap) (locs : List Loc) (ls : Array Slot) (hP : va_P D cl9 ((cL cI cJ cZ ad) u) H) (hD : va_D A ((cL cI cJ cZ ad) u)) (hS : va_S A s.heap H locs) (hl : lv_has ls 7 [(0, .ref (ad 6)), (1, .int x1), (2, .int x2), (3, .long y3), (5, .int x5)]) (hM : B_S_lend_47 x1 x2 y3 x5 u = some res) : W p l e rm_S_lend s m args below meth c H locs 0 0 (MQ below (Qwi D cl9 (tyy cI cJ cZ) (cL cI cJ cZ ad) A res) args s 0 0 A) (F0 m 47 ls []) := by
  have C0 := C
  obtain ⟨hx, hb, hr, hml, hown, hts, hlocks, hK, hA⟩ := C
  replace C := C0
  unfold B_S_lend_47 at hM
  refine lv_aload_n hx hb d_S_lend_47 rfl (lv_at hl 0 rfl) ?_
  refine lv_iload hx hb d_S_lend_48 (lv_at hl 4 rfl) ?_
  refine lv_iload_n hx hb d_S_lend_50 rfl (lv_at hl 2 rfl) ?_
  obtain ⟨v1, hq1, hM⟩ := bd_some hM
  refine fw_i (F := (cL cI cJ cZ ad)) (u := u) (res := v1) (va_runV (As := [.int x5, .int x2]) (rest := []) ⟨hx, hb, hml, hown, hts⟩ (c_S_leaveQueue l D cI cJ cZ ad H.size x5 x2 u v1 hq1) (cwV 2 hts (gV mm_200 mm_202 (ms_ 5 rfl rfl) mm_29 mm_203) rfl rfl rfl hd_S_leaveQueue ⟨Nat.le_of_ble_eq_true rfl, Nat.le_of_ble_eq_true rfl⟩) (pv_ (F := (cL cI cJ cZ ad)) (u := u) hK hP hD (va_recv hK hP (ci := 1) (q0 := 6) rfl rfl)) rfl rfl hl.1 rfl (lv_room (Nat.le_of_ble_eq_true rfl)) d_S_lend_51 ⟨Nat.le_of_ble_eq_true rfl, Nat.le_of_ble_eq_true rfl⟩) hS (fa_ hD hS hA) (fun H locs hP hD hS => ?_)
  refine lv_pop hx hb d_S_lend_54 rfl ?_
  refine lv_aload_n hx hb d_S_lend_55 rfl (lv_at hl 0 rfl) ?_
  refine va_get (D := D) (ci := 1) (v := .ref (ad 9)) (C := R_S) (T := T_S) (N := 9) hx hb hts in_S hown hK hP 6 rfl rfl 2 (by decide) (hts _ mm_74) (fun _ h9 => h9) rfl d_S_lend_56 ?_
  refine lv_iload_n hx hb d_S_lend_59 rfl (lv_at hl 1 rfl) ?_
  refine lv_iload_n hx hb d_S_lend_60 rfl (lv_at hl 2 rfl) ?_
  obtain ⟨h2, hM⟩ := gd_some hM
  refine va_iast hx hb hK hP hD hS 9 0 rfl rfl (vp_in_iff.mpr h2) d_S_lend_61 (fun H locs hP hD hS => ?_)
  have hP : va_P D cl9 ((cL cI cJ cZ ad) (l_per_w v1.2 (upd (l_per v1.2) x1.toNatClampNeg x2))) H := hP
  have hD : va_D A ((cL cI cJ cZ ad) (l_per_w v1.2 (upd (l_per v1.2) x1.toNatClampNeg x2))) := hD
  refine lv_aload_n hx hb d_S_lend_62 rfl (lv_at hl 0 rfl) ?_
  refine va_get (D := D) (ci := 1) (v := .ref (ad 10)) (C := R_S) (T := T_S) (N := 9) hx hb hts in_S hown hK hP 6 rfl rfl 3 (by decide) (hts _ mm_75) (fun _ h9 => h9) rfl d_S_lend_63 ?_
  refine lv_iload_n hx hb d_S_lend_66 rfl (lv_at hl 1 rfl) ?_
  refine lv_lload_n hx hb d_S_lend_67 rfl (lv_at hl 3 rfl) ?_
  refine lv_aload_n hx hb d_S_lend_68 rfl (lv_at hl 0 rfl) ?_
  refine va_get (D := D) (ci := 1) (v := .ref (ad 14)) (C := R_S) (T := T_S) (N := 9) hx hb hts in_S hown hK hP 6 rfl rfl 7 (by decide) (hts _ mm_79) (fun _ h9 => h9) rfl d_S_lend_69 ?_
  refine lv_aload_n hx hb d_S_lend_72 rfl (lv_at hl 0 rfl) ?_
  refine va_get (D := D) (ci := 1) (v := .ref (ad 13)) (C := R_S) (T := T_S) (N := 9) hx hb hts in_S hown hK hP 6 rfl rfl 6 (by decide) (hts _ mm_78) (fun _ h9 => h9) rfl d_S_lend_73 ?_
  refine lv_iload hx hb d_S_lend_76 (lv_at hl 4 rfl) ?_
  obtain ⟨h3, hM⟩ := gd_some hM
  refine va_iald hx hb hK hP 13 0 rfl rfl (vp_in_iff.mpr h3) d_S_lend_78 ?_
  obtain ⟨h4, hM⟩ := gd_some hM
  refine va_iald hx hb hK hP 14 0 rfl rfl (vp_in_iff.mpr h4) d_S_lend_79 ?_
  refine lv_i2l (v := ((l_ln (l_per_w v1.2 (upd (l_per v1.2) x1.toNatClampNeg x2))) ((l_cls (l_per_w v1.2 (upd (l_per v1.2) x1.toNatClampNeg x2))) x5.toNatClampNeg).toNatClampNeg).toInt64) hx hb d_S_lend_80 rfl ?_
  refine lv_ladd hx hb d_S_lend_81 ?_
  obtain ⟨h5, hM⟩ := gd_some hM
  refine va_last hx hb hK hP hD hS 10 1 rfl rfl (vp_in_iff.mpr h5) d_S_lend_82 (fun H locs hP hD hS => ?_)
  have hP : va_P D cl9 ((cL cI cJ cZ ad) (l_due_w (l_per_w v1.2 (upd (l_per v1.2) x1.toNatClampNeg x2)) (vp_updL (l_due (l_per_w v1.2 (upd (l_per v1.2) x1.toNatClampNeg x2))) x1.toNatClampNeg (y3 + (((l_ln (l_per_w v1.2 (upd (l_per v1.2) x1.toNatClampNeg x2))) ((l_cls (l_per_w v1.2 (upd (l_per v1.2) x1.toNatClampNeg x2))) x5.toNatClampNeg).toNatClampNeg).toInt64))))) H := hP
  have hD : va_D A ((cL cI cJ cZ ad) (l_due_w (l_per_w v1.2 (upd (l_per v1.2) x1.toNatClampNeg x2)) (vp_updL (l_due (l_per_w v1.2 (upd (l_per v1.2) x1.toNatClampNeg x2))) x1.toNatClampNeg (y3 + (((l_ln (l_per_w v1.2 (upd (l_per v1.2) x1.toNatClampNeg x2))) ((l_cls (l_per_w v1.2 (upd (l_per v1.2) x1.toNatClampNeg x2))) x5.toNatClampNeg).toNatClampNeg).toInt64))))) := hD
  obtain ⟨u6, hu6, hM⟩ := bd_some hM
  rw [Option.some.inj hu6] at hP hD
  refine lv_iconst (v := (1 : Int32)) hx hb d_S_lend_83 (by decide) ?_
  obtain rfl := Option.some.inj hM
  exact W.zret (v := (1 : Int32)) hx hb hr rfl (fun t ht hW => ⟨⟨(1 : Int32), u6, rfl, rfl, by rw [ht]; exact hP, va_K.moved hW.alike hK, hD⟩, hS.F ht⟩) hS.2.2 d_S_lend_84
set_option maxHeartbeats 4000000 in
set_option maxRecDepth 100000 in
theorem w_S_lend_0 {res : (Int32 × Lib)} (C : Cx p s m args meth c prog_3_method_21_code 7 (Option.some FieldType.boolean) "PlainLibrary$Shelves" tb D cl9 (tyy cI cJ cZ) A) (x1 : Int32) (x2 : Int32) (y3 : Int64) (u : Lib) (H : Heap) (locs : List Loc) (ls : Array Slot) (hP : va_P D cl9 ((cL cI cJ cZ ad) u) H) (hD : va_D A ((cL cI cJ cZ ad) u)) (hS : va_S A s.heap H locs) (hl : lv_has ls 7 [(0, .ref (ad 6)), (1, .int x1), (2, .int x2), (3, .long y3)]) (hM : B_S_lend_0 x1 x2 y3 u = some res) : W p l e rm_S_lend s m args below meth c H locs 0 0 (MQ below (Qwi D cl9 (tyy cI cJ cZ) (cL cI cJ cZ ad) A res) args s 0 0 A) (F0 m 0 ls []) := by
  have C0 := C
  obtain ⟨hx, hb, hr, hml, hown, hts, hlocks, hK, hA⟩ := C
  replace C := C0
  unfold B_S_lend_0 at hM
  refine lv_aload_n hx hb d_S_lend_0 rfl (lv_at hl 0 rfl) ?_
  refine va_get (D := D) (ci := 1) (v := .ref (ad 8)) (C := R_S) (T := T_S) (N := 9) hx hb hts in_S hown hK hP 6 rfl rfl 1 (by decide) (hts _ mm_73) (fun _ h9 => h9) rfl d_S_lend_1 ?_
  refine lv_iload_n hx hb d_S_lend_4 rfl (lv_at hl 1 rfl) ?_
  obtain ⟨h1, hM⟩ := gd_some hM
  refine va_iald hx hb hK hP 8 0 rfl rfl (vp_in_iff.mpr h1) d_S_lend_5 ?_
  refine lv_istore (lv' := [(5, .int ((l_rec u) x1.toNatClampNeg)), (0, .ref (ad 6)), (1, .int x1), (2, .int x2), (3, .long y3)]) hx hb d_S_lend_6 hl (by decide) rfl (fun ls hl => ?_)
  refine lv_iload hx hb d_S_lend_8 (lv_at hl 0 rfl) ?_
  refine lv_if_eq (tgt := 22) hx hb d_S_lend_10 (by decide) (fun c2 => ?_) (fun c2 => ?_)
  · replace hM := it_t c2 hM
    refine lv_iconst (v := (0 : Int32)) hx hb d_S_lend_22 (by decide) ?_
    obtain rfl := Option.some.inj hM
    exact W.zret (v := (0 : Int32)) hx hb hr rfl (fun t ht hW => ⟨⟨(0 : Int32), u, rfl, rfl, by rw [ht]; exact hP, va_K.moved hW.alike hK, hD⟩, hS.F ht⟩) hS.2.2 d_S_lend_23
  · replace hM := it_f c2 hM
    refine lv_aload_n hx hb d_S_lend_13 rfl (lv_at hl 1 rfl) ?_
    refine va_get (D := D) (ci := 1) (v := .ref (ad 9)) (C := R_S) (T := T_S) (N := 9) hx hb hts in_S hown hK hP 6 rfl rfl 2 (by decide) (hts _ mm_74) (fun _ h9 => h9) rfl d_S_lend_14 ?_
    refine lv_iload_n hx hb d_S_lend_17 rfl (lv_at hl 2 rfl) ?_
    obtain ⟨h3, hM⟩ := gd_some hM
    refine va_iald hx hb hK hP 9 0 rfl rfl (vp_in_iff.mpr h3) d_S_lend_18 ?_
    refine lv_if_eq (tgt := 24) hx hb d_S_lend_19 (by decide) (fun c4 => ?_) (fun c4 => ?_)
    · replace hM := it_t c4 hM
      refine lv_aload_n hx hb d_S_lend_24 rfl (lv_at hl 1 rfl) ?_
      refine lv_iload hx hb d_S_lend_25 (lv_at hl 0 rfl) ?_
      refine lv_iconst (v := (0 : Int32)) hx hb d_S_lend_27 (by decide) ?_
      obtain ⟨v5, hq5, hM⟩ := bd_some hM
      refine fr_i (res := v5) (va_runV (As := [.int ((l_rec u) x1.toNatClampNeg), .int (0 : Int32)]) (rest := []) ⟨hx, hb, hml, hown, hts⟩ (c_S_personAt l D cI cJ cZ ad H.size ((l_rec u) x1.toNatClampNeg) (0 : Int32) u v5 hq5) (cwV 2 hts (gV mm_196 mm_197 mm_198 mm_29 mm_199) rfl rfl rfl hd_S_personAt ⟨Nat.le_of_ble_eq_true rfl, Nat.le_of_ble_eq_true rfl⟩) (pv_ (F := (cL cI cJ cZ ad)) (u := u) hK hP hD (va_recv hK hP (ci := 1) (q0 := 6) rfl rfl)) rfl rfl hl.1 rfl (lv_room (Nat.le_of_ble_eq_true rfl)) d_S_lend_28 ⟨Nat.le_of_ble_eq_true rfl, Nat.le_of_ble_eq_true rfl⟩) hP hS hA (fun H locs hP hS => ?_)
      refine lv_istore (lv' := [(6, .int v5), (5, .int ((l_rec u) x1.toNatClampNeg)), (0, .ref (ad 6)), (1, .int x1), (2, .int x2), (3, .long y3)]) hx hb d_S_lend_31 hl (by decide) rfl (fun ls hl => ?_)
      refine lv_iload hx hb d_S_lend_33 (lv_at hl 0 rfl) ?_
      refine lv_iconst (v := (-1 : Int32)) hx hb d_S_lend_35 (by decide) ?_
      refine lv_icmp_eq (tgt := 47) hx hb d_S_lend_36 (by decide) (fun c6 => ?_) (fun c6 => ?_)
      · replace hM := it_t c6 hM
        exact w_S_lend_47 C x1 x2 y3 ((l_rec u) x1.toNatClampNeg) u H locs ls hP hD hS (lv_sub hl [2, 3, 4, 5, 1] rfl) hM
      · replace hM := it_f c6 hM
        refine lv_iload hx hb d_S_lend_39 (lv_at hl 0 rfl) ?_
        refine lv_iload_n hx hb d_S_lend_41 rfl (lv_at hl 4 rfl) ?_
        refine lv_icmp_eq (tgt := 47) hx hb d_S_lend_42 (by decide) (fun c7 => ?_) (fun c7 => ?_)
        · replace hM := it_t c7 hM
          exact w_S_lend_47 C x1 x2 y3 ((l_rec u) x1.toNatClampNeg) u H locs ls hP hD hS (lv_sub hl [2, 3, 4, 5, 1] rfl) hM
        · replace hM := it_f c7 hM
          refine lv_iconst (v := (0 : Int32)) hx hb d_S_lend_45 (by decide) ?_
          obtain rfl := Option.some.inj hM
          exact W.zret (v := (0 : Int32)) hx hb hr rfl (fun t ht hW => ⟨⟨(0 : Int32), u, rfl, rfl, by rw [ht]; exact hP, va_K.moved hW.alike hK, hD⟩, hS.F ht⟩) hS.2.2 d_S_lend_46
    · replace hM := it_f c4 hM
      refine lv_iconst (v := (0 : Int32)) hx hb d_S_lend_22 (by decide) ?_
      obtain rfl := Option.some.inj hM
      exact W.zret (v := (0 : Int32)) hx hb hr rfl (fun t ht hW => ⟨⟨(0 : Int32), u, rfl, rfl, by rw [ht]; exact hP, va_K.moved hW.alike hK, hD⟩, hS.F ht⟩) hS.2.2 d_S_lend_23
end
set_option maxRecDepth 100000 in
theorem c_S_lend (l : Launch) (D : va_G) (cI cJ cZ : ClassId) (ad : Nat → Nat) (sz : Nat) (x1 : Int32) (x2 : Int32) (y3 : Int64) (u : Lib) (res : (Int32 × Lib)) (hM : B_S_lend_0 x1 x2 y3 u = some res) : Met l y_S_lend ws_S_lend rm_S_lend (va_Pc [.ref (ad 6), .int x1, .int x2, .long y3] (pr_ D cl9 (tyy cI cJ cZ) (cL cI cJ cZ ad) u sz)) (Qwi D cl9 (tyy cI cJ cZ) (cL cI cJ cZ ad) (va_A ((cL cI cJ cZ ad) u) sz) res) 0 0 (va_A ((cL cI cJ cZ ad) u) sz) := by
  refine Met.ofW (cc := prog_3_method_21_code) (maxL := 7) (ret := (Option.some FieldType.boolean)) (by decide) rfl ?_
  intro p e s m args below meth c s₁ B hml hv
  obtain ⟨rfl, hsz, hP, hK, hD0⟩ := hv
  subst hsz
  have hts0 := atoms_spec (ws := ws_S_lend) B.pre
  have hl := lv_entry ([.ref (ad 6), .int x1, .int x2, .long y3]) (n := 7) (Nat.le_of_ble_eq_true rfl)
  rw [lg_entry_eq]
  generalize (lg_sl ([.ref (ad 6), .int x1, .int x2, .long y3]) ++ List.replicate (7 - (lg_sl ([.ref (ad 6), .int x1, .int x2, .long y3])).length) Slot.unset).toArray = ls at hl ⊢
  exact w_S_lend_0 ⟨B.exec, B.bytes, B.returns, hml, findClass_of_methodNamed B.named, fun w h => hts0 w (List.mem_cons_of_mem _ h), B.notSynchronized, hK, fun q h => Or.inr h⟩ x1 x2 y3 u s.heap [] ls hP hD0.self va_S.rf hl hM
end
section
section
variable {p : Program} {l : Launch} {e : Env} {s : State} {m : MethodId} {args : Array Value} {below : List Frame} {meth : Method} {c : Code} {D : va_G} {cI cJ cZ : ClassId} {A : Nat → Prop} {ad : Nat → Nat}
set_option maxHeartbeats 4000000 in
set_option maxRecDepth 100000 in
theorem w_S_giveBack_0 {res : (Int32 × Lib)} (C : Cx p s m args meth c prog_3_method_22_code 2 (Option.some FieldType.boolean) "PlainLibrary$Shelves" tb D cl9 (tyy cI cJ cZ) A) (x1 : Int32) (u : Lib) (H : Heap) (locs : List Loc) (ls : Array Slot) (hP : va_P D cl9 ((cL cI cJ cZ ad) u) H) (hD : va_D A ((cL cI cJ cZ ad) u)) (hS : va_S A s.heap H locs) (hl : lv_has ls 2 [(0, .ref (ad 6)), (1, .int x1)]) (hM : B_S_giveBack_0 x1 u = some res) : W p l e rm_S_giveBack s m args below meth c H locs 0 0 (MQ below (Qwi D cl9 (tyy cI cJ cZ) (cL cI cJ cZ ad) A res) args s 0 0 A) (F0 m 0 ls []) := by
  have C0 := C
  obtain ⟨hx, hb, hr, hml, hown, hts, hlocks, hK, hA⟩ := C
  replace C := C0
  unfold B_S_giveBack_0 at hM
  refine lv_aload_n hx hb d_S_giveBack_0 rfl (lv_at hl 0 rfl) ?_
  refine va_get (D := D) (ci := 1) (v := .ref (ad 9)) (C := R_S) (T := T_S) (N := 9) hx hb hts in_S hown hK hP 6 rfl rfl 2 (by decide) (hts _ mm_74) (fun _ h9 => h9) rfl d_S_giveBack_1 ?_
  refine lv_iload_n hx hb d_S_giveBack_4 rfl (lv_at hl 1 rfl) ?_
  obtain ⟨h1, hM⟩ := gd_some hM
  refine va_iald hx hb hK hP 9 0 rfl rfl (vp_in_iff.mpr h1) d_S_giveBack_5 ?_
  refine lv_if_ne (tgt := 11) hx hb d_S_giveBack_6 (by decide) (fun c2 => ?_) (fun c2 => ?_)
  · replace hM := it_f c2 hM
    refine lv_aload_n hx hb d_S_giveBack_11 rfl (lv_at hl 0 rfl) ?_
    refine va_get (D := D) (ci := 1) (v := .ref (ad 9)) (C := R_S) (T := T_S) (N := 9) hx hb hts in_S hown hK hP 6 rfl rfl 2 (by decide) (hts _ mm_74) (fun _ h9 => h9) rfl d_S_giveBack_12 ?_
    refine lv_iload_n hx hb d_S_giveBack_15 rfl (lv_at hl 1 rfl) ?_
    refine lv_iconst (v := (0 : Int32)) hx hb d_S_giveBack_16 (by decide) ?_
    obtain ⟨h3, hM⟩ := gd_some hM
    refine va_iast hx hb hK hP hD hS 9 0 rfl rfl (vp_in_iff.mpr h3) d_S_giveBack_17 (fun H locs hP hD hS => ?_)
    have hP : va_P D cl9 ((cL cI cJ cZ ad) (l_per_w u (upd (l_per u) x1.toNatClampNeg (0 : Int32)))) H := hP
    have hD : va_D A ((cL cI cJ cZ ad) (l_per_w u (upd (l_per u) x1.toNatClampNeg (0 : Int32)))) := hD
    refine lv_iconst (v := (1 : Int32)) hx hb d_S_giveBack_18 (by decide) ?_
    obtain rfl := Option.some.inj hM
    exact W.zret (v := (1 : Int32)) hx hb hr rfl (fun t ht hW => ⟨⟨(1 : Int32), (l_per_w u (upd (l_per u) x1.toNatClampNeg (0 : Int32))), rfl, rfl, by rw [ht]; exact hP, va_K.moved hW.alike hK, hD⟩, hS.F ht⟩) hS.2.2 d_S_giveBack_19
  · replace hM := it_t c2 hM
    refine lv_iconst (v := (0 : Int32)) hx hb d_S_giveBack_9 (by decide) ?_
    obtain rfl := Option.some.inj hM
    exact W.zret (v := (0 : Int32)) hx hb hr rfl (fun t ht hW => ⟨⟨(0 : Int32), u, rfl, rfl, by rw [ht]; exact hP, va_K.moved hW.alike hK, hD⟩, hS.F ht⟩) hS.2.2 d_S_giveBack_10
end
set_option maxRecDepth 100000 in
theorem c_S_giveBack (l : Launch) (D : va_G) (cI cJ cZ : ClassId) (ad : Nat → Nat) (sz : Nat) (x1 : Int32) (u : Lib) (res : (Int32 × Lib)) (hM : B_S_giveBack_0 x1 u = some res) : Met l y_S_giveBack ws_S_giveBack rm_S_giveBack (va_Pc [.ref (ad 6), .int x1] (pr_ D cl9 (tyy cI cJ cZ) (cL cI cJ cZ ad) u sz)) (Qwi D cl9 (tyy cI cJ cZ) (cL cI cJ cZ ad) (va_A ((cL cI cJ cZ ad) u) sz) res) 0 0 (va_A ((cL cI cJ cZ ad) u) sz) := by
  refine Met.ofW (cc := prog_3_method_22_code) (maxL := 2) (ret := (Option.some FieldType.boolean)) (by decide) rfl ?_
  intro p e s m args below meth c s₁ B hml hv
  obtain ⟨rfl, hsz, hP, hK, hD0⟩ := hv
  subst hsz
  have hts0 := atoms_spec (ws := ws_S_giveBack) B.pre
  have hl := lv_entry ([.ref (ad 6), .int x1]) (n := 2) (Nat.le_of_ble_eq_true rfl)
  rw [lg_entry_eq]
  generalize (lg_sl ([.ref (ad 6), .int x1]) ++ List.replicate (2 - (lg_sl ([.ref (ad 6), .int x1])).length) Slot.unset).toArray = ls at hl ⊢
  exact w_S_giveBack_0 ⟨B.exec, B.bytes, B.returns, hml, findClass_of_methodNamed B.named, fun w h => hts0 w (List.mem_cons_of_mem _ h), B.notSynchronized, hK, fun q h => Or.inr h⟩ x1 u s.heap [] ls hP hD0.self va_S.rf hl hM
end
section
section
variable {p : Program} {l : Launch} {e : Env} {s : State} {m : MethodId} {args : Array Value} {below : List Frame} {meth : Method} {c : Code} {D : va_G} {cI cJ cZ : ClassId} {A : Nat → Prop} {ad : Nat → Nat}
set_option maxHeartbeats 4000000 in
set_option maxRecDepth 100000 in
theorem w_S_joinQueue_0 {res : (Int32 × Lib)} (C : Cx p s m args meth c prog_3_method_24_code 4 (Option.some FieldType.boolean) "PlainLibrary$Shelves" tb D cl9 (tyy cI cJ cZ) A) (x1 : Int32) (x2 : Int32) (u : Lib) (H : Heap) (locs : List Loc) (ls : Array Slot) (hP : va_P D cl9 ((cL cI cJ cZ ad) u) H) (hD : va_D A ((cL cI cJ cZ ad) u)) (hS : va_S A s.heap H locs) (hl : lv_has ls 4 [(0, .ref (ad 6)), (1, .int x1), (2, .int x2)]) (hM : B_S_joinQueue_0 x1 x2 u = some res) : W p l e rm_S_joinQueue s m args below meth c H locs 0 0 (MQ below (Qwi D cl9 (tyy cI cJ cZ) (cL cI cJ cZ ad) A res) args s 0 0 A) (F0 m 0 ls []) := by
  have C0 := C
  obtain ⟨hx, hb, hr, hml, hown, hts, hlocks, hK, hA⟩ := C
  replace C := C0
  unfold B_S_joinQueue_0 at hM
  refine lv_aload_n hx hb d_S_joinQueue_0 rfl (lv_at hl 0 rfl) ?_
  refine va_get (D := D) (ci := 1) (v := .ref (ad 12)) (C := R_S) (T := T_S) (N := 9) hx hb hts in_S hown hK hP 6 rfl rfl 5 (by decide) (hts _ mm_77) (fun _ h9 => h9) rfl d_S_joinQueue_1 ?_
  refine lv_iload_n hx hb d_S_joinQueue_4 rfl (lv_at hl 1 rfl) ?_
  obtain ⟨h1, hM⟩ := gd_some hM
  refine va_iald hx hb hK hP 12 0 rfl rfl (vp_in_iff.mpr h1) d_S_joinQueue_5 ?_
  refine lv_istore_n (lv' := [(3, .int ((l_ql u) x1.toNatClampNeg)), (0, .ref (ad 6)), (1, .int x1), (2, .int x2)]) hx hb d_S_joinQueue_6 rfl hl (by decide) rfl (fun ls hl => ?_)
  refine lv_iload_n hx hb d_S_joinQueue_7 rfl (lv_at hl 0 rfl) ?_
  refine lv_bipush (v := (20 : Int32)) hx hb d_S_joinQueue_8 (by decide) ?_
  refine lv_icmp_ge (tgt := 23) hx hb d_S_joinQueue_10 (by decide) (fun c2 => ?_) (fun c2 => ?_)
  · replace hM := it_t c2 hM
    refine lv_iconst (v := (0 : Int32)) hx hb d_S_joinQueue_23 (by decide) ?_
    obtain rfl := Option.some.inj hM
    exact W.zret (v := (0 : Int32)) hx hb hr rfl (fun t ht hW => ⟨⟨(0 : Int32), u, rfl, rfl, by rw [ht]; exact hP, va_K.moved hW.alike hK, hD⟩, hS.F ht⟩) hS.2.2 d_S_joinQueue_24
  · replace hM := it_f c2 hM
    refine lv_aload_n hx hb d_S_joinQueue_13 rfl (lv_at hl 1 rfl) ?_
    refine lv_iload_n hx hb d_S_joinQueue_14 rfl (lv_at hl 2 rfl) ?_
    refine lv_iload_n hx hb d_S_joinQueue_15 rfl (lv_at hl 3 rfl) ?_
    obtain ⟨v3, hq3, hM⟩ := bd_some hM
    refine fr_i (res := v3) (va_runV (As := [.int x1, .int x2]) (rest := []) ⟨hx, hb, hml, hown, hts⟩ (c_S_placeInQueue l D cI cJ cZ ad H.size x1 x2 u v3 hq3) (cwV 2 hts (gV mm_204 mm_206 (ms_ 6 rfl rfl) mm_29 mm_207) rfl rfl rfl hd_S_placeInQueue ⟨Nat.le_of_ble_eq_true rfl, Nat.le_of_ble_eq_true rfl⟩) (pv_ (F := (cL cI cJ cZ ad)) (u := u) hK hP hD (va_recv hK hP (ci := 1) (q0 := 6) rfl rfl)) rfl rfl hl.1 rfl (lv_room (Nat.le_of_ble_eq_true rfl)) d_S_joinQueue_16 ⟨Nat.le_of_ble_eq_true rfl, Nat.le_of_ble_eq_true rfl⟩) hP hS hA (fun H locs hP hS => ?_)
    refine lv_iconst (v := (-1 : Int32)) hx hb d_S_joinQueue_19 (by decide) ?_
    refine lv_icmp_eq (tgt := 25) hx hb d_S_joinQueue_20 (by decide) (fun c4 => ?_) (fun c4 => ?_)
    · replace hM := it_t c4 hM
      refine lv_aload_n hx hb d_S_joinQueue_25 rfl (lv_at hl 1 rfl) ?_
      refine va_get (D := D) (ci := 1) (v := .ref (ad 11)) (C := R_S) (T := T_S) (N := 9) hx hb hts in_S hown hK hP 6 rfl rfl 4 (by decide) (hts _ mm_76) (fun _ h9 => h9) rfl d_S_joinQueue_26 ?_
      refine lv_iload_n hx hb d_S_joinQueue_29 rfl (lv_at hl 2 rfl) ?_
      refine lv_bipush (v := (20 : Int32)) hx hb d_S_joinQueue_30 (by decide) ?_
      refine lv_imul hx hb d_S_joinQueue_32 ?_
      refine lv_iload_n hx hb d_S_joinQueue_33 rfl (lv_at hl 0 rfl) ?_
      refine lv_iadd hx hb d_S_joinQueue_34 ?_
      refine lv_iload_n hx hb d_S_joinQueue_35 rfl (lv_at hl 3 rfl) ?_
      obtain ⟨h5, hM⟩ := gd_some hM
      refine va_iast hx hb hK hP hD hS 11 0 rfl rfl (vp_in_iff.mpr h5) d_S_joinQueue_36 (fun H locs hP hD hS => ?_)
      have hP : va_P D cl9 ((cL cI cJ cZ ad) (l_qd_w u (upd (l_qd u) ((x1 * (20 : Int32)) + ((l_ql u) x1.toNatClampNeg)).toNatClampNeg x2))) H := hP
      have hD : va_D A ((cL cI cJ cZ ad) (l_qd_w u (upd (l_qd u) ((x1 * (20 : Int32)) + ((l_ql u) x1.toNatClampNeg)).toNatClampNeg x2))) := hD
      refine lv_aload_n hx hb d_S_joinQueue_37 rfl (lv_at hl 1 rfl) ?_
      refine va_get (D := D) (ci := 1) (v := .ref (ad 12)) (C := R_S) (T := T_S) (N := 9) hx hb hts in_S hown hK hP 6 rfl rfl 5 (by decide) (hts _ mm_77) (fun _ h9 => h9) rfl d_S_joinQueue_38 ?_
      refine lv_iload_n hx hb d_S_joinQueue_41 rfl (lv_at hl 2 rfl) ?_
      refine lv_iload_n hx hb d_S_joinQueue_42 rfl (lv_at hl 0 rfl) ?_
      refine lv_iconst (v := (1 : Int32)) hx hb d_S_joinQueue_43 (by decide) ?_
      refine lv_iadd hx hb d_S_joinQueue_44 ?_
      obtain ⟨h6, hM⟩ := gd_some hM
      refine va_iast hx hb hK hP hD hS 12 0 rfl rfl (vp_in_iff.mpr h6) d_S_joinQueue_45 (fun H locs hP hD hS => ?_)
      have hP : va_P D cl9 ((cL cI cJ cZ ad) (l_ql_w (l_qd_w u (upd (l_qd u) ((x1 * (20 : Int32)) + ((l_ql u) x1.toNatClampNeg)).toNatClampNeg x2)) (upd (l_ql (l_qd_w u (upd (l_qd u) ((x1 * (20 : Int32)) + ((l_ql u) x1.toNatClampNeg)).toNatClampNeg x2))) x1.toNatClampNeg (((l_ql u) x1.toNatClampNeg) + (1 : Int32))))) H := hP
      have hD : va_D A ((cL cI cJ cZ ad) (l_ql_w (l_qd_w u (upd (l_qd u) ((x1 * (20 : Int32)) + ((l_ql u) x1.toNatClampNeg)).toNatClampNeg x2)) (upd (l_ql (l_qd_w u (upd (l_qd u) ((x1 * (20 : Int32)) + ((l_ql u) x1.toNatClampNeg)).toNatClampNeg x2))) x1.toNatClampNeg (((l_ql u) x1.toNatClampNeg) + (1 : Int32))))) := hD
      obtain ⟨u7, hu7, hM⟩ := bd_some hM
      rw [Option.some.inj hu7] at hP hD
      refine lv_iconst (v := (1 : Int32)) hx hb d_S_joinQueue_46 (by decide) ?_
      obtain rfl := Option.some.inj hM
      exact W.zret (v := (1 : Int32)) hx hb hr rfl (fun t ht hW => ⟨⟨(1 : Int32), u7, rfl, rfl, by rw [ht]; exact hP, va_K.moved hW.alike hK, hD⟩, hS.F ht⟩) hS.2.2 d_S_joinQueue_47
    · replace hM := it_f c4 hM
      refine lv_iconst (v := (0 : Int32)) hx hb d_S_joinQueue_23 (by decide) ?_
      obtain rfl := Option.some.inj hM
      exact W.zret (v := (0 : Int32)) hx hb hr rfl (fun t ht hW => ⟨⟨(0 : Int32), u, rfl, rfl, by rw [ht]; exact hP, va_K.moved hW.alike hK, hD⟩, hS.F ht⟩) hS.2.2 d_S_joinQueue_24
end
set_option maxRecDepth 100000 in
theorem c_S_joinQueue (l : Launch) (D : va_G) (cI cJ cZ : ClassId) (ad : Nat → Nat) (sz : Nat) (x1 : Int32) (x2 : Int32) (u : Lib) (res : (Int32 × Lib)) (hM : B_S_joinQueue_0 x1 x2 u = some res) : Met l y_S_joinQueue ws_S_joinQueue rm_S_joinQueue (va_Pc [.ref (ad 6), .int x1, .int x2] (pr_ D cl9 (tyy cI cJ cZ) (cL cI cJ cZ ad) u sz)) (Qwi D cl9 (tyy cI cJ cZ) (cL cI cJ cZ ad) (va_A ((cL cI cJ cZ ad) u) sz) res) 0 0 (va_A ((cL cI cJ cZ ad) u) sz) := by
  refine Met.ofW (cc := prog_3_method_24_code) (maxL := 4) (ret := (Option.some FieldType.boolean)) (by decide) rfl ?_
  intro p e s m args below meth c s₁ B hml hv
  obtain ⟨rfl, hsz, hP, hK, hD0⟩ := hv
  subst hsz
  have hts0 := atoms_spec (ws := ws_S_joinQueue) B.pre
  have hl := lv_entry ([.ref (ad 6), .int x1, .int x2]) (n := 4) (Nat.le_of_ble_eq_true rfl)
  rw [lg_entry_eq]
  generalize (lg_sl ([.ref (ad 6), .int x1, .int x2]) ++ List.replicate (4 - (lg_sl ([.ref (ad 6), .int x1, .int x2])).length) Slot.unset).toArray = ls at hl ⊢
  exact w_S_joinQueue_0 ⟨B.exec, B.bytes, B.returns, hml, findClass_of_methodNamed B.named, fun w h => hts0 w (List.mem_cons_of_mem _ h), B.notSynchronized, hK, fun q h => Or.inr h⟩ x1 x2 u s.heap [] ls hP hD0.self va_S.rf hl hM
end
section
section
variable {p : Program} {l : Launch} {e : Env} {s : State} {m : MethodId} {args : Array Value} {below : List Frame} {meth : Method} {c : Code} {D : va_G} {cI cJ cZ : ClassId} {A : Nat → Prop}
set_option maxHeartbeats 4000000 in
set_option maxRecDepth 100000 in
theorem w_S_sumIndex_0 {res : Int32} (C : Cx p s m args meth c prog_3_method_15_code 2 (Option.some FieldType.int) "PlainLibrary$Shelves" tb D cl9 (tyy cI cJ cZ) A) (x0 : Int32) (x1 : Int32) (H : Heap) (locs : List Loc) (ls : Array Slot) (hP : va_P D cl9 (nW ()) H) (hD : va_D (fun _ => True) (nW ())) (hS : va_S A s.heap H locs) (hl : lv_has ls 2 [(0, .int x0), (1, .int x1)]) (hM : B_S_sumIndex_0 x0 x1 = some res) : W p l e rm_S_sumIndex s m args below meth c H locs 0 0 (MQ below (Qri A res) args s 0 0 A) (F0 m 0 ls []) := by
  have C0 := C
  obtain ⟨hx, hb, hr, hml, hown, hts, hlocks, hK, hA⟩ := C
  replace C := C0
  unfold B_S_sumIndex_0 at hM
  refine lv_iload_n hx hb d_S_sumIndex_0 rfl (lv_at hl 0 rfl) ?_
  refine lv_bipush (v := (6 : Int32)) hx hb d_S_sumIndex_1 (by decide) ?_
  refine lv_imul hx hb d_S_sumIndex_3 ?_
  refine lv_iload_n hx hb d_S_sumIndex_4 rfl (lv_at hl 1 rfl) ?_
  refine lv_iadd hx hb d_S_sumIndex_5 ?_
  obtain rfl := Option.some.inj hM
  exact W.iret (v := ((x0 * (6 : Int32)) + x1)) hx hb hr (fun t ht hW => ⟨⟨((x0 * (6 : Int32)) + x1), (), rfl, rfl, trivial⟩, hS.F ht⟩) hS.2.2 d_S_sumIndex_6
end
set_option maxRecDepth 100000 in
theorem c_S_sumIndex (l : Launch) (D : va_G) (cI cJ cZ : ClassId) (sz : Nat) (x0 : Int32) (x1 : Int32) (res : Int32) (hM : B_S_sumIndex_0 x0 x1 = some res) : Met l y_S_sumIndex ws_S_sumIndex rm_S_sumIndex (va_Pc [.int x0, .int x1] (pr_ D cl9 (tyy cI cJ cZ) nW () sz)) (Qri (va_A [] sz) res) 0 0 (va_A [] sz) := by
  refine Met.ofW (cc := prog_3_method_15_code) (maxL := 2) (ret := (Option.some FieldType.int)) (by decide) rfl ?_
  intro p e s m args below meth c s₁ B hml hv
  obtain ⟨rfl, hsz, hP, hK, hD0⟩ := hv
  subst hsz
  have hts0 := atoms_spec (ws := ws_S_sumIndex) B.pre
  have hl := lv_entry ([.int x0, .int x1]) (n := 2) (Nat.le_of_ble_eq_true rfl)
  rw [lg_entry_eq]
  generalize (lg_sl ([.int x0, .int x1]) ++ List.replicate (2 - (lg_sl ([.int x0, .int x1])).length) Slot.unset).toArray = ls at hl ⊢
  exact w_S_sumIndex_0 ⟨B.exec, B.bytes, B.returns, hml, findClass_of_methodNamed B.named, fun w h => hts0 w (List.mem_cons_of_mem _ h), B.notSynchronized, hK, fun q h => Or.inr h⟩ x0 x1 s.heap [] ls hP hD0 va_S.rf hl hM
end
section
section
variable {p : Program} {l : Launch} {e : Env} {s : State} {m : MethodId} {args : Array Value} {below : List Frame} {meth : Method} {c : Code} {D : va_G} {cI cJ cZ : ClassId} {A : Nat → Prop} {ad : Nat → Nat}
set_option maxHeartbeats 4000000 in
set_option maxRecDepth 100000 in
theorem w_S_loseFile_0 {res : (Int32 × Lib)} (C : Cx p s m args meth c prog_3_method_26_code 4 (Option.some FieldType.boolean) "PlainLibrary$Shelves" tb D cl9 (tyy cI cJ cZ) A) (x1 : Int32) (x2 : Int32) (u : Lib) (H : Heap) (locs : List Loc) (ls : Array Slot) (hP : va_P D cl9 ((cL cI cJ cZ ad) u) H) (hD : va_D A ((cL cI cJ cZ ad) u)) (hS : va_S A s.heap H locs) (hl : lv_has ls 4 [(0, .ref (ad 6)), (1, .int x1), (2, .int x2)]) (hM : B_S_loseFile_0 x1 x2 u = some res) : W p l e rm_S_loseFile s m args below meth c H locs 0 0 (MQ below (Qwi D cl9 (tyy cI cJ cZ) (cL cI cJ cZ ad) A res) args s 0 0 A) (F0 m 0 ls []) := by
  have C0 := C
  obtain ⟨hx, hb, hr, hml, hown, hts, hlocks, hK, hA⟩ := C
  replace C := C0
  unfold B_S_loseFile_0 at hM
  refine lv_iload_n hx hb d_S_loseFile_0 rfl (lv_at hl 1 rfl) ?_
  refine lv_iload_n hx hb d_S_loseFile_1 rfl (lv_at hl 2 rfl) ?_
  obtain ⟨v1, hq1, hM⟩ := bd_some hM
  refine fr_i (res := v1) (va_runS (As := [.int x1, .int x2]) (rest := []) ⟨hx, hb, hml, hown, hts⟩ (c_S_sumIndex l D cI cJ cZ H.size x1 x2 v1 hq1) (va_cwS 2 hts (gS mm_217 mm_218 mm_29 mm_219) rfl rfl rfl hs_S_sumIndex ⟨Nat.le_of_ble_eq_true rfl, Nat.le_of_ble_eq_true rfl⟩) (ps_ (F := nW) (u := ()) hK nP (nD (A := fun _ => True))) rfl rfl hl.1 rfl (lv_room (Nat.le_of_ble_eq_true rfl)) d_S_loseFile_2 ⟨Nat.le_of_ble_eq_true rfl, Nat.le_of_ble_eq_true rfl⟩) hP hS hA (fun H locs hP hS => ?_)
  refine lv_istore_n (lv' := [(3, .int v1), (0, .ref (ad 6)), (1, .int x1), (2, .int x2)]) hx hb d_S_loseFile_5 rfl hl (by decide) rfl (fun ls hl => ?_)
  refine lv_aload_n hx hb d_S_loseFile_6 rfl (lv_at hl 1 rfl) ?_
  refine va_get (D := D) (ci := 1) (v := .ref (ad 15)) (C := R_S) (T := T_S) (N := 9) hx hb hts in_S hown hK hP 6 rfl rfl 8 (by decide) (hts _ mm_80) (fun _ h9 => h9) rfl d_S_loseFile_7 ?_
  refine lv_iload_n hx hb d_S_loseFile_10 rfl (lv_at hl 0 rfl) ?_
  obtain ⟨h2, hM⟩ := gd_some hM
  refine va_iald hx hb hK hP 15 0 rfl rfl (vp_in_iff.mpr h2) d_S_loseFile_11 ?_
  refine lv_iconst (v := (-1 : Int32)) hx hb d_S_loseFile_12 (by decide) ?_
  refine lv_icmp_ne (tgt := 18) hx hb d_S_loseFile_13 (by decide) (fun c3 => ?_) (fun c3 => ?_)
  · replace hM := it_f c3 hM
    refine lv_aload_n hx hb d_S_loseFile_18 rfl (lv_at hl 1 rfl) ?_
    refine va_get (D := D) (ci := 1) (v := .ref (ad 15)) (C := R_S) (T := T_S) (N := 9) hx hb hts in_S hown hK hP 6 rfl rfl 8 (by decide) (hts _ mm_80) (fun _ h9 => h9) rfl d_S_loseFile_19 ?_
    refine lv_iload_n hx hb d_S_loseFile_22 rfl (lv_at hl 0 rfl) ?_
    refine lv_iconst (v := (-1 : Int32)) hx hb d_S_loseFile_23 (by decide) ?_
    obtain ⟨h4, hM⟩ := gd_some hM
    refine va_iast hx hb hK hP hD hS 15 0 rfl rfl (vp_in_iff.mpr h4) d_S_loseFile_24 (fun H locs hP hD hS => ?_)
    have hP : va_P D cl9 ((cL cI cJ cZ ad) (l_sm_w u (upd (l_sm u) v1.toNatClampNeg (-1 : Int32)))) H := hP
    have hD : va_D A ((cL cI cJ cZ ad) (l_sm_w u (upd (l_sm u) v1.toNatClampNeg (-1 : Int32)))) := hD
    refine lv_iconst (v := (1 : Int32)) hx hb d_S_loseFile_25 (by decide) ?_
    obtain rfl := Option.some.inj hM
    exact W.zret (v := (1 : Int32)) hx hb hr rfl (fun t ht hW => ⟨⟨(1 : Int32), (l_sm_w u (upd (l_sm u) v1.toNatClampNeg (-1 : Int32))), rfl, rfl, by rw [ht]; exact hP, va_K.moved hW.alike hK, hD⟩, hS.F ht⟩) hS.2.2 d_S_loseFile_26
  · replace hM := it_t c3 hM
    refine lv_iconst (v := (0 : Int32)) hx hb d_S_loseFile_16 (by decide) ?_
    obtain rfl := Option.some.inj hM
    exact W.zret (v := (0 : Int32)) hx hb hr rfl (fun t ht hW => ⟨⟨(0 : Int32), u, rfl, rfl, by rw [ht]; exact hP, va_K.moved hW.alike hK, hD⟩, hS.F ht⟩) hS.2.2 d_S_loseFile_17
end
set_option maxRecDepth 100000 in
theorem c_S_loseFile (l : Launch) (D : va_G) (cI cJ cZ : ClassId) (ad : Nat → Nat) (sz : Nat) (x1 : Int32) (x2 : Int32) (u : Lib) (res : (Int32 × Lib)) (hM : B_S_loseFile_0 x1 x2 u = some res) : Met l y_S_loseFile ws_S_loseFile rm_S_loseFile (va_Pc [.ref (ad 6), .int x1, .int x2] (pr_ D cl9 (tyy cI cJ cZ) (cL cI cJ cZ ad) u sz)) (Qwi D cl9 (tyy cI cJ cZ) (cL cI cJ cZ ad) (va_A ((cL cI cJ cZ ad) u) sz) res) 0 0 (va_A ((cL cI cJ cZ ad) u) sz) := by
  refine Met.ofW (cc := prog_3_method_26_code) (maxL := 4) (ret := (Option.some FieldType.boolean)) (by decide) rfl ?_
  intro p e s m args below meth c s₁ B hml hv
  obtain ⟨rfl, hsz, hP, hK, hD0⟩ := hv
  subst hsz
  have hts0 := atoms_spec (ws := ws_S_loseFile) B.pre
  have hl := lv_entry ([.ref (ad 6), .int x1, .int x2]) (n := 4) (Nat.le_of_ble_eq_true rfl)
  rw [lg_entry_eq]
  generalize (lg_sl ([.ref (ad 6), .int x1, .int x2]) ++ List.replicate (4 - (lg_sl ([.ref (ad 6), .int x1, .int x2])).length) Slot.unset).toArray = ls at hl ⊢
  exact w_S_loseFile_0 ⟨B.exec, B.bytes, B.returns, hml, findClass_of_methodNamed B.named, fun w h => hts0 w (List.mem_cons_of_mem _ h), B.notSynchronized, hK, fun q h => Or.inr h⟩ x1 x2 u s.heap [] ls hP hD0.self va_S.rf hl hM
end
section
section
variable {p : Program} {l : Launch} {e : Env} {s : State} {m : MethodId} {args : Array Value} {below : List Frame} {meth : Method} {c : Code} {D : va_G} {cI cJ cZ : ClassId} {A : Nat → Prop} {ad : Nat → Nat}
set_option maxHeartbeats 4000000 in
set_option maxRecDepth 100000 in
theorem w_S_perform_0 {res : (Int32 × Lib)} (C : Cx p s m args meth c prog_3_method_3_code 6 (Option.some FieldType.boolean) "PlainLibrary$Shelves" tb D cl9 (tyy cI cJ cZ) A) (x1 : Int32) (x2 : Int32) (x3 : Int32) (y4 : Int64) (u : Lib) (H : Heap) (locs : List Loc) (ls : Array Slot) (hP : va_P D cl9 ((cL cI cJ cZ ad) u) H) (hD : va_D A ((cL cI cJ cZ ad) u)) (hS : va_S A s.heap H locs) (hl : lv_has ls 6 [(0, .ref (ad 6)), (1, .int x1), (2, .int x2), (3, .int x3), (4, .long y4)]) (hM : B_S_perform_0 x1 x2 x3 y4 u = some res) : W p l e rm_S_perform s m args below meth c H locs 0 0 (MQ below (Qwi D cl9 (tyy cI cJ cZ) (cL cI cJ cZ ad) A res) args s 0 0 A) (F0 m 0 ls []) := by
  have C0 := C
  obtain ⟨hx, hb, hr, hml, hown, hts, hlocks, hK, hA⟩ := C
  replace C := C0
  unfold B_S_perform_0 at hM
  refine lv_iload_n hx hb d_S_perform_0 rfl (lv_at hl 1 rfl) ?_
  by_cases c1 : x1 = (0 : Int32)
  · replace hM := it_t c1 hM
    refine lv_tableIn (off := 59) (tgt := 60) hx hb d_S_perform_1 (by rw [c1]; decide) (by rw [c1]; decide) (by rw [c1]; rfl) (by decide) ?_
    refine lv_aload_n hx hb d_S_perform_60 rfl (lv_at hl 0 rfl) ?_
    refine lv_iload_n hx hb d_S_perform_61 rfl (lv_at hl 2 rfl) ?_
    refine lv_iload_n hx hb d_S_perform_62 rfl (lv_at hl 3 rfl) ?_
    obtain ⟨v2, hq2, hM⟩ := bd_some hM
    refine fw_i (F := (cL cI cJ cZ ad)) (u := u) (res := v2) (va_runV (As := [.int x2, .int x3]) (rest := []) ⟨hx, hb, hml, hown, hts⟩ (c_S_addHeading l D cI cJ cZ ad H.size x2 x3 u v2 hq2) (cwV 2 hts (gV mm_169 mm_171 (ms_ 1 rfl rfl) mm_29 mm_172) rfl rfl rfl hd_S_addHeading ⟨Nat.le_of_ble_eq_true rfl, Nat.le_of_ble_eq_true rfl⟩) (pv_ (F := (cL cI cJ cZ ad)) (u := u) hK hP hD (va_recv hK hP (ci := 1) (q0 := 6) rfl rfl)) rfl rfl hl.1 rfl (lv_room (Nat.le_of_ble_eq_true rfl)) d_S_perform_63 ⟨Nat.le_of_ble_eq_true rfl, Nat.le_of_ble_eq_true rfl⟩) hS (fa_ hD hS hA) (fun H locs hP hD hS => ?_)
    obtain ⟨h3, hM⟩ := gd_some hM
    obtain rfl := Option.some.inj hM
    exact W.zret (v := v2.1) hx hb hr (nz_b h3) (fun t ht hW => ⟨⟨v2.1, v2.2, rfl, rfl, by rw [ht]; exact hP, va_K.moved hW.alike hK, hD⟩, hS.F ht⟩) hS.2.2 d_S_perform_66
  replace hM := it_f c1 hM
  by_cases c4 : x1 = (1 : Int32)
  · replace hM := it_t c4 hM
    refine lv_tableIn (off := 66) (tgt := 67) hx hb d_S_perform_1 (by rw [c4]; decide) (by rw [c4]; decide) (by rw [c4]; rfl) (by decide) ?_
    refine lv_aload_n hx hb d_S_perform_67 rfl (lv_at hl 0 rfl) ?_
    refine lv_iload_n hx hb d_S_perform_68 rfl (lv_at hl 2 rfl) ?_
    refine lv_iload_n hx hb d_S_perform_69 rfl (lv_at hl 3 rfl) ?_
    obtain ⟨v5, hq5, hM⟩ := bd_some hM
    refine fw_i (F := (cL cI cJ cZ ad)) (u := u) (res := v5) (va_runV (As := [.int x2, .int x3]) (rest := []) ⟨hx, hb, hml, hown, hts⟩ (c_S_dropHeading l D cI cJ cZ ad H.size x2 x3 u v5 hq5) (cwV 2 hts (gV mm_183 mm_185 (ms_ 2 rfl rfl) mm_29 mm_186) rfl rfl rfl hd_S_dropHeading ⟨Nat.le_of_ble_eq_true rfl, Nat.le_of_ble_eq_true rfl⟩) (pv_ (F := (cL cI cJ cZ ad)) (u := u) hK hP hD (va_recv hK hP (ci := 1) (q0 := 6) rfl rfl)) rfl rfl hl.1 rfl (lv_room (Nat.le_of_ble_eq_true rfl)) d_S_perform_70 ⟨Nat.le_of_ble_eq_true rfl, Nat.le_of_ble_eq_true rfl⟩) hS (fa_ hD hS hA) (fun H locs hP hD hS => ?_)
    obtain ⟨h6, hM⟩ := gd_some hM
    obtain rfl := Option.some.inj hM
    exact W.zret (v := v5.1) hx hb hr (nz_b h6) (fun t ht hW => ⟨⟨v5.1, v5.2, rfl, rfl, by rw [ht]; exact hP, va_K.moved hW.alike hK, hD⟩, hS.F ht⟩) hS.2.2 d_S_perform_73
  replace hM := it_f c4 hM
  by_cases c7 : x1 = (2 : Int32)
  · replace hM := it_t c7 hM
    refine lv_tableIn (off := 73) (tgt := 74) hx hb d_S_perform_1 (by rw [c7]; decide) (by rw [c7]; decide) (by rw [c7]; rfl) (by decide) ?_
    refine lv_aload_n hx hb d_S_perform_74 rfl (lv_at hl 0 rfl) ?_
    refine lv_iload_n hx hb d_S_perform_75 rfl (lv_at hl 2 rfl) ?_
    refine lv_iload_n hx hb d_S_perform_76 rfl (lv_at hl 3 rfl) ?_
    obtain ⟨v8, hq8, hM⟩ := bd_some hM
    refine fw_i (F := (cL cI cJ cZ ad)) (u := u) (res := v8) (va_runV (As := [.int x2, .int x3]) (rest := []) ⟨hx, hb, hml, hown, hts⟩ (c_S_setRecord l D cI cJ cZ ad H.size x2 x3 u v8 hq8) (cwV 2 hts (gV mm_188 mm_190 (ms_ 3 rfl rfl) mm_29 mm_191) rfl rfl rfl hd_S_setRecord ⟨Nat.le_of_ble_eq_true rfl, Nat.le_of_ble_eq_true rfl⟩) (pv_ (F := (cL cI cJ cZ ad)) (u := u) hK hP hD (va_recv hK hP (ci := 1) (q0 := 6) rfl rfl)) rfl rfl hl.1 rfl (lv_room (Nat.le_of_ble_eq_true rfl)) d_S_perform_77 ⟨Nat.le_of_ble_eq_true rfl, Nat.le_of_ble_eq_true rfl⟩) hS (fa_ hD hS hA) (fun H locs hP hD hS => ?_)
    obtain ⟨h9, hM⟩ := gd_some hM
    obtain rfl := Option.some.inj hM
    exact W.zret (v := v8.1) hx hb hr (nz_b h9) (fun t ht hW => ⟨⟨v8.1, v8.2, rfl, rfl, by rw [ht]; exact hP, va_K.moved hW.alike hK, hD⟩, hS.F ht⟩) hS.2.2 d_S_perform_80
  replace hM := it_f c7 hM
  by_cases c10 : x1 = (3 : Int32)
  · replace hM := it_t c10 hM
    refine lv_tableIn (off := 80) (tgt := 81) hx hb d_S_perform_1 (by rw [c10]; decide) (by rw [c10]; decide) (by rw [c10]; rfl) (by decide) ?_
    refine lv_aload_n hx hb d_S_perform_81 rfl (lv_at hl 0 rfl) ?_
    refine lv_iload_n hx hb d_S_perform_82 rfl (lv_at hl 2 rfl) ?_
    refine lv_iload_n hx hb d_S_perform_83 rfl (lv_at hl 3 rfl) ?_
    refine lv_lload hx hb d_S_perform_84 (lv_at hl 4 rfl) ?_
    obtain ⟨v11, hq11, hM⟩ := bd_some hM
    refine fw_i (F := (cL cI cJ cZ ad)) (u := u) (res := v11) (va_runV (As := [.int x2, .int x3, .long y4]) (rest := []) ⟨hx, hb, hml, hown, hts⟩ (c_S_lend l D cI cJ cZ ad H.size x2 x3 y4 u v11 hq11) (cwV 3 hts (gV mm_192 mm_194 (ms_ 4 rfl rfl) mm_29 mm_195) rfl rfl rfl hd_S_lend ⟨Nat.le_of_ble_eq_true rfl, Nat.le_of_ble_eq_true rfl⟩) (pv_ (F := (cL cI cJ cZ ad)) (u := u) hK hP hD (va_recv hK hP (ci := 1) (q0 := 6) rfl rfl)) rfl rfl hl.1 rfl (lv_room (Nat.le_of_ble_eq_true rfl)) d_S_perform_86 ⟨Nat.le_of_ble_eq_true rfl, Nat.le_of_ble_eq_true rfl⟩) hS (fa_ hD hS hA) (fun H locs hP hD hS => ?_)
    obtain ⟨h12, hM⟩ := gd_some hM
    obtain rfl := Option.some.inj hM
    exact W.zret (v := v11.1) hx hb hr (nz_b h12) (fun t ht hW => ⟨⟨v11.1, v11.2, rfl, rfl, by rw [ht]; exact hP, va_K.moved hW.alike hK, hD⟩, hS.F ht⟩) hS.2.2 d_S_perform_89
  replace hM := it_f c10 hM
  by_cases c13 : x1 = (4 : Int32)
  · replace hM := it_t c13 hM
    refine lv_tableIn (off := 89) (tgt := 90) hx hb d_S_perform_1 (by rw [c13]; decide) (by rw [c13]; decide) (by rw [c13]; rfl) (by decide) ?_
    refine lv_aload_n hx hb d_S_perform_90 rfl (lv_at hl 0 rfl) ?_
    refine lv_iload_n hx hb d_S_perform_91 rfl (lv_at hl 2 rfl) ?_
    obtain ⟨v14, hq14, hM⟩ := bd_some hM
    refine fw_i (F := (cL cI cJ cZ ad)) (u := u) (res := v14) (va_runV (As := [.int x2]) (rest := []) ⟨hx, hb, hml, hown, hts⟩ (c_S_giveBack l D cI cJ cZ ad H.size x2 u v14 hq14) (cwV 1 hts (gV mm_209 mm_211 (ms_ 7 rfl rfl) mm_29 mm_212) rfl rfl rfl hd_S_giveBack ⟨Nat.le_of_ble_eq_true rfl, Nat.le_of_ble_eq_true rfl⟩) (pv_ (F := (cL cI cJ cZ ad)) (u := u) hK hP hD (va_recv hK hP (ci := 1) (q0 := 6) rfl rfl)) rfl rfl hl.1 rfl (lv_room (Nat.le_of_ble_eq_true rfl)) d_S_perform_92 ⟨Nat.le_of_ble_eq_true rfl, Nat.le_of_ble_eq_true rfl⟩) hS (fa_ hD hS hA) (fun H locs hP hD hS => ?_)
    obtain ⟨h15, hM⟩ := gd_some hM
    obtain rfl := Option.some.inj hM
    exact W.zret (v := v14.1) hx hb hr (nz_b h15) (fun t ht hW => ⟨⟨v14.1, v14.2, rfl, rfl, by rw [ht]; exact hP, va_K.moved hW.alike hK, hD⟩, hS.F ht⟩) hS.2.2 d_S_perform_95
  replace hM := it_f c13 hM
  by_cases c16 : x1 = (5 : Int32)
  · replace hM := it_t c16 hM
    refine lv_tableIn (off := 95) (tgt := 96) hx hb d_S_perform_1 (by rw [c16]; decide) (by rw [c16]; decide) (by rw [c16]; rfl) (by decide) ?_
    refine lv_aload_n hx hb d_S_perform_96 rfl (lv_at hl 0 rfl) ?_
    refine lv_iload_n hx hb d_S_perform_97 rfl (lv_at hl 2 rfl) ?_
    refine lv_iload_n hx hb d_S_perform_98 rfl (lv_at hl 3 rfl) ?_
    obtain ⟨v17, hq17, hM⟩ := bd_some hM
    refine fw_i (F := (cL cI cJ cZ ad)) (u := u) (res := v17) (va_runV (As := [.int x2, .int x3]) (rest := []) ⟨hx, hb, hml, hown, hts⟩ (c_S_joinQueue l D cI cJ cZ ad H.size x2 x3 u v17 hq17) (cwV 2 hts (gV mm_213 mm_215 (ms_ 8 rfl rfl) mm_29 mm_216) rfl rfl rfl hd_S_joinQueue ⟨Nat.le_of_ble_eq_true rfl, Nat.le_of_ble_eq_true rfl⟩) (pv_ (F := (cL cI cJ cZ ad)) (u := u) hK hP hD (va_recv hK hP (ci := 1) (q0 := 6) rfl rfl)) rfl rfl hl.1 rfl (lv_room (Nat.le_of_ble_eq_true rfl)) d_S_perform_99 ⟨Nat.le_of_ble_eq_true rfl, Nat.le_of_ble_eq_true rfl⟩) hS (fa_ hD hS hA) (fun H locs hP hD hS => ?_)
    obtain ⟨h18, hM⟩ := gd_some hM
    obtain rfl := Option.some.inj hM
    exact W.zret (v := v17.1) hx hb hr (nz_b h18) (fun t ht hW => ⟨⟨v17.1, v17.2, rfl, rfl, by rw [ht]; exact hP, va_K.moved hW.alike hK, hD⟩, hS.F ht⟩) hS.2.2 d_S_perform_102
  replace hM := it_f c16 hM
  by_cases c19 : x1 = (6 : Int32)
  · replace hM := it_t c19 hM
    refine lv_tableIn (off := 102) (tgt := 103) hx hb d_S_perform_1 (by rw [c19]; decide) (by rw [c19]; decide) (by rw [c19]; rfl) (by decide) ?_
    refine lv_aload_n hx hb d_S_perform_103 rfl (lv_at hl 0 rfl) ?_
    refine lv_iload_n hx hb d_S_perform_104 rfl (lv_at hl 2 rfl) ?_
    refine lv_iload_n hx hb d_S_perform_105 rfl (lv_at hl 3 rfl) ?_
    obtain ⟨v20, hq20, hM⟩ := bd_some hM
    refine fw_i (F := (cL cI cJ cZ ad)) (u := u) (res := v20) (va_runV (As := [.int x2, .int x3]) (rest := []) ⟨hx, hb, hml, hown, hts⟩ (c_S_leaveQueue l D cI cJ cZ ad H.size x2 x3 u v20 hq20) (cwV 2 hts (gV mm_200 mm_202 (ms_ 5 rfl rfl) mm_29 mm_203) rfl rfl rfl hd_S_leaveQueue ⟨Nat.le_of_ble_eq_true rfl, Nat.le_of_ble_eq_true rfl⟩) (pv_ (F := (cL cI cJ cZ ad)) (u := u) hK hP hD (va_recv hK hP (ci := 1) (q0 := 6) rfl rfl)) rfl rfl hl.1 rfl (lv_room (Nat.le_of_ble_eq_true rfl)) d_S_perform_106 ⟨Nat.le_of_ble_eq_true rfl, Nat.le_of_ble_eq_true rfl⟩) hS (fa_ hD hS hA) (fun H locs hP hD hS => ?_)
    obtain ⟨h21, hM⟩ := gd_some hM
    obtain rfl := Option.some.inj hM
    exact W.zret (v := v20.1) hx hb hr (nz_b h21) (fun t ht hW => ⟨⟨v20.1, v20.2, rfl, rfl, by rw [ht]; exact hP, va_K.moved hW.alike hK, hD⟩, hS.F ht⟩) hS.2.2 d_S_perform_109
  replace hM := it_f c19 hM
  by_cases c22 : x1 = (7 : Int32)
  · replace hM := it_t c22 hM
    refine lv_tableIn (off := 109) (tgt := 110) hx hb d_S_perform_1 (by rw [c22]; decide) (by rw [c22]; decide) (by rw [c22]; rfl) (by decide) ?_
    refine lv_aload_n hx hb d_S_perform_110 rfl (lv_at hl 0 rfl) ?_
    refine va_get (D := D) (ci := 1) (v := .ref (ad 15)) (C := R_S) (T := T_S) (N := 9) hx hb hts in_S hown hK hP 6 rfl rfl 8 (by decide) (hts _ mm_80) (fun _ h9 => h9) rfl d_S_perform_111 ?_
    refine lv_iload_n hx hb d_S_perform_114 rfl (lv_at hl 2 rfl) ?_
    refine lv_iload_n hx hb d_S_perform_115 rfl (lv_at hl 3 rfl) ?_
    obtain ⟨v23, hq23, hM⟩ := bd_some hM
    refine fr_i (res := v23) (va_runS (As := [.int x2, .int x3]) (rest := [.ref (ad 15)]) ⟨hx, hb, hml, hown, hts⟩ (c_S_sumIndex l D cI cJ cZ H.size x2 x3 v23 hq23) (va_cwS 2 hts (gS mm_217 mm_218 mm_29 mm_219) rfl rfl rfl hs_S_sumIndex ⟨Nat.le_of_ble_eq_true rfl, Nat.le_of_ble_eq_true rfl⟩) (ps_ (F := nW) (u := ()) hK nP (nD (A := fun _ => True))) rfl rfl hl.1 rfl (lv_room (Nat.le_of_ble_eq_true rfl)) d_S_perform_116 ⟨Nat.le_of_ble_eq_true rfl, Nat.le_of_ble_eq_true rfl⟩) hP hS hA (fun H locs hP hS => ?_)
    refine lv_lload hx hb d_S_perform_119 (lv_at hl 4 rfl) ?_
    refine lv_ldc2 (v := (7 : Int64)) hx hb hown (hts _ mm_220) d_S_perform_121 ?_
    refine lv_lrem hx hb d_S_perform_124 (by decide) ?_
    refine lv_l2i (v := (y4 - y4 / (7 : Int64) * (7 : Int64)).toInt32) hx hb d_S_perform_125 rfl ?_
    obtain ⟨h24, hM⟩ := gd_some hM
    refine va_iast hx hb hK hP hD hS 15 0 rfl rfl (vp_in_iff.mpr h24) d_S_perform_126 (fun H locs hP hD hS => ?_)
    have hP : va_P D cl9 ((cL cI cJ cZ ad) (l_sm_w u (upd (l_sm u) v23.toNatClampNeg ((y4 - y4 / (7 : Int64) * (7 : Int64)).toInt32)))) H := hP
    have hD : va_D A ((cL cI cJ cZ ad) (l_sm_w u (upd (l_sm u) v23.toNatClampNeg ((y4 - y4 / (7 : Int64) * (7 : Int64)).toInt32)))) := hD
    refine lv_iconst (v := (1 : Int32)) hx hb d_S_perform_127 (by decide) ?_
    obtain rfl := Option.some.inj hM
    exact W.zret (v := (1 : Int32)) hx hb hr rfl (fun t ht hW => ⟨⟨(1 : Int32), (l_sm_w u (upd (l_sm u) v23.toNatClampNeg ((y4 - y4 / (7 : Int64) * (7 : Int64)).toInt32))), rfl, rfl, by rw [ht]; exact hP, va_K.moved hW.alike hK, hD⟩, hS.F ht⟩) hS.2.2 d_S_perform_128
  replace hM := it_f c22 hM
  by_cases c25 : x1 = (8 : Int32)
  · replace hM := it_t c25 hM
    refine lv_tableIn (off := 128) (tgt := 129) hx hb d_S_perform_1 (by rw [c25]; decide) (by rw [c25]; decide) (by rw [c25]; rfl) (by decide) ?_
    refine lv_aload_n hx hb d_S_perform_129 rfl (lv_at hl 0 rfl) ?_
    refine lv_iload_n hx hb d_S_perform_130 rfl (lv_at hl 2 rfl) ?_
    refine lv_iload_n hx hb d_S_perform_131 rfl (lv_at hl 3 rfl) ?_
    obtain ⟨v26, hq26, hM⟩ := bd_some hM
    refine fw_i (F := (cL cI cJ cZ ad)) (u := u) (res := v26) (va_runV (As := [.int x2, .int x3]) (rest := []) ⟨hx, hb, hml, hown, hts⟩ (c_S_loseFile l D cI cJ cZ ad H.size x2 x3 u v26 hq26) (cwV 2 hts (gV mm_221 mm_223 (ms_ 9 rfl rfl) mm_29 mm_224) rfl rfl rfl hd_S_loseFile ⟨Nat.le_of_ble_eq_true rfl, Nat.le_of_ble_eq_true rfl⟩) (pv_ (F := (cL cI cJ cZ ad)) (u := u) hK hP hD (va_recv hK hP (ci := 1) (q0 := 6) rfl rfl)) rfl rfl hl.1 rfl (lv_room (Nat.le_of_ble_eq_true rfl)) d_S_perform_132 ⟨Nat.le_of_ble_eq_true rfl, Nat.le_of_ble_eq_true rfl⟩) hS (fa_ hD hS hA) (fun H locs hP hD hS => ?_)
    obtain ⟨h27, hM⟩ := gd_some hM
    obtain rfl := Option.some.inj hM
    exact W.zret (v := v26.1) hx hb hr (nz_b h27) (fun t ht hW => ⟨⟨v26.1, v26.2, rfl, rfl, by rw [ht]; exact hP, va_K.moved hW.alike hK, hD⟩, hS.F ht⟩) hS.2.2 d_S_perform_135
  replace hM := it_f c25 hM
  by_cases c28 : x1 = (9 : Int32)
  · replace hM := it_t c28 hM
    refine lv_tableIn (off := 135) (tgt := 136) hx hb d_S_perform_1 (by rw [c28]; decide) (by rw [c28]; decide) (by rw [c28]; rfl) (by decide) ?_
    refine lv_aload_n hx hb d_S_perform_136 rfl (lv_at hl 0 rfl) ?_
    refine va_get (D := D) (ci := 1) (v := .ref (ad 13)) (C := R_S) (T := T_S) (N := 9) hx hb hts in_S hown hK hP 6 rfl rfl 6 (by decide) (hts _ mm_78) (fun _ h9 => h9) rfl d_S_perform_137 ?_
    refine lv_iload_n hx hb d_S_perform_140 rfl (lv_at hl 2 rfl) ?_
    refine lv_iload_n hx hb d_S_perform_141 rfl (lv_at hl 3 rfl) ?_
    obtain ⟨h29, hM⟩ := gd_some hM
    refine va_iast hx hb hK hP hD hS 13 0 rfl rfl (vp_in_iff.mpr h29) d_S_perform_142 (fun H locs hP hD hS => ?_)
    have hP : va_P D cl9 ((cL cI cJ cZ ad) (l_cls_w u (upd (l_cls u) x2.toNatClampNeg x3))) H := hP
    have hD : va_D A ((cL cI cJ cZ ad) (l_cls_w u (upd (l_cls u) x2.toNatClampNeg x3))) := hD
    refine lv_iconst (v := (1 : Int32)) hx hb d_S_perform_143 (by decide) ?_
    obtain rfl := Option.some.inj hM
    exact W.zret (v := (1 : Int32)) hx hb hr rfl (fun t ht hW => ⟨⟨(1 : Int32), (l_cls_w u (upd (l_cls u) x2.toNatClampNeg x3)), rfl, rfl, by rw [ht]; exact hP, va_K.moved hW.alike hK, hD⟩, hS.F ht⟩) hS.2.2 d_S_perform_144
  replace hM := it_f c28 hM
  by_cases c30 : x1 = (10 : Int32)
  · replace hM := it_t c30 hM
    refine lv_tableIn (off := 144) (tgt := 145) hx hb d_S_perform_1 (by rw [c30]; decide) (by rw [c30]; decide) (by rw [c30]; rfl) (by decide) ?_
    refine lv_aload_n hx hb d_S_perform_145 rfl (lv_at hl 0 rfl) ?_
    refine va_get (D := D) (ci := 1) (v := .ref (ad 14)) (C := R_S) (T := T_S) (N := 9) hx hb hts in_S hown hK hP 6 rfl rfl 7 (by decide) (hts _ mm_79) (fun _ h9 => h9) rfl d_S_perform_146 ?_
    refine lv_iload_n hx hb d_S_perform_149 rfl (lv_at hl 2 rfl) ?_
    refine lv_iload_n hx hb d_S_perform_150 rfl (lv_at hl 3 rfl) ?_
    obtain ⟨h31, hM⟩ := gd_some hM
    refine va_iast hx hb hK hP hD hS 14 0 rfl rfl (vp_in_iff.mpr h31) d_S_perform_151 (fun H locs hP hD hS => ?_)
    have hP : va_P D cl9 ((cL cI cJ cZ ad) (l_ln_w u (upd (l_ln u) x2.toNatClampNeg x3))) H := hP
    have hD : va_D A ((cL cI cJ cZ ad) (l_ln_w u (upd (l_ln u) x2.toNatClampNeg x3))) := hD
    refine lv_iconst (v := (1 : Int32)) hx hb d_S_perform_152 (by decide) ?_
    obtain rfl := Option.some.inj hM
    exact W.zret (v := (1 : Int32)) hx hb hr rfl (fun t ht hW => ⟨⟨(1 : Int32), (l_ln_w u (upd (l_ln u) x2.toNatClampNeg x3)), rfl, rfl, by rw [ht]; exact hP, va_K.moved hW.alike hK, hD⟩, hS.F ht⟩) hS.2.2 d_S_perform_153
  replace hM := it_f c30 hM
  have nc1 := lv_neT c1 (a := 0) (by decide)
  have nc4 := lv_neT c4 (a := 1) (by decide)
  have nc7 := lv_neT c7 (a := 2) (by decide)
  have nc10 := lv_neT c10 (a := 3) (by decide)
  have nc13 := lv_neT c13 (a := 4) (by decide)
  have nc16 := lv_neT c16 (a := 5) (by decide)
  have nc19 := lv_neT c19 (a := 6) (by decide)
  have nc22 := lv_neT c22 (a := 7) (by decide)
  have nc25 := lv_neT c25 (a := 8) (by decide)
  have nc28 := lv_neT c28 (a := 9) (by decide)
  have nc30 := lv_neT c30 (a := 10) (by decide)
  refine lv_tableOut (tgt := 154) hx hb d_S_perform_1 (by omega) (by decide) ?_
  refine lv_iconst (v := (0 : Int32)) hx hb d_S_perform_154 (by decide) ?_
  obtain rfl := Option.some.inj hM
  exact W.zret (v := (0 : Int32)) hx hb hr rfl (fun t ht hW => ⟨⟨(0 : Int32), u, rfl, rfl, by rw [ht]; exact hP, va_K.moved hW.alike hK, hD⟩, hS.F ht⟩) hS.2.2 d_S_perform_155
end
set_option maxRecDepth 100000 in
theorem c_S_perform (l : Launch) (D : va_G) (cI cJ cZ : ClassId) (ad : Nat → Nat) (sz : Nat) (x1 : Int32) (x2 : Int32) (x3 : Int32) (y4 : Int64) (u : Lib) (res : (Int32 × Lib)) (hM : B_S_perform_0 x1 x2 x3 y4 u = some res) : Met l y_S_perform ws_S_perform rm_S_perform (va_Pc [.ref (ad 6), .int x1, .int x2, .int x3, .long y4] (pr_ D cl9 (tyy cI cJ cZ) (cL cI cJ cZ ad) u sz)) (Qwi D cl9 (tyy cI cJ cZ) (cL cI cJ cZ ad) (va_A ((cL cI cJ cZ ad) u) sz) res) 0 0 (va_A ((cL cI cJ cZ ad) u) sz) := by
  refine Met.ofW (cc := prog_3_method_3_code) (maxL := 6) (ret := (Option.some FieldType.boolean)) (by decide) rfl ?_
  intro p e s m args below meth c s₁ B hml hv
  obtain ⟨rfl, hsz, hP, hK, hD0⟩ := hv
  subst hsz
  have hts0 := atoms_spec (ws := ws_S_perform) B.pre
  have hl := lv_entry ([.ref (ad 6), .int x1, .int x2, .int x3, .long y4]) (n := 6) (Nat.le_of_ble_eq_true rfl)
  rw [lg_entry_eq]
  generalize (lg_sl ([.ref (ad 6), .int x1, .int x2, .int x3, .long y4]) ++ List.replicate (6 - (lg_sl ([.ref (ad 6), .int x1, .int x2, .int x3, .long y4])).length) Slot.unset).toArray = ls at hl ⊢
  exact w_S_perform_0 ⟨B.exec, B.bytes, B.returns, hml, findClass_of_methodNamed B.named, fun w h => hts0 w (List.mem_cons_of_mem _ h), B.notSynchronized, hK, fun q h => Or.inr h⟩ x1 x2 x3 y4 u s.heap [] ls hP hD0.self va_S.rf hl hM
end
section
section
variable {p : Program} {l : Launch} {e : Env} {s : State} {m : MethodId} {args : Array Value} {below : List Frame} {meth : Method} {c : Code} {D : va_G} {cI cJ cZ : ClassId} {A : Nat → Prop} {ad : Nat → Nat}
set_option maxHeartbeats 4000000 in
set_option maxRecDepth 100000 in
theorem w_S_recordOf_0 {res : Int32} (C : Cx p s m args meth c prog_3_method_4_code 2 (Option.some FieldType.int) "PlainLibrary$Shelves" tb D cl9 (tyy cI cJ cZ) A) (x1 : Int32) (u : Lib) (H : Heap) (locs : List Loc) (ls : Array Slot) (hP : va_P D cl9 ((cL cI cJ cZ ad) u) H) (hD : va_D (fun _ => True) ((cL cI cJ cZ ad) u)) (hS : va_S A s.heap H locs) (hl : lv_has ls 2 [(0, .ref (ad 6)), (1, .int x1)]) (hM : B_S_recordOf_0 x1 u = some res) : W p l e rm_S_recordOf s m args below meth c H locs 0 0 (MQ below (Qri A res) args s 0 0 A) (F0 m 0 ls []) := by
  have C0 := C
  obtain ⟨hx, hb, hr, hml, hown, hts, hlocks, hK, hA⟩ := C
  replace C := C0
  unfold B_S_recordOf_0 at hM
  refine lv_aload_n hx hb d_S_recordOf_0 rfl (lv_at hl 0 rfl) ?_
  refine va_get (D := D) (ci := 1) (v := .ref (ad 8)) (C := R_S) (T := T_S) (N := 9) hx hb hts in_S hown hK hP 6 rfl rfl 1 (by decide) (hts _ mm_73) (fun _ h9 => h9) rfl d_S_recordOf_1 ?_
  refine lv_iload_n hx hb d_S_recordOf_4 rfl (lv_at hl 1 rfl) ?_
  obtain ⟨h1, hM⟩ := gd_some hM
  refine va_iald hx hb hK hP 8 0 rfl rfl (vp_in_iff.mpr h1) d_S_recordOf_5 ?_
  obtain rfl := Option.some.inj hM
  exact W.iret (v := ((l_rec u) x1.toNatClampNeg)) hx hb hr (fun t ht hW => ⟨⟨((l_rec u) x1.toNatClampNeg), (), rfl, rfl, trivial⟩, hS.F ht⟩) hS.2.2 d_S_recordOf_6
end
set_option maxRecDepth 100000 in
theorem c_S_recordOf (l : Launch) (D : va_G) (cI cJ cZ : ClassId) (ad : Nat → Nat) (sz : Nat) (x1 : Int32) (u : Lib) (res : Int32) (hM : B_S_recordOf_0 x1 u = some res) : Met l y_S_recordOf ws_S_recordOf rm_S_recordOf (va_Pc [.ref (ad 6), .int x1] (pr_ D cl9 (tyy cI cJ cZ) (cL cI cJ cZ ad) u sz)) (Qri (va_A [] sz) res) 0 0 (va_A [] sz) := by
  refine Met.ofW (cc := prog_3_method_4_code) (maxL := 2) (ret := (Option.some FieldType.int)) (by decide) rfl ?_
  intro p e s m args below meth c s₁ B hml hv
  obtain ⟨rfl, hsz, hP, hK, hD0⟩ := hv
  subst hsz
  have hts0 := atoms_spec (ws := ws_S_recordOf) B.pre
  have hl := lv_entry ([.ref (ad 6), .int x1]) (n := 2) (Nat.le_of_ble_eq_true rfl)
  rw [lg_entry_eq]
  generalize (lg_sl ([.ref (ad 6), .int x1]) ++ List.replicate (2 - (lg_sl ([.ref (ad 6), .int x1])).length) Slot.unset).toArray = ls at hl ⊢
  exact w_S_recordOf_0 ⟨B.exec, B.bytes, B.returns, hml, findClass_of_methodNamed B.named, fun w h => hts0 w (List.mem_cons_of_mem _ h), B.notSynchronized, hK, fun q h => Or.inr h⟩ x1 u s.heap [] ls hP hD0 va_S.rf hl hM
end
section
section
variable {p : Program} {l : Launch} {e : Env} {s : State} {m : MethodId} {args : Array Value} {below : List Frame} {meth : Method} {c : Code} {D : va_G} {cI cJ cZ : ClassId} {A : Nat → Prop} {ad : Nat → Nat}
set_option maxHeartbeats 4000000 in
set_option maxRecDepth 100000 in
theorem w_S_personWith_0 {res : Int32} (C : Cx p s m args meth c prog_3_method_5_code 2 (Option.some FieldType.int) "PlainLibrary$Shelves" tb D cl9 (tyy cI cJ cZ) A) (x1 : Int32) (u : Lib) (H : Heap) (locs : List Loc) (ls : Array Slot) (hP : va_P D cl9 ((cL cI cJ cZ ad) u) H) (hD : va_D (fun _ => True) ((cL cI cJ cZ ad) u)) (hS : va_S A s.heap H locs) (hl : lv_has ls 2 [(0, .ref (ad 6)), (1, .int x1)]) (hM : B_S_personWith_0 x1 u = some res) : W p l e rm_S_personWith s m args below meth c H locs 0 0 (MQ below (Qri A res) args s 0 0 A) (F0 m 0 ls []) := by
  have C0 := C
  obtain ⟨hx, hb, hr, hml, hown, hts, hlocks, hK, hA⟩ := C
  replace C := C0
  unfold B_S_personWith_0 at hM
  refine lv_aload_n hx hb d_S_personWith_0 rfl (lv_at hl 0 rfl) ?_
  refine va_get (D := D) (ci := 1) (v := .ref (ad 9)) (C := R_S) (T := T_S) (N := 9) hx hb hts in_S hown hK hP 6 rfl rfl 2 (by decide) (hts _ mm_74) (fun _ h9 => h9) rfl d_S_personWith_1 ?_
  refine lv_iload_n hx hb d_S_personWith_4 rfl (lv_at hl 1 rfl) ?_
  obtain ⟨h1, hM⟩ := gd_some hM
  refine va_iald hx hb hK hP 9 0 rfl rfl (vp_in_iff.mpr h1) d_S_personWith_5 ?_
  obtain rfl := Option.some.inj hM
  exact W.iret (v := ((l_per u) x1.toNatClampNeg)) hx hb hr (fun t ht hW => ⟨⟨((l_per u) x1.toNatClampNeg), (), rfl, rfl, trivial⟩, hS.F ht⟩) hS.2.2 d_S_personWith_6
end
set_option maxRecDepth 100000 in
theorem c_S_personWith (l : Launch) (D : va_G) (cI cJ cZ : ClassId) (ad : Nat → Nat) (sz : Nat) (x1 : Int32) (u : Lib) (res : Int32) (hM : B_S_personWith_0 x1 u = some res) : Met l y_S_personWith ws_S_personWith rm_S_personWith (va_Pc [.ref (ad 6), .int x1] (pr_ D cl9 (tyy cI cJ cZ) (cL cI cJ cZ ad) u sz)) (Qri (va_A [] sz) res) 0 0 (va_A [] sz) := by
  refine Met.ofW (cc := prog_3_method_5_code) (maxL := 2) (ret := (Option.some FieldType.int)) (by decide) rfl ?_
  intro p e s m args below meth c s₁ B hml hv
  obtain ⟨rfl, hsz, hP, hK, hD0⟩ := hv
  subst hsz
  have hts0 := atoms_spec (ws := ws_S_personWith) B.pre
  have hl := lv_entry ([.ref (ad 6), .int x1]) (n := 2) (Nat.le_of_ble_eq_true rfl)
  rw [lg_entry_eq]
  generalize (lg_sl ([.ref (ad 6), .int x1]) ++ List.replicate (2 - (lg_sl ([.ref (ad 6), .int x1])).length) Slot.unset).toArray = ls at hl ⊢
  exact w_S_personWith_0 ⟨B.exec, B.bytes, B.returns, hml, findClass_of_methodNamed B.named, fun w h => hts0 w (List.mem_cons_of_mem _ h), B.notSynchronized, hK, fun q h => Or.inr h⟩ x1 u s.heap [] ls hP hD0 va_S.rf hl hM
end
section
section
variable {p : Program} {l : Launch} {e : Env} {s : State} {m : MethodId} {args : Array Value} {below : List Frame} {meth : Method} {c : Code} {D : va_G} {cI cJ cZ : ClassId} {A : Nat → Prop} {ad : Nat → Nat}
set_option maxHeartbeats 4000000 in
set_option maxRecDepth 100000 in
theorem w_S_classOf_0 {res : Int32} (C : Cx p s m args meth c prog_3_method_6_code 2 (Option.some FieldType.int) "PlainLibrary$Shelves" tb D cl9 (tyy cI cJ cZ) A) (x1 : Int32) (u : Lib) (H : Heap) (locs : List Loc) (ls : Array Slot) (hP : va_P D cl9 ((cL cI cJ cZ ad) u) H) (hD : va_D (fun _ => True) ((cL cI cJ cZ ad) u)) (hS : va_S A s.heap H locs) (hl : lv_has ls 2 [(0, .ref (ad 6)), (1, .int x1)]) (hM : B_S_classOf_0 x1 u = some res) : W p l e rm_S_classOf s m args below meth c H locs 0 0 (MQ below (Qri A res) args s 0 0 A) (F0 m 0 ls []) := by
  have C0 := C
  obtain ⟨hx, hb, hr, hml, hown, hts, hlocks, hK, hA⟩ := C
  replace C := C0
  unfold B_S_classOf_0 at hM
  refine lv_aload_n hx hb d_S_classOf_0 rfl (lv_at hl 0 rfl) ?_
  refine va_get (D := D) (ci := 1) (v := .ref (ad 13)) (C := R_S) (T := T_S) (N := 9) hx hb hts in_S hown hK hP 6 rfl rfl 6 (by decide) (hts _ mm_78) (fun _ h9 => h9) rfl d_S_classOf_1 ?_
  refine lv_iload_n hx hb d_S_classOf_4 rfl (lv_at hl 1 rfl) ?_
  obtain ⟨h1, hM⟩ := gd_some hM
  refine va_iald hx hb hK hP 13 0 rfl rfl (vp_in_iff.mpr h1) d_S_classOf_5 ?_
  obtain rfl := Option.some.inj hM
  exact W.iret (v := ((l_cls u) x1.toNatClampNeg)) hx hb hr (fun t ht hW => ⟨⟨((l_cls u) x1.toNatClampNeg), (), rfl, rfl, trivial⟩, hS.F ht⟩) hS.2.2 d_S_classOf_6
end
set_option maxRecDepth 100000 in
theorem c_S_classOf (l : Launch) (D : va_G) (cI cJ cZ : ClassId) (ad : Nat → Nat) (sz : Nat) (x1 : Int32) (u : Lib) (res : Int32) (hM : B_S_classOf_0 x1 u = some res) : Met l y_S_classOf ws_S_classOf rm_S_classOf (va_Pc [.ref (ad 6), .int x1] (pr_ D cl9 (tyy cI cJ cZ) (cL cI cJ cZ ad) u sz)) (Qri (va_A [] sz) res) 0 0 (va_A [] sz) := by
  refine Met.ofW (cc := prog_3_method_6_code) (maxL := 2) (ret := (Option.some FieldType.int)) (by decide) rfl ?_
  intro p e s m args below meth c s₁ B hml hv
  obtain ⟨rfl, hsz, hP, hK, hD0⟩ := hv
  subst hsz
  have hts0 := atoms_spec (ws := ws_S_classOf) B.pre
  have hl := lv_entry ([.ref (ad 6), .int x1]) (n := 2) (Nat.le_of_ble_eq_true rfl)
  rw [lg_entry_eq]
  generalize (lg_sl ([.ref (ad 6), .int x1]) ++ List.replicate (2 - (lg_sl ([.ref (ad 6), .int x1])).length) Slot.unset).toArray = ls at hl ⊢
  exact w_S_classOf_0 ⟨B.exec, B.bytes, B.returns, hml, findClass_of_methodNamed B.named, fun w h => hts0 w (List.mem_cons_of_mem _ h), B.notSynchronized, hK, fun q h => Or.inr h⟩ x1 u s.heap [] ls hP hD0 va_S.rf hl hM
end
section
section
variable {p : Program} {l : Launch} {e : Env} {s : State} {m : MethodId} {args : Array Value} {below : List Frame} {meth : Method} {c : Code} {D : va_G} {cI cJ cZ : ClassId} {A : Nat → Prop} {ad : Nat → Nat}
set_option maxHeartbeats 4000000 in
set_option maxRecDepth 100000 in
theorem w_S_copiesThereOf_32 {k4 : Int32 → Int32 → Int32 → Lib → Option Int32} {res : Int32} (C : Cx p s m args meth c prog_3_method_7_code 4 (Option.some FieldType.int) "PlainLibrary$Shelves" tb D cl9 (tyy cI cJ cZ) A) (hk4 : ∀ (x1 : Int32) (x2 : Int32) (x3 : Int32) (u : Lib) (H : Heap) (locs : List Loc) (ls : Array Slot), va_P D cl9 ((cL cI cJ cZ ad) u) H → va_D (fun _ => True) ((cL cI cJ cZ ad) u) → va_S A s.heap H locs → lv_has ls 4 [(0, .ref (ad 6)), (1, .int x1), (2, .int x2), (3, .int x3)] → k4 x1 x2 x3 u = some res → W p l e rm_S_copiesThereOf s m args below meth c H locs 0 0 (MQ below (Qri A res) args s 0 0 A) (F0 m 4 ls [])) (x1 : Int32) (x2 : Int32) (x3 : Int32) (u : Lib) (H : Heap) (locs : List Loc) (ls : Array Slot) (hP : va_P D cl9 ((cL cI cJ cZ ad) u) H) (hD : va_D (fun _ => True) ((cL cI cJ cZ ad) u)) (hS : va_S A s.heap H locs) (hl : lv_has ls 4 [(0, .ref (ad 6)), (1, .int x1), (2, .int x2), (3, .int x3)]) (hM : B_S_copiesThereOf_32 k4 x1 x2 x3 u = some res) : W p l e rm_S_copiesThereOf s m args below meth c H locs 0 0 (MQ below (Qri A res) args s 0 0 A) (F0 m 32 ls []) := by
  have C0 := C
  obtain ⟨hx, hb, hr, hml, hown, hts, hlocks, hK, hA⟩ := C
  replace C := C0
  unfold B_S_copiesThereOf_32 at hM
  refine lv_iinc (v := (x3 + (1 : Int32))) (lv' := [(3, .int (x3 + (1 : Int32))), (0, .ref (ad 6)), (1, .int x1), (2, .int x2)]) hx hb d_S_copiesThereOf_32 hl (k := 3) rfl rfl (by decide) rfl (fun ls hl => ?_)
  refine lv_goto (tgt := 4) hx hb d_S_copiesThereOf_35 (by decide) ?_
  exact hk4 x1 x2 (x3 + (1 : Int32)) u H locs ls hP hD hS (lv_sub hl [1, 2, 3, 0] rfl) hM
set_option maxHeartbeats 4000000 in
set_option maxRecDepth 100000 in
theorem w_S_copiesThereOf_4s {res : Int32} (C : Cx p s m args meth c prog_3_method_7_code 4 (Option.some FieldType.int) "PlainLibrary$Shelves" tb D cl9 (tyy cI cJ cZ) A) {k4 : Int32 → Int32 → Int32 → Lib → Option Int32} (hk4 : ∀ (x1 : Int32) (x2 : Int32) (x3 : Int32) (u : Lib) (H : Heap) (locs : List Loc) (ls : Array Slot), va_P D cl9 ((cL cI cJ cZ ad) u) H → va_D (fun _ => True) ((cL cI cJ cZ ad) u) → va_S A s.heap H locs → lv_has ls 4 [(0, .ref (ad 6)), (1, .int x1), (2, .int x2), (3, .int x3)] → k4 x1 x2 x3 u = some res → W p l e rm_S_copiesThereOf s m args below meth c H locs 0 0 (MQ below (Qri A res) args s 0 0 A) (F0 m 4 ls [])) (x1 : Int32) (x2 : Int32) (x3 : Int32) (u : Lib) (H : Heap) (locs : List Loc) (ls : Array Slot) (hP : va_P D cl9 ((cL cI cJ cZ ad) u) H) (hD : va_D (fun _ => True) ((cL cI cJ cZ ad) u)) (hS : va_S A s.heap H locs) (hl : lv_has ls 4 [(0, .ref (ad 6)), (1, .int x1), (2, .int x2), (3, .int x3)]) (hM : B_S_copiesThereOf_4s k4 x1 x2 x3 u = some res) : W p l e rm_S_copiesThereOf s m args below meth c H locs 0 0 (MQ below (Qri A res) args s 0 0 A) (F0 m 4 ls []) := by
  have C0 := C
  obtain ⟨hx, hb, hr, hml, hown, hts, hlocks, hK, hA⟩ := C
  replace C := C0
  unfold B_S_copiesThereOf_4s at hM
  refine lv_iload_n hx hb d_S_copiesThereOf_4 rfl (lv_at hl 3 rfl) ?_
  refine lv_bipush (v := (20 : Int32)) hx hb d_S_copiesThereOf_5 (by decide) ?_
  refine lv_icmp_gt (tgt := 38) hx hb d_S_copiesThereOf_7 (by decide) (fun c1 => ?_) (fun c1 => ?_)
  · replace hM := it_t c1 hM
    refine lv_iload_n hx hb d_S_copiesThereOf_38 rfl (lv_at hl 2 rfl) ?_
    obtain rfl := Option.some.inj hM
    exact W.iret (v := x2) hx hb hr (fun t ht hW => ⟨⟨x2, (), rfl, rfl, trivial⟩, hS.F ht⟩) hS.2.2 d_S_copiesThereOf_39
  · replace hM := it_f c1 hM
    refine lv_aload_n hx hb d_S_copiesThereOf_10 rfl (lv_at hl 0 rfl) ?_
    refine va_get (D := D) (ci := 1) (v := .ref (ad 8)) (C := R_S) (T := T_S) (N := 9) hx hb hts in_S hown hK hP 6 rfl rfl 1 (by decide) (hts _ mm_73) (fun _ h9 => h9) rfl d_S_copiesThereOf_11 ?_
    refine lv_iload_n hx hb d_S_copiesThereOf_14 rfl (lv_at hl 3 rfl) ?_
    obtain ⟨h2, hM⟩ := gd_some hM
    refine va_iald hx hb hK hP 8 0 rfl rfl (vp_in_iff.mpr h2) d_S_copiesThereOf_15 ?_
    refine lv_iload_n hx hb d_S_copiesThereOf_16 rfl (lv_at hl 1 rfl) ?_
    refine lv_icmp_ne (tgt := 32) hx hb d_S_copiesThereOf_17 (by decide) (fun c3 => ?_) (fun c3 => ?_)
    · replace hM := it_f c3 hM
      exact w_S_copiesThereOf_32 C hk4 x1 x2 x3 u H locs ls hP hD hS (lv_sub hl [0, 1, 2, 3] rfl) hM
    · replace hM := it_t c3 hM
      refine lv_aload_n hx hb d_S_copiesThereOf_20 rfl (lv_at hl 0 rfl) ?_
      refine va_get (D := D) (ci := 1) (v := .ref (ad 9)) (C := R_S) (T := T_S) (N := 9) hx hb hts in_S hown hK hP 6 rfl rfl 2 (by decide) (hts _ mm_74) (fun _ h9 => h9) rfl d_S_copiesThereOf_21 ?_
      refine lv_iload_n hx hb d_S_copiesThereOf_24 rfl (lv_at hl 3 rfl) ?_
      obtain ⟨h4, hM⟩ := gd_some hM
      refine va_iald hx hb hK hP 9 0 rfl rfl (vp_in_iff.mpr h4) d_S_copiesThereOf_25 ?_
      refine lv_if_ne (tgt := 32) hx hb d_S_copiesThereOf_26 (by decide) (fun c5 => ?_) (fun c5 => ?_)
      · replace hM := it_f c5 hM
        exact w_S_copiesThereOf_32 C hk4 x1 x2 x3 u H locs ls hP hD hS (lv_sub hl [0, 1, 2, 3] rfl) hM
      · replace hM := it_t c5 hM
        refine lv_iinc (v := (x2 + (1 : Int32))) (lv' := [(2, .int (x2 + (1 : Int32))), (0, .ref (ad 6)), (1, .int x1), (3, .int x3)]) hx hb d_S_copiesThereOf_29 hl (k := 2) rfl rfl (by decide) rfl (fun ls hl => ?_)
        exact w_S_copiesThereOf_32 C hk4 x1 (x2 + (1 : Int32)) x3 u H locs ls hP hD hS (lv_sub hl [1, 2, 0, 3] rfl) hM
theorem w_S_copiesThereOf_4 {res : Int32} (C : Cx p s m args meth c prog_3_method_7_code 4 (Option.some FieldType.int) "PlainLibrary$Shelves" tb D cl9 (tyy cI cJ cZ) A) : ∀ (fu : Nat) (x1 : Int32) (x2 : Int32) (x3 : Int32) (u : Lib) (H : Heap) (locs : List Loc) (ls : Array Slot), va_P D cl9 ((cL cI cJ cZ ad) u) H → va_D (fun _ => True) ((cL cI cJ cZ ad) u) → va_S A s.heap H locs → lv_has ls 4 [(0, .ref (ad 6)), (1, .int x1), (2, .int x2), (3, .int x3)] → B_S_copiesThereOf_4 fu x1 x2 x3 u = some res → W p l e rm_S_copiesThereOf s m args below meth c H locs 0 0 (MQ below (Qri A res) args s 0 0 A) (F0 m 4 ls []) := by
  intro fu
  induction fu with
  | zero =>
    intro x1 x2 x3 u H locs ls hP hD hS hl hM
    have hM : (none : Option Int32) = some res := hM
    cases hM
  | succ fu ih =>
    intro x1 x2 x3 u H locs ls hP hD hS hl hM
    exact w_S_copiesThereOf_4s C ih x1 x2 x3 u H locs ls hP hD hS hl hM
set_option maxHeartbeats 4000000 in
set_option maxRecDepth 100000 in
theorem w_S_copiesThereOf_0 {res : Int32} (C : Cx p s m args meth c prog_3_method_7_code 4 (Option.some FieldType.int) "PlainLibrary$Shelves" tb D cl9 (tyy cI cJ cZ) A) (x1 : Int32) (u : Lib) (H : Heap) (locs : List Loc) (ls : Array Slot) (hP : va_P D cl9 ((cL cI cJ cZ ad) u) H) (hD : va_D (fun _ => True) ((cL cI cJ cZ ad) u)) (hS : va_S A s.heap H locs) (hl : lv_has ls 4 [(0, .ref (ad 6)), (1, .int x1)]) (hM : B_S_copiesThereOf_0 x1 u = some res) : W p l e rm_S_copiesThereOf s m args below meth c H locs 0 0 (MQ below (Qri A res) args s 0 0 A) (F0 m 0 ls []) := by
  have C0 := C
  obtain ⟨hx, hb, hr, hml, hown, hts, hlocks, hK, hA⟩ := C
  replace C := C0
  unfold B_S_copiesThereOf_0 at hM
  refine lv_iconst (v := (0 : Int32)) hx hb d_S_copiesThereOf_0 (by decide) ?_
  refine lv_istore_n (lv' := [(2, .int (0 : Int32)), (0, .ref (ad 6)), (1, .int x1)]) hx hb d_S_copiesThereOf_1 rfl hl (by decide) rfl (fun ls hl => ?_)
  refine lv_iconst (v := (1 : Int32)) hx hb d_S_copiesThereOf_2 (by decide) ?_
  refine lv_istore_n (lv' := [(3, .int (1 : Int32)), (2, .int (0 : Int32)), (0, .ref (ad 6)), (1, .int x1)]) hx hb d_S_copiesThereOf_3 rfl hl (by decide) rfl (fun ls hl => ?_)
  exact w_S_copiesThereOf_4 C FU x1 (0 : Int32) (1 : Int32) u H locs ls hP hD hS (lv_sub hl [2, 3, 1, 0] rfl) hM
end
set_option maxRecDepth 100000 in
theorem c_S_copiesThereOf (l : Launch) (D : va_G) (cI cJ cZ : ClassId) (ad : Nat → Nat) (sz : Nat) (x1 : Int32) (u : Lib) (res : Int32) (hM : B_S_copiesThereOf_0 x1 u = some res) : Met l y_S_copiesThereOf ws_S_copiesThereOf rm_S_copiesThereOf (va_Pc [.ref (ad 6), .int x1] (pr_ D cl9 (tyy cI cJ cZ) (cL cI cJ cZ ad) u sz)) (Qri (va_A [] sz) res) 0 0 (va_A [] sz) := by
  refine Met.ofW (cc := prog_3_method_7_code) (maxL := 4) (ret := (Option.some FieldType.int)) (by decide) rfl ?_
  intro p e s m args below meth c s₁ B hml hv
  obtain ⟨rfl, hsz, hP, hK, hD0⟩ := hv
  subst hsz
  have hts0 := atoms_spec (ws := ws_S_copiesThereOf) B.pre
  have hl := lv_entry ([.ref (ad 6), .int x1]) (n := 4) (Nat.le_of_ble_eq_true rfl)
  rw [lg_entry_eq]
  generalize (lg_sl ([.ref (ad 6), .int x1]) ++ List.replicate (4 - (lg_sl ([.ref (ad 6), .int x1])).length) Slot.unset).toArray = ls at hl ⊢
  exact w_S_copiesThereOf_0 ⟨B.exec, B.bytes, B.returns, hml, findClass_of_methodNamed B.named, fun w h => hts0 w (List.mem_cons_of_mem _ h), B.notSynchronized, hK, fun q h => Or.inr h⟩ x1 u s.heap [] ls hP hD0 va_S.rf hl hM
end
section
section
variable {p : Program} {l : Launch} {e : Env} {s : State} {m : MethodId} {args : Array Value} {below : List Frame} {meth : Method} {c : Code} {D : va_G} {cI cJ cZ : ClassId} {A : Nat → Prop} {ad : Nat → Nat}
set_option maxHeartbeats 4000000 in
set_option maxRecDepth 100000 in
theorem w_S_headingAt_33 {k5 : Int32 → Int32 → Int32 → Int32 → Lib → Option Int32} {res : Int32} (C : Cx p s m args meth c prog_3_method_10_code 5 (Option.some FieldType.int) "PlainLibrary$Shelves" tb D cl9 (tyy cI cJ cZ) A) (hk5 : ∀ (x1 : Int32) (x2 : Int32) (x3 : Int32) (x4 : Int32) (u : Lib) (H : Heap) (locs : List Loc) (ls : Array Slot), va_P D cl9 ((cL cI cJ cZ ad) u) H → va_D (fun _ => True) ((cL cI cJ cZ ad) u) → va_S A s.heap H locs → lv_has ls 5 [(0, .ref (ad 6)), (1, .int x1), (2, .int x2), (3, .int x3), (4, .int x4)] → k5 x1 x2 x3 x4 u = some res → W p l e rm_S_headingAt s m args below meth c H locs 0 0 (MQ below (Qri A res) args s 0 0 A) (F0 m 5 ls [])) (x1 : Int32) (x2 : Int32) (x3 : Int32) (x4 : Int32) (u : Lib) (H : Heap) (locs : List Loc) (ls : Array Slot) (hP : va_P D cl9 ((cL cI cJ cZ ad) u) H) (hD : va_D (fun _ => True) ((cL cI cJ cZ ad) u)) (hS : va_S A s.heap H locs) (hl : lv_has ls 5 [(0, .ref (ad 6)), (1, .int x1), (2, .int x2), (3, .int x3), (4, .int x4)]) (hM : B_S_headingAt_33 k5 x1 x2 x3 x4 u = some res) : W p l e rm_S_headingAt s m args below meth c H locs 0 0 (MQ below (Qri A res) args s 0 0 A) (F0 m 33 ls []) := by
  have C0 := C
  obtain ⟨hx, hb, hr, hml, hown, hts, hlocks, hK, hA⟩ := C
  replace C := C0
  unfold B_S_headingAt_33 at hM
  refine lv_iinc (v := (x4 + (1 : Int32))) (lv' := [(4, .int (x4 + (1 : Int32))), (0, .ref (ad 6)), (1, .int x1), (2, .int x2), (3, .int x3)]) hx hb d_S_headingAt_33 hl (k := 4) rfl rfl (by decide) rfl (fun ls hl => ?_)
  refine lv_goto (tgt := 5) hx hb d_S_headingAt_36 (by decide) ?_
  exact hk5 x1 x2 x3 (x4 + (1 : Int32)) u H locs ls hP hD hS (lv_sub hl [1, 2, 3, 4, 0] rfl) hM
set_option maxHeartbeats 4000000 in
set_option maxRecDepth 100000 in
theorem w_S_headingAt_5s {res : Int32} (C : Cx p s m args meth c prog_3_method_10_code 5 (Option.some FieldType.int) "PlainLibrary$Shelves" tb D cl9 (tyy cI cJ cZ) A) {k5 : Int32 → Int32 → Int32 → Int32 → Lib → Option Int32} (hk5 : ∀ (x1 : Int32) (x2 : Int32) (x3 : Int32) (x4 : Int32) (u : Lib) (H : Heap) (locs : List Loc) (ls : Array Slot), va_P D cl9 ((cL cI cJ cZ ad) u) H → va_D (fun _ => True) ((cL cI cJ cZ ad) u) → va_S A s.heap H locs → lv_has ls 5 [(0, .ref (ad 6)), (1, .int x1), (2, .int x2), (3, .int x3), (4, .int x4)] → k5 x1 x2 x3 x4 u = some res → W p l e rm_S_headingAt s m args below meth c H locs 0 0 (MQ below (Qri A res) args s 0 0 A) (F0 m 5 ls [])) (x1 : Int32) (x2 : Int32) (x3 : Int32) (x4 : Int32) (u : Lib) (H : Heap) (locs : List Loc) (ls : Array Slot) (hP : va_P D cl9 ((cL cI cJ cZ ad) u) H) (hD : va_D (fun _ => True) ((cL cI cJ cZ ad) u)) (hS : va_S A s.heap H locs) (hl : lv_has ls 5 [(0, .ref (ad 6)), (1, .int x1), (2, .int x2), (3, .int x3), (4, .int x4)]) (hM : B_S_headingAt_5s k5 x1 x2 x3 x4 u = some res) : W p l e rm_S_headingAt s m args below meth c H locs 0 0 (MQ below (Qri A res) args s 0 0 A) (F0 m 5 ls []) := by
  have C0 := C
  obtain ⟨hx, hb, hr, hml, hown, hts, hlocks, hK, hA⟩ := C
  replace C := C0
  unfold B_S_headingAt_5s at hM
  refine lv_iload hx hb d_S_headingAt_5 (lv_at hl 4 rfl) ?_
  refine lv_bipush (v := (99 : Int32)) hx hb d_S_headingAt_7 (by decide) ?_
  refine lv_icmp_gt (tgt := 39) hx hb d_S_headingAt_9 (by decide) (fun c1 => ?_) (fun c1 => ?_)
  · replace hM := it_t c1 hM
    refine lv_iconst (v := (-1 : Int32)) hx hb d_S_headingAt_39 (by decide) ?_
    obtain rfl := Option.some.inj hM
    exact W.iret (v := (-1 : Int32)) hx hb hr (fun t ht hW => ⟨⟨(-1 : Int32), (), rfl, rfl, trivial⟩, hS.F ht⟩) hS.2.2 d_S_headingAt_40
  · replace hM := it_f c1 hM
    refine lv_aload_n hx hb d_S_headingAt_12 rfl (lv_at hl 0 rfl) ?_
    refine lv_iload_n hx hb d_S_headingAt_13 rfl (lv_at hl 1 rfl) ?_
    refine lv_iload hx hb d_S_headingAt_14 (lv_at hl 4 rfl) ?_
    obtain ⟨v2, hq2, hM⟩ := bd_some hM
    refine fr_i (res := v2) (va_runV (As := [.int x1, .int x4]) (rest := []) ⟨hx, hb, hml, hown, hts⟩ (c_S_hasHeading l D cI cJ cZ ad H.size x1 x4 u v2 hq2) (cwV 2 hts (gV mm_173 mm_174 mm_175 mm_29 mm_176) rfl rfl rfl hd_S_hasHeading ⟨Nat.le_of_ble_eq_true rfl, Nat.le_of_ble_eq_true rfl⟩) (pv_ (F := (cL cI cJ cZ ad)) (u := u) hK hP hD (va_recv hK hP (ci := 1) (q0 := 6) rfl rfl)) rfl rfl hl.1 rfl (lv_room (Nat.le_of_ble_eq_true rfl)) d_S_headingAt_16 ⟨Nat.le_of_ble_eq_true rfl, Nat.le_of_ble_eq_true rfl⟩) hP hS hA (fun H locs hP hS => ?_)
    refine lv_if_eq (tgt := 33) hx hb d_S_headingAt_19 (by decide) (fun c3 => ?_) (fun c3 => ?_)
    · replace hM := it_t c3 hM
      exact w_S_headingAt_33 C hk5 x1 x2 x3 x4 u H locs ls hP hD hS (lv_sub hl [0, 1, 2, 3, 4] rfl) hM
    · replace hM := it_f c3 hM
      refine lv_iload_n hx hb d_S_headingAt_22 rfl (lv_at hl 3 rfl) ?_
      refine lv_iload_n hx hb d_S_headingAt_23 rfl (lv_at hl 2 rfl) ?_
      refine lv_icmp_ne (tgt := 30) hx hb d_S_headingAt_24 (by decide) (fun c4 => ?_) (fun c4 => ?_)
      · replace hM := it_f c4 hM
        refine lv_iinc (v := (x3 + (1 : Int32))) (lv' := [(3, .int (x3 + (1 : Int32))), (0, .ref (ad 6)), (1, .int x1), (2, .int x2), (4, .int x4)]) hx hb d_S_headingAt_30 hl (k := 3) rfl rfl (by decide) rfl (fun ls hl => ?_)
        exact w_S_headingAt_33 C hk5 x1 x2 (x3 + (1 : Int32)) x4 u H locs ls hP hD hS (lv_sub hl [1, 2, 3, 0, 4] rfl) hM
      · replace hM := it_t c4 hM
        refine lv_iload hx hb d_S_headingAt_27 (lv_at hl 4 rfl) ?_
        obtain rfl := Option.some.inj hM
        exact W.iret (v := x4) hx hb hr (fun t ht hW => ⟨⟨x4, (), rfl, rfl, trivial⟩, hS.F ht⟩) hS.2.2 d_S_headingAt_29
theorem w_S_headingAt_5 {res : Int32} (C : Cx p s m args meth c prog_3_method_10_code 5 (Option.some FieldType.int) "PlainLibrary$Shelves" tb D cl9 (tyy cI cJ cZ) A) : ∀ (fu : Nat) (x1 : Int32) (x2 : Int32) (x3 : Int32) (x4 : Int32) (u : Lib) (H : Heap) (locs : List Loc) (ls : Array Slot), va_P D cl9 ((cL cI cJ cZ ad) u) H → va_D (fun _ => True) ((cL cI cJ cZ ad) u) → va_S A s.heap H locs → lv_has ls 5 [(0, .ref (ad 6)), (1, .int x1), (2, .int x2), (3, .int x3), (4, .int x4)] → B_S_headingAt_5 fu x1 x2 x3 x4 u = some res → W p l e rm_S_headingAt s m args below meth c H locs 0 0 (MQ below (Qri A res) args s 0 0 A) (F0 m 5 ls []) := by
  intro fu
  induction fu with
  | zero =>
    intro x1 x2 x3 x4 u H locs ls hP hD hS hl hM
    have hM : (none : Option Int32) = some res := hM
    cases hM
  | succ fu ih =>
    intro x1 x2 x3 x4 u H locs ls hP hD hS hl hM
    exact w_S_headingAt_5s C ih x1 x2 x3 x4 u H locs ls hP hD hS hl hM
set_option maxHeartbeats 4000000 in
set_option maxRecDepth 100000 in
theorem w_S_headingAt_0 {res : Int32} (C : Cx p s m args meth c prog_3_method_10_code 5 (Option.some FieldType.int) "PlainLibrary$Shelves" tb D cl9 (tyy cI cJ cZ) A) (x1 : Int32) (x2 : Int32) (u : Lib) (H : Heap) (locs : List Loc) (ls : Array Slot) (hP : va_P D cl9 ((cL cI cJ cZ ad) u) H) (hD : va_D (fun _ => True) ((cL cI cJ cZ ad) u)) (hS : va_S A s.heap H locs) (hl : lv_has ls 5 [(0, .ref (ad 6)), (1, .int x1), (2, .int x2)]) (hM : B_S_headingAt_0 x1 x2 u = some res) : W p l e rm_S_headingAt s m args below meth c H locs 0 0 (MQ below (Qri A res) args s 0 0 A) (F0 m 0 ls []) := by
  have C0 := C
  obtain ⟨hx, hb, hr, hml, hown, hts, hlocks, hK, hA⟩ := C
  replace C := C0
  unfold B_S_headingAt_0 at hM
  refine lv_iconst (v := (0 : Int32)) hx hb d_S_headingAt_0 (by decide) ?_
  refine lv_istore_n (lv' := [(3, .int (0 : Int32)), (0, .ref (ad 6)), (1, .int x1), (2, .int x2)]) hx hb d_S_headingAt_1 rfl hl (by decide) rfl (fun ls hl => ?_)
  refine lv_iconst (v := (1 : Int32)) hx hb d_S_headingAt_2 (by decide) ?_
  refine lv_istore (lv' := [(4, .int (1 : Int32)), (3, .int (0 : Int32)), (0, .ref (ad 6)), (1, .int x1), (2, .int x2)]) hx hb d_S_headingAt_3 hl (by decide) rfl (fun ls hl => ?_)
  exact w_S_headingAt_5 C FU x1 x2 (0 : Int32) (1 : Int32) u H locs ls hP hD hS (lv_sub hl [2, 3, 4, 1, 0] rfl) hM
end
set_option maxRecDepth 100000 in
theorem c_S_headingAt (l : Launch) (D : va_G) (cI cJ cZ : ClassId) (ad : Nat → Nat) (sz : Nat) (x1 : Int32) (x2 : Int32) (u : Lib) (res : Int32) (hM : B_S_headingAt_0 x1 x2 u = some res) : Met l y_S_headingAt ws_S_headingAt rm_S_headingAt (va_Pc [.ref (ad 6), .int x1, .int x2] (pr_ D cl9 (tyy cI cJ cZ) (cL cI cJ cZ ad) u sz)) (Qri (va_A [] sz) res) 0 0 (va_A [] sz) := by
  refine Met.ofW (cc := prog_3_method_10_code) (maxL := 5) (ret := (Option.some FieldType.int)) (by decide) rfl ?_
  intro p e s m args below meth c s₁ B hml hv
  obtain ⟨rfl, hsz, hP, hK, hD0⟩ := hv
  subst hsz
  have hts0 := atoms_spec (ws := ws_S_headingAt) B.pre
  have hl := lv_entry ([.ref (ad 6), .int x1, .int x2]) (n := 5) (Nat.le_of_ble_eq_true rfl)
  rw [lg_entry_eq]
  generalize (lg_sl ([.ref (ad 6), .int x1, .int x2]) ++ List.replicate (5 - (lg_sl ([.ref (ad 6), .int x1, .int x2])).length) Slot.unset).toArray = ls at hl ⊢
  exact w_S_headingAt_0 ⟨B.exec, B.bytes, B.returns, hml, findClass_of_methodNamed B.named, fun w h => hts0 w (List.mem_cons_of_mem _ h), B.notSynchronized, hK, fun q h => Or.inr h⟩ x1 x2 u s.heap [] ls hP hD0 va_S.rf hl hM
end
section
section
variable {p : Program} {l : Launch} {e : Env} {s : State} {m : MethodId} {args : Array Value} {below : List Frame} {meth : Method} {c : Code} {D : va_G} {cI cJ cZ : ClassId} {A : Nat → Prop} {ad : Nat → Nat}
set_option maxHeartbeats 4000000 in
set_option maxRecDepth 100000 in
theorem w_S_dueDayOf_0 {res : Int64} (C : Cx p s m args meth c prog_3_method_11_code 2 (Option.some FieldType.long) "PlainLibrary$Shelves" tb D cl9 (tyy cI cJ cZ) A) (x1 : Int32) (u : Lib) (H : Heap) (locs : List Loc) (ls : Array Slot) (hP : va_P D cl9 ((cL cI cJ cZ ad) u) H) (hD : va_D (fun _ => True) ((cL cI cJ cZ ad) u)) (hS : va_S A s.heap H locs) (hl : lv_has ls 2 [(0, .ref (ad 6)), (1, .int x1)]) (hM : B_S_dueDayOf_0 x1 u = some res) : W p l e rm_S_dueDayOf s m args below meth c H locs 0 0 (MQ below (Qrl A res) args s 0 0 A) (F0 m 0 ls []) := by
  have C0 := C
  obtain ⟨hx, hb, hr, hml, hown, hts, hlocks, hK, hA⟩ := C
  replace C := C0
  unfold B_S_dueDayOf_0 at hM
  refine lv_aload_n hx hb d_S_dueDayOf_0 rfl (lv_at hl 0 rfl) ?_
  refine va_get (D := D) (ci := 1) (v := .ref (ad 9)) (C := R_S) (T := T_S) (N := 9) hx hb hts in_S hown hK hP 6 rfl rfl 2 (by decide) (hts _ mm_74) (fun _ h9 => h9) rfl d_S_dueDayOf_1 ?_
  refine lv_iload_n hx hb d_S_dueDayOf_4 rfl (lv_at hl 1 rfl) ?_
  obtain ⟨h1, hM⟩ := gd_some hM
  refine va_iald hx hb hK hP 9 0 rfl rfl (vp_in_iff.mpr h1) d_S_dueDayOf_5 ?_
  refine lv_if_ne (tgt := 15) hx hb d_S_dueDayOf_6 (by decide) (fun c2 => ?_) (fun c2 => ?_)
  · replace hM := it_f c2 hM
    refine lv_aload_n hx hb d_S_dueDayOf_15 rfl (lv_at hl 0 rfl) ?_
    refine va_get (D := D) (ci := 1) (v := .ref (ad 10)) (C := R_S) (T := T_S) (N := 9) hx hb hts in_S hown hK hP 6 rfl rfl 3 (by decide) (hts _ mm_75) (fun _ h9 => h9) rfl d_S_dueDayOf_16 ?_
    refine lv_iload_n hx hb d_S_dueDayOf_19 rfl (lv_at hl 1 rfl) ?_
    obtain ⟨h3, hM⟩ := gd_some hM
    refine va_lald hx hb hK hP 10 1 rfl rfl (vp_in_iff.mpr h3) d_S_dueDayOf_20 ?_
    obtain rfl := Option.some.inj hM
    exact W.lret (v := ((l_due u) x1.toNatClampNeg)) hx hb hr (fun t ht hW => ⟨⟨((l_due u) x1.toNatClampNeg), (), rfl, rfl, trivial⟩, hS.F ht⟩) hS.2.2 d_S_dueDayOf_21
  · replace hM := it_t c2 hM
    refine lv_ldc2 (v := (-1 : Int64)) hx hb hown (hts _ mm_187) d_S_dueDayOf_9 ?_
    refine lv_goto (tgt := 21) hx hb d_S_dueDayOf_12 (by decide) ?_
    obtain rfl := Option.some.inj hM
    exact W.lret (v := (-1 : Int64)) hx hb hr (fun t ht hW => ⟨⟨(-1 : Int64), (), rfl, rfl, trivial⟩, hS.F ht⟩) hS.2.2 d_S_dueDayOf_21
end
set_option maxRecDepth 100000 in
theorem c_S_dueDayOf (l : Launch) (D : va_G) (cI cJ cZ : ClassId) (ad : Nat → Nat) (sz : Nat) (x1 : Int32) (u : Lib) (res : Int64) (hM : B_S_dueDayOf_0 x1 u = some res) : Met l y_S_dueDayOf ws_S_dueDayOf rm_S_dueDayOf (va_Pc [.ref (ad 6), .int x1] (pr_ D cl9 (tyy cI cJ cZ) (cL cI cJ cZ ad) u sz)) (Qrl (va_A [] sz) res) 0 0 (va_A [] sz) := by
  refine Met.ofW (cc := prog_3_method_11_code) (maxL := 2) (ret := (Option.some FieldType.long)) (by decide) rfl ?_
  intro p e s m args below meth c s₁ B hml hv
  obtain ⟨rfl, hsz, hP, hK, hD0⟩ := hv
  subst hsz
  have hts0 := atoms_spec (ws := ws_S_dueDayOf) B.pre
  have hl := lv_entry ([.ref (ad 6), .int x1]) (n := 2) (Nat.le_of_ble_eq_true rfl)
  rw [lg_entry_eq]
  generalize (lg_sl ([.ref (ad 6), .int x1]) ++ List.replicate (2 - (lg_sl ([.ref (ad 6), .int x1])).length) Slot.unset).toArray = ls at hl ⊢
  exact w_S_dueDayOf_0 ⟨B.exec, B.bytes, B.returns, hml, findClass_of_methodNamed B.named, fun w h => hts0 w (List.mem_cons_of_mem _ h), B.notSynchronized, hK, fun q h => Or.inr h⟩ x1 u s.heap [] ls hP hD0 va_S.rf hl hM
end
section
section
variable {p : Program} {l : Launch} {e : Env} {s : State} {m : MethodId} {args : Array Value} {below : List Frame} {meth : Method} {c : Code} {D : va_G} {cI cJ cZ : ClassId} {A : Nat → Prop} {ad : Nat → Nat}
set_option maxHeartbeats 4000000 in
set_option maxRecDepth 100000 in
theorem w_S_storesWith_29 {k5 : Int32 → Int32 → Int32 → Int32 → Lib → Option Int32} {res : Int32} (C : Cx p s m args meth c prog_3_method_14_code 5 (Option.some FieldType.int) "PlainLibrary$Shelves" tb D cl9 (tyy cI cJ cZ) A) (hk5 : ∀ (x1 : Int32) (x2 : Int32) (x3 : Int32) (x4 : Int32) (u : Lib) (H : Heap) (locs : List Loc) (ls : Array Slot), va_P D cl9 ((cL cI cJ cZ ad) u) H → va_D (fun _ => True) ((cL cI cJ cZ ad) u) → va_S A s.heap H locs → lv_has ls 5 [(0, .ref (ad 6)), (1, .int x1), (2, .int x2), (3, .int x3), (4, .int x4)] → k5 x1 x2 x3 x4 u = some res → W p l e rm_S_storesWith s m args below meth c H locs 0 0 (MQ below (Qri A res) args s 0 0 A) (F0 m 5 ls [])) (x1 : Int32) (x2 : Int32) (x3 : Int32) (x4 : Int32) (u : Lib) (H : Heap) (locs : List Loc) (ls : Array Slot) (hP : va_P D cl9 ((cL cI cJ cZ ad) u) H) (hD : va_D (fun _ => True) ((cL cI cJ cZ ad) u)) (hS : va_S A s.heap H locs) (hl : lv_has ls 5 [(0, .ref (ad 6)), (1, .int x1), (2, .int x2), (3, .int x3), (4, .int x4)]) (hM : B_S_storesWith_29 k5 x1 x2 x3 x4 u = some res) : W p l e rm_S_storesWith s m args below meth c H locs 0 0 (MQ below (Qri A res) args s 0 0 A) (F0 m 29 ls []) := by
  have C0 := C
  obtain ⟨hx, hb, hr, hml, hown, hts, hlocks, hK, hA⟩ := C
  replace C := C0
  unfold B_S_storesWith_29 at hM
  refine lv_iinc (v := (x4 + (1 : Int32))) (lv' := [(4, .int (x4 + (1 : Int32))), (0, .ref (ad 6)), (1, .int x1), (2, .int x2), (3, .int x3)]) hx hb d_S_storesWith_29 hl (k := 4) rfl rfl (by decide) rfl (fun ls hl => ?_)
  refine lv_goto (tgt := 5) hx hb d_S_storesWith_32 (by decide) ?_
  exact hk5 x1 x2 x3 (x4 + (1 : Int32)) u H locs ls hP hD hS (lv_sub hl [1, 2, 3, 4, 0] rfl) hM
set_option maxHeartbeats 4000000 in
set_option maxRecDepth 100000 in
theorem w_S_storesWith_5s {res : Int32} (C : Cx p s m args meth c prog_3_method_14_code 5 (Option.some FieldType.int) "PlainLibrary$Shelves" tb D cl9 (tyy cI cJ cZ) A) {k5 : Int32 → Int32 → Int32 → Int32 → Lib → Option Int32} (hk5 : ∀ (x1 : Int32) (x2 : Int32) (x3 : Int32) (x4 : Int32) (u : Lib) (H : Heap) (locs : List Loc) (ls : Array Slot), va_P D cl9 ((cL cI cJ cZ ad) u) H → va_D (fun _ => True) ((cL cI cJ cZ ad) u) → va_S A s.heap H locs → lv_has ls 5 [(0, .ref (ad 6)), (1, .int x1), (2, .int x2), (3, .int x3), (4, .int x4)] → k5 x1 x2 x3 x4 u = some res → W p l e rm_S_storesWith s m args below meth c H locs 0 0 (MQ below (Qri A res) args s 0 0 A) (F0 m 5 ls [])) (x1 : Int32) (x2 : Int32) (x3 : Int32) (x4 : Int32) (u : Lib) (H : Heap) (locs : List Loc) (ls : Array Slot) (hP : va_P D cl9 ((cL cI cJ cZ ad) u) H) (hD : va_D (fun _ => True) ((cL cI cJ cZ ad) u)) (hS : va_S A s.heap H locs) (hl : lv_has ls 5 [(0, .ref (ad 6)), (1, .int x1), (2, .int x2), (3, .int x3), (4, .int x4)]) (hM : B_S_storesWith_5s k5 x1 x2 x3 x4 u = some res) : W p l e rm_S_storesWith s m args below meth c H locs 0 0 (MQ below (Qri A res) args s 0 0 A) (F0 m 5 ls []) := by
  have C0 := C
  obtain ⟨hx, hb, hr, hml, hown, hts, hlocks, hK, hA⟩ := C
  replace C := C0
  unfold B_S_storesWith_5s at hM
  refine lv_iload hx hb d_S_storesWith_5 (lv_at hl 4 rfl) ?_
  refine lv_iconst (v := (5 : Int32)) hx hb d_S_storesWith_7 (by decide) ?_
  refine lv_icmp_gt (tgt := 35) hx hb d_S_storesWith_8 (by decide) (fun c1 => ?_) (fun c1 => ?_)
  · replace hM := it_t c1 hM
    refine lv_iload_n hx hb d_S_storesWith_35 rfl (lv_at hl 3 rfl) ?_
    obtain rfl := Option.some.inj hM
    exact W.iret (v := x3) hx hb hr (fun t ht hW => ⟨⟨x3, (), rfl, rfl, trivial⟩, hS.F ht⟩) hS.2.2 d_S_storesWith_36
  · replace hM := it_f c1 hM
    refine lv_aload_n hx hb d_S_storesWith_11 rfl (lv_at hl 0 rfl) ?_
    refine va_get (D := D) (ci := 1) (v := .ref (ad 15)) (C := R_S) (T := T_S) (N := 9) hx hb hts in_S hown hK hP 6 rfl rfl 8 (by decide) (hts _ mm_80) (fun _ h9 => h9) rfl d_S_storesWith_12 ?_
    refine lv_iload_n hx hb d_S_storesWith_15 rfl (lv_at hl 1 rfl) ?_
    refine lv_iload hx hb d_S_storesWith_16 (lv_at hl 4 rfl) ?_
    obtain ⟨v2, hq2, hM⟩ := bd_some hM
    refine fr_i (res := v2) (va_runS (As := [.int x1, .int x4]) (rest := [.ref (ad 15)]) ⟨hx, hb, hml, hown, hts⟩ (c_S_sumIndex l D cI cJ cZ H.size x1 x4 v2 hq2) (va_cwS 2 hts (gS mm_217 mm_218 mm_29 mm_219) rfl rfl rfl hs_S_sumIndex ⟨Nat.le_of_ble_eq_true rfl, Nat.le_of_ble_eq_true rfl⟩) (ps_ (F := nW) (u := ()) hK nP (nD (A := fun _ => True))) rfl rfl hl.1 rfl (lv_room (Nat.le_of_ble_eq_true rfl)) d_S_storesWith_18 ⟨Nat.le_of_ble_eq_true rfl, Nat.le_of_ble_eq_true rfl⟩) hP hS hA (fun H locs hP hS => ?_)
    obtain ⟨h3, hM⟩ := gd_some hM
    refine va_iald hx hb hK hP 15 0 rfl rfl (vp_in_iff.mpr h3) d_S_storesWith_21 ?_
    refine lv_iload_n hx hb d_S_storesWith_22 rfl (lv_at hl 2 rfl) ?_
    refine lv_icmp_ne (tgt := 29) hx hb d_S_storesWith_23 (by decide) (fun c4 => ?_) (fun c4 => ?_)
    · replace hM := it_f c4 hM
      exact w_S_storesWith_29 C hk5 x1 x2 x3 x4 u H locs ls hP hD hS (lv_sub hl [0, 1, 2, 3, 4] rfl) hM
    · replace hM := it_t c4 hM
      refine lv_iinc (v := (x3 + (1 : Int32))) (lv' := [(3, .int (x3 + (1 : Int32))), (0, .ref (ad 6)), (1, .int x1), (2, .int x2), (4, .int x4)]) hx hb d_S_storesWith_26 hl (k := 3) rfl rfl (by decide) rfl (fun ls hl => ?_)
      exact w_S_storesWith_29 C hk5 x1 x2 (x3 + (1 : Int32)) x4 u H locs ls hP hD hS (lv_sub hl [1, 2, 3, 0, 4] rfl) hM
theorem w_S_storesWith_5 {res : Int32} (C : Cx p s m args meth c prog_3_method_14_code 5 (Option.some FieldType.int) "PlainLibrary$Shelves" tb D cl9 (tyy cI cJ cZ) A) : ∀ (fu : Nat) (x1 : Int32) (x2 : Int32) (x3 : Int32) (x4 : Int32) (u : Lib) (H : Heap) (locs : List Loc) (ls : Array Slot), va_P D cl9 ((cL cI cJ cZ ad) u) H → va_D (fun _ => True) ((cL cI cJ cZ ad) u) → va_S A s.heap H locs → lv_has ls 5 [(0, .ref (ad 6)), (1, .int x1), (2, .int x2), (3, .int x3), (4, .int x4)] → B_S_storesWith_5 fu x1 x2 x3 x4 u = some res → W p l e rm_S_storesWith s m args below meth c H locs 0 0 (MQ below (Qri A res) args s 0 0 A) (F0 m 5 ls []) := by
  intro fu
  induction fu with
  | zero =>
    intro x1 x2 x3 x4 u H locs ls hP hD hS hl hM
    have hM : (none : Option Int32) = some res := hM
    cases hM
  | succ fu ih =>
    intro x1 x2 x3 x4 u H locs ls hP hD hS hl hM
    exact w_S_storesWith_5s C ih x1 x2 x3 x4 u H locs ls hP hD hS hl hM
set_option maxHeartbeats 4000000 in
set_option maxRecDepth 100000 in
theorem w_S_storesWith_0 {res : Int32} (C : Cx p s m args meth c prog_3_method_14_code 5 (Option.some FieldType.int) "PlainLibrary$Shelves" tb D cl9 (tyy cI cJ cZ) A) (x1 : Int32) (x2 : Int32) (u : Lib) (H : Heap) (locs : List Loc) (ls : Array Slot) (hP : va_P D cl9 ((cL cI cJ cZ ad) u) H) (hD : va_D (fun _ => True) ((cL cI cJ cZ ad) u)) (hS : va_S A s.heap H locs) (hl : lv_has ls 5 [(0, .ref (ad 6)), (1, .int x1), (2, .int x2)]) (hM : B_S_storesWith_0 x1 x2 u = some res) : W p l e rm_S_storesWith s m args below meth c H locs 0 0 (MQ below (Qri A res) args s 0 0 A) (F0 m 0 ls []) := by
  have C0 := C
  obtain ⟨hx, hb, hr, hml, hown, hts, hlocks, hK, hA⟩ := C
  replace C := C0
  unfold B_S_storesWith_0 at hM
  refine lv_iconst (v := (0 : Int32)) hx hb d_S_storesWith_0 (by decide) ?_
  refine lv_istore_n (lv' := [(3, .int (0 : Int32)), (0, .ref (ad 6)), (1, .int x1), (2, .int x2)]) hx hb d_S_storesWith_1 rfl hl (by decide) rfl (fun ls hl => ?_)
  refine lv_iconst (v := (1 : Int32)) hx hb d_S_storesWith_2 (by decide) ?_
  refine lv_istore (lv' := [(4, .int (1 : Int32)), (3, .int (0 : Int32)), (0, .ref (ad 6)), (1, .int x1), (2, .int x2)]) hx hb d_S_storesWith_3 hl (by decide) rfl (fun ls hl => ?_)
  exact w_S_storesWith_5 C FU x1 x2 (0 : Int32) (1 : Int32) u H locs ls hP hD hS (lv_sub hl [2, 3, 4, 1, 0] rfl) hM
end
set_option maxRecDepth 100000 in
theorem c_S_storesWith (l : Launch) (D : va_G) (cI cJ cZ : ClassId) (ad : Nat → Nat) (sz : Nat) (x1 : Int32) (x2 : Int32) (u : Lib) (res : Int32) (hM : B_S_storesWith_0 x1 x2 u = some res) : Met l y_S_storesWith ws_S_storesWith rm_S_storesWith (va_Pc [.ref (ad 6), .int x1, .int x2] (pr_ D cl9 (tyy cI cJ cZ) (cL cI cJ cZ ad) u sz)) (Qri (va_A [] sz) res) 0 0 (va_A [] sz) := by
  refine Met.ofW (cc := prog_3_method_14_code) (maxL := 5) (ret := (Option.some FieldType.int)) (by decide) rfl ?_
  intro p e s m args below meth c s₁ B hml hv
  obtain ⟨rfl, hsz, hP, hK, hD0⟩ := hv
  subst hsz
  have hts0 := atoms_spec (ws := ws_S_storesWith) B.pre
  have hl := lv_entry ([.ref (ad 6), .int x1, .int x2]) (n := 5) (Nat.le_of_ble_eq_true rfl)
  rw [lg_entry_eq]
  generalize (lg_sl ([.ref (ad 6), .int x1, .int x2]) ++ List.replicate (5 - (lg_sl ([.ref (ad 6), .int x1, .int x2])).length) Slot.unset).toArray = ls at hl ⊢
  exact w_S_storesWith_0 ⟨B.exec, B.bytes, B.returns, hml, findClass_of_methodNamed B.named, fun w h => hts0 w (List.mem_cons_of_mem _ h), B.notSynchronized, hK, fun q h => Or.inr h⟩ x1 x2 u s.heap [] ls hP hD0 va_S.rf hl hM
end
section
section
variable {p : Program} {l : Launch} {e : Env} {s : State} {m : MethodId} {args : Array Value} {below : List Frame} {meth : Method} {c : Code} {D : va_G} {cI cJ cZ : ClassId} {A : Nat → Prop} {ad : Nat → Nat}
set_option maxHeartbeats 4000000 in
set_option maxRecDepth 100000 in
theorem w_S_commonSumOf_33s {res : Int32} (C : Cx p s m args meth c prog_3_method_13_code 4 (Option.some FieldType.int) "PlainLibrary$Shelves" tb D cl9 (tyy cI cJ cZ) A) {k33 : Int32 → Int32 → Int32 → Lib → Option Int32} (hk33 : ∀ (x1 : Int32) (x2 : Int32) (x3 : Int32) (u : Lib) (H : Heap) (locs : List Loc) (ls : Array Slot), va_P D cl9 ((cL cI cJ cZ ad) u) H → va_D (fun _ => True) ((cL cI cJ cZ ad) u) → va_S A s.heap H locs → lv_has ls 4 [(0, .ref (ad 6)), (1, .int x1), (2, .int x2), (3, .int x3)] → k33 x1 x2 x3 u = some res → W p l e rm_S_commonSumOf s m args below meth c H locs 0 0 (MQ below (Qri A res) args s 0 0 A) (F0 m 33 ls [])) (x1 : Int32) (x2 : Int32) (x3 : Int32) (u : Lib) (H : Heap) (locs : List Loc) (ls : Array Slot) (hP : va_P D cl9 ((cL cI cJ cZ ad) u) H) (hD : va_D (fun _ => True) ((cL cI cJ cZ ad) u)) (hS : va_S A s.heap H locs) (hl : lv_has ls 4 [(0, .ref (ad 6)), (1, .int x1), (2, .int x2), (3, .int x3)]) (hM : B_S_commonSumOf_33s k33 x1 x2 x3 u = some res) : W p l e rm_S_commonSumOf s m args below meth c H locs 0 0 (MQ below (Qri A res) args s 0 0 A) (F0 m 33 ls []) := by
  have C0 := C
  obtain ⟨hx, hb, hr, hml, hown, hts, hlocks, hK, hA⟩ := C
  replace C := C0
  unfold B_S_commonSumOf_33s at hM
  refine lv_iload_n hx hb d_S_commonSumOf_33 rfl (lv_at hl 3 rfl) ?_
  refine lv_bipush (v := (7 : Int32)) hx hb d_S_commonSumOf_34 (by decide) ?_
  refine lv_icmp_ge (tgt := 59) hx hb d_S_commonSumOf_36 (by decide) (fun c1 => ?_) (fun c1 => ?_)
  · replace hM := it_t c1 hM
    refine lv_bipush (v := (7 : Int32)) hx hb d_S_commonSumOf_59 (by decide) ?_
    obtain rfl := Option.some.inj hM
    exact W.iret (v := (7 : Int32)) hx hb hr (fun t ht hW => ⟨⟨(7 : Int32), (), rfl, rfl, trivial⟩, hS.F ht⟩) hS.2.2 d_S_commonSumOf_61
  · replace hM := it_f c1 hM
    refine lv_iconst (v := (2 : Int32)) hx hb d_S_commonSumOf_39 (by decide) ?_
    refine lv_aload_n hx hb d_S_commonSumOf_40 rfl (lv_at hl 0 rfl) ?_
    refine lv_iload_n hx hb d_S_commonSumOf_41 rfl (lv_at hl 1 rfl) ?_
    refine lv_iload_n hx hb d_S_commonSumOf_42 rfl (lv_at hl 3 rfl) ?_
    obtain ⟨v2, hq2, hM⟩ := bd_some hM
    refine fr_i (res := v2) (va_runV (As := [.int x1, .int x3]) (rest := [.int (2 : Int32)]) ⟨hx, hb, hml, hown, hts⟩ (c_S_storesWith l D cI cJ cZ ad H.size x1 x3 u v2 hq2) (cwV 2 hts (gV mm_304 mm_306 (ms_ 12 rfl rfl) mm_29 mm_307) rfl rfl rfl hd_S_storesWith ⟨Nat.le_of_ble_eq_true rfl, Nat.le_of_ble_eq_true rfl⟩) (pv_ (F := (cL cI cJ cZ ad)) (u := u) hK hP hD (va_recv hK hP (ci := 1) (q0 := 6) rfl rfl)) rfl rfl hl.1 rfl (lv_room (Nat.le_of_ble_eq_true rfl)) d_S_commonSumOf_43 ⟨Nat.le_of_ble_eq_true rfl, Nat.le_of_ble_eq_true rfl⟩) hP hS hA (fun H locs hP hS => ?_)
    refine lv_imul hx hb d_S_commonSumOf_46 ?_
    refine lv_iload_n hx hb d_S_commonSumOf_47 rfl (lv_at hl 2 rfl) ?_
    refine lv_icmp_le (tgt := 53) hx hb d_S_commonSumOf_48 (by decide) (fun c3 => ?_) (fun c3 => ?_)
    · replace hM := it_t c3 hM
      refine lv_iinc (v := (x3 + (1 : Int32))) (lv' := [(3, .int (x3 + (1 : Int32))), (0, .ref (ad 6)), (1, .int x1), (2, .int x2)]) hx hb d_S_commonSumOf_53 hl (k := 3) rfl rfl (by decide) rfl (fun ls hl => ?_)
      refine lv_goto (tgt := 33) hx hb d_S_commonSumOf_56 (by decide) ?_
      exact hk33 x1 x2 (x3 + (1 : Int32)) u H locs ls hP hD hS (lv_sub hl [1, 2, 3, 0] rfl) hM
    · replace hM := it_f c3 hM
      refine lv_iload_n hx hb d_S_commonSumOf_51 rfl (lv_at hl 3 rfl) ?_
      obtain rfl := Option.some.inj hM
      exact W.iret (v := x3) hx hb hr (fun t ht hW => ⟨⟨x3, (), rfl, rfl, trivial⟩, hS.F ht⟩) hS.2.2 d_S_commonSumOf_52
theorem w_S_commonSumOf_33 {res : Int32} (C : Cx p s m args meth c prog_3_method_13_code 4 (Option.some FieldType.int) "PlainLibrary$Shelves" tb D cl9 (tyy cI cJ cZ) A) : ∀ (fu : Nat) (x1 : Int32) (x2 : Int32) (x3 : Int32) (u : Lib) (H : Heap) (locs : List Loc) (ls : Array Slot), va_P D cl9 ((cL cI cJ cZ ad) u) H → va_D (fun _ => True) ((cL cI cJ cZ ad) u) → va_S A s.heap H locs → lv_has ls 4 [(0, .ref (ad 6)), (1, .int x1), (2, .int x2), (3, .int x3)] → B_S_commonSumOf_33 fu x1 x2 x3 u = some res → W p l e rm_S_commonSumOf s m args below meth c H locs 0 0 (MQ below (Qri A res) args s 0 0 A) (F0 m 33 ls []) := by
  intro fu
  induction fu with
  | zero =>
    intro x1 x2 x3 u H locs ls hP hD hS hl hM
    have hM : (none : Option Int32) = some res := hM
    cases hM
  | succ fu ih =>
    intro x1 x2 x3 u H locs ls hP hD hS hl hM
    exact w_S_commonSumOf_33s C ih x1 x2 x3 u H locs ls hP hD hS hl hM
set_option maxHeartbeats 4000000 in
set_option maxRecDepth 100000 in
theorem w_S_commonSumOf_4s {res : Int32} (C : Cx p s m args meth c prog_3_method_13_code 4 (Option.some FieldType.int) "PlainLibrary$Shelves" tb D cl9 (tyy cI cJ cZ) A) {k4 : Int32 → Int32 → Int32 → Lib → Option Int32} (hk4 : ∀ (x1 : Int32) (x2 : Int32) (x3 : Int32) (u : Lib) (H : Heap) (locs : List Loc) (ls : Array Slot), va_P D cl9 ((cL cI cJ cZ ad) u) H → va_D (fun _ => True) ((cL cI cJ cZ ad) u) → va_S A s.heap H locs → lv_has ls 4 [(0, .ref (ad 6)), (1, .int x1), (2, .int x2), (3, .int x3)] → k4 x1 x2 x3 u = some res → W p l e rm_S_commonSumOf s m args below meth c H locs 0 0 (MQ below (Qri A res) args s 0 0 A) (F0 m 4 ls [])) (x1 : Int32) (x2 : Int32) (x3 : Int32) (u : Lib) (H : Heap) (locs : List Loc) (ls : Array Slot) (hP : va_P D cl9 ((cL cI cJ cZ ad) u) H) (hD : va_D (fun _ => True) ((cL cI cJ cZ ad) u)) (hS : va_S A s.heap H locs) (hl : lv_has ls 4 [(0, .ref (ad 6)), (1, .int x1), (2, .int x2), (3, .int x3)]) (hM : B_S_commonSumOf_4s k4 x1 x2 x3 u = some res) : W p l e rm_S_commonSumOf s m args below meth c H locs 0 0 (MQ below (Qri A res) args s 0 0 A) (F0 m 4 ls []) := by
  have C0 := C
  obtain ⟨hx, hb, hr, hml, hown, hts, hlocks, hK, hA⟩ := C
  replace C := C0
  unfold B_S_commonSumOf_4s at hM
  refine lv_iload_n hx hb d_S_commonSumOf_4 rfl (lv_at hl 3 rfl) ?_
  refine lv_bipush (v := (7 : Int32)) hx hb d_S_commonSumOf_5 (by decide) ?_
  refine lv_icmp_ge (tgt := 25) hx hb d_S_commonSumOf_7 (by decide) (fun c1 => ?_) (fun c1 => ?_)
  · replace hM := it_t c1 hM
    refine lv_iload_n hx hb d_S_commonSumOf_25 rfl (lv_at hl 2 rfl) ?_
    refine lv_if_ne (tgt := 31) hx hb d_S_commonSumOf_26 (by decide) (fun c2 => ?_) (fun c2 => ?_)
    · replace hM := it_f c2 hM
      refine lv_iconst (v := (0 : Int32)) hx hb d_S_commonSumOf_31 (by decide) ?_
      refine lv_istore_n (lv' := [(3, .int (0 : Int32)), (0, .ref (ad 6)), (1, .int x1), (2, .int x2)]) hx hb d_S_commonSumOf_32 rfl hl (by decide) rfl (fun ls hl => ?_)
      exact w_S_commonSumOf_33 C FU x1 x2 (0 : Int32) u H locs ls hP hD hS (lv_sub hl [1, 2, 3, 0] rfl) hM
    · replace hM := it_t c2 hM
      refine lv_iconst (v := (-1 : Int32)) hx hb d_S_commonSumOf_29 (by decide) ?_
      obtain rfl := Option.some.inj hM
      exact W.iret (v := (-1 : Int32)) hx hb hr (fun t ht hW => ⟨⟨(-1 : Int32), (), rfl, rfl, trivial⟩, hS.F ht⟩) hS.2.2 d_S_commonSumOf_30
  · replace hM := it_f c1 hM
    refine lv_iload_n hx hb d_S_commonSumOf_10 rfl (lv_at hl 2 rfl) ?_
    refine lv_aload_n hx hb d_S_commonSumOf_11 rfl (lv_at hl 0 rfl) ?_
    refine lv_iload_n hx hb d_S_commonSumOf_12 rfl (lv_at hl 1 rfl) ?_
    refine lv_iload_n hx hb d_S_commonSumOf_13 rfl (lv_at hl 3 rfl) ?_
    obtain ⟨v3, hq3, hM⟩ := bd_some hM
    refine fr_i (res := v3) (va_runV (As := [.int x1, .int x3]) (rest := [.int x2]) ⟨hx, hb, hml, hown, hts⟩ (c_S_storesWith l D cI cJ cZ ad H.size x1 x3 u v3 hq3) (cwV 2 hts (gV mm_304 mm_306 (ms_ 12 rfl rfl) mm_29 mm_307) rfl rfl rfl hd_S_storesWith ⟨Nat.le_of_ble_eq_true rfl, Nat.le_of_ble_eq_true rfl⟩) (pv_ (F := (cL cI cJ cZ ad)) (u := u) hK hP hD (va_recv hK hP (ci := 1) (q0 := 6) rfl rfl)) rfl rfl hl.1 rfl (lv_room (Nat.le_of_ble_eq_true rfl)) d_S_commonSumOf_14 ⟨Nat.le_of_ble_eq_true rfl, Nat.le_of_ble_eq_true rfl⟩) hP hS hA (fun H locs hP hS => ?_)
    refine lv_iadd hx hb d_S_commonSumOf_17 ?_
    refine lv_istore_n (lv' := [(2, .int (x2 + v3)), (0, .ref (ad 6)), (1, .int x1), (3, .int x3)]) hx hb d_S_commonSumOf_18 rfl hl (by decide) rfl (fun ls hl => ?_)
    refine lv_iinc (v := (x3 + (1 : Int32))) (lv' := [(3, .int (x3 + (1 : Int32))), (2, .int (x2 + v3)), (0, .ref (ad 6)), (1, .int x1)]) hx hb d_S_commonSumOf_19 hl (k := 3) rfl rfl (by decide) rfl (fun ls hl => ?_)
    refine lv_goto (tgt := 4) hx hb d_S_commonSumOf_22 (by decide) ?_
    exact hk4 x1 (x2 + v3) (x3 + (1 : Int32)) u H locs ls hP hD hS (lv_sub hl [2, 3, 1, 0] rfl) hM
theorem w_S_commonSumOf_4 {res : Int32} (C : Cx p s m args meth c prog_3_method_13_code 4 (Option.some FieldType.int) "PlainLibrary$Shelves" tb D cl9 (tyy cI cJ cZ) A) : ∀ (fu : Nat) (x1 : Int32) (x2 : Int32) (x3 : Int32) (u : Lib) (H : Heap) (locs : List Loc) (ls : Array Slot), va_P D cl9 ((cL cI cJ cZ ad) u) H → va_D (fun _ => True) ((cL cI cJ cZ ad) u) → va_S A s.heap H locs → lv_has ls 4 [(0, .ref (ad 6)), (1, .int x1), (2, .int x2), (3, .int x3)] → B_S_commonSumOf_4 fu x1 x2 x3 u = some res → W p l e rm_S_commonSumOf s m args below meth c H locs 0 0 (MQ below (Qri A res) args s 0 0 A) (F0 m 4 ls []) := by
  intro fu
  induction fu with
  | zero =>
    intro x1 x2 x3 u H locs ls hP hD hS hl hM
    have hM : (none : Option Int32) = some res := hM
    cases hM
  | succ fu ih =>
    intro x1 x2 x3 u H locs ls hP hD hS hl hM
    exact w_S_commonSumOf_4s C ih x1 x2 x3 u H locs ls hP hD hS hl hM
set_option maxHeartbeats 4000000 in
set_option maxRecDepth 100000 in
theorem w_S_commonSumOf_0 {res : Int32} (C : Cx p s m args meth c prog_3_method_13_code 4 (Option.some FieldType.int) "PlainLibrary$Shelves" tb D cl9 (tyy cI cJ cZ) A) (x1 : Int32) (u : Lib) (H : Heap) (locs : List Loc) (ls : Array Slot) (hP : va_P D cl9 ((cL cI cJ cZ ad) u) H) (hD : va_D (fun _ => True) ((cL cI cJ cZ ad) u)) (hS : va_S A s.heap H locs) (hl : lv_has ls 4 [(0, .ref (ad 6)), (1, .int x1)]) (hM : B_S_commonSumOf_0 x1 u = some res) : W p l e rm_S_commonSumOf s m args below meth c H locs 0 0 (MQ below (Qri A res) args s 0 0 A) (F0 m 0 ls []) := by
  have C0 := C
  obtain ⟨hx, hb, hr, hml, hown, hts, hlocks, hK, hA⟩ := C
  replace C := C0
  unfold B_S_commonSumOf_0 at hM
  refine lv_iconst (v := (0 : Int32)) hx hb d_S_commonSumOf_0 (by decide) ?_
  refine lv_istore_n (lv' := [(2, .int (0 : Int32)), (0, .ref (ad 6)), (1, .int x1)]) hx hb d_S_commonSumOf_1 rfl hl (by decide) rfl (fun ls hl => ?_)
  refine lv_iconst (v := (0 : Int32)) hx hb d_S_commonSumOf_2 (by decide) ?_
  refine lv_istore_n (lv' := [(3, .int (0 : Int32)), (2, .int (0 : Int32)), (0, .ref (ad 6)), (1, .int x1)]) hx hb d_S_commonSumOf_3 rfl hl (by decide) rfl (fun ls hl => ?_)
  exact w_S_commonSumOf_4 C FU x1 (0 : Int32) (0 : Int32) u H locs ls hP hD hS (lv_sub hl [2, 3, 1, 0] rfl) hM
end
set_option maxRecDepth 100000 in
theorem c_S_commonSumOf (l : Launch) (D : va_G) (cI cJ cZ : ClassId) (ad : Nat → Nat) (sz : Nat) (x1 : Int32) (u : Lib) (res : Int32) (hM : B_S_commonSumOf_0 x1 u = some res) : Met l y_S_commonSumOf ws_S_commonSumOf rm_S_commonSumOf (va_Pc [.ref (ad 6), .int x1] (pr_ D cl9 (tyy cI cJ cZ) (cL cI cJ cZ ad) u sz)) (Qri (va_A [] sz) res) 0 0 (va_A [] sz) := by
  refine Met.ofW (cc := prog_3_method_13_code) (maxL := 4) (ret := (Option.some FieldType.int)) (by decide) rfl ?_
  intro p e s m args below meth c s₁ B hml hv
  obtain ⟨rfl, hsz, hP, hK, hD0⟩ := hv
  subst hsz
  have hts0 := atoms_spec (ws := ws_S_commonSumOf) B.pre
  have hl := lv_entry ([.ref (ad 6), .int x1]) (n := 4) (Nat.le_of_ble_eq_true rfl)
  rw [lg_entry_eq]
  generalize (lg_sl ([.ref (ad 6), .int x1]) ++ List.replicate (4 - (lg_sl ([.ref (ad 6), .int x1])).length) Slot.unset).toArray = ls at hl ⊢
  exact w_S_commonSumOf_0 ⟨B.exec, B.bytes, B.returns, hml, findClass_of_methodNamed B.named, fun w h => hts0 w (List.mem_cons_of_mem _ h), B.notSynchronized, hK, fun q h => Or.inr h⟩ x1 u s.heap [] ls hP hD0 va_S.rf hl hM
end
section
section
variable {p : Program} {l : Launch} {e : Env} {s : State} {m : MethodId} {args : Array Value} {below : List Frame} {meth : Method} {c : Code} {D : va_G} {cI cJ cZ : ClassId} {A : Nat → Prop} {ad : Nat → Nat}
set_option maxHeartbeats 4000000 in
set_option maxRecDepth 100000 in
theorem w_S_copiesWith_23 {k4 : Int32 → Int32 → Int32 → Lib → Option Int32} {res : Int32} (C : Cx p s m args meth c prog_3_method_8_code 4 (Option.some FieldType.int) "PlainLibrary$Shelves" tb D cl9 (tyy cI cJ cZ) A) (hk4 : ∀ (x1 : Int32) (x2 : Int32) (x3 : Int32) (u : Lib) (H : Heap) (locs : List Loc) (ls : Array Slot), va_P D cl9 ((cL cI cJ cZ ad) u) H → va_D (fun _ => True) ((cL cI cJ cZ ad) u) → va_S A s.heap H locs → lv_has ls 4 [(0, .ref (ad 6)), (1, .int x1), (2, .int x2), (3, .int x3)] → k4 x1 x2 x3 u = some res → W p l e rm_S_copiesWith s m args below meth c H locs 0 0 (MQ below (Qri A res) args s 0 0 A) (F0 m 4 ls [])) (x1 : Int32) (x2 : Int32) (x3 : Int32) (u : Lib) (H : Heap) (locs : List Loc) (ls : Array Slot) (hP : va_P D cl9 ((cL cI cJ cZ ad) u) H) (hD : va_D (fun _ => True) ((cL cI cJ cZ ad) u)) (hS : va_S A s.heap H locs) (hl : lv_has ls 4 [(0, .ref (ad 6)), (1, .int x1), (2, .int x2), (3, .int x3)]) (hM : B_S_copiesWith_23 k4 x1 x2 x3 u = some res) : W p l e rm_S_copiesWith s m args below meth c H locs 0 0 (MQ below (Qri A res) args s 0 0 A) (F0 m 23 ls []) := by
  have C0 := C
  obtain ⟨hx, hb, hr, hml, hown, hts, hlocks, hK, hA⟩ := C
  replace C := C0
  unfold B_S_copiesWith_23 at hM
  refine lv_iinc (v := (x3 + (1 : Int32))) (lv' := [(3, .int (x3 + (1 : Int32))), (0, .ref (ad 6)), (1, .int x1), (2, .int x2)]) hx hb d_S_copiesWith_23 hl (k := 3) rfl rfl (by decide) rfl (fun ls hl => ?_)
  refine lv_goto (tgt := 4) hx hb d_S_copiesWith_26 (by decide) ?_
  exact hk4 x1 x2 (x3 + (1 : Int32)) u H locs ls hP hD hS (lv_sub hl [1, 2, 3, 0] rfl) hM
set_option maxHeartbeats 4000000 in
set_option maxRecDepth 100000 in
theorem w_S_copiesWith_4s {res : Int32} (C : Cx p s m args meth c prog_3_method_8_code 4 (Option.some FieldType.int) "PlainLibrary$Shelves" tb D cl9 (tyy cI cJ cZ) A) {k4 : Int32 → Int32 → Int32 → Lib → Option Int32} (hk4 : ∀ (x1 : Int32) (x2 : Int32) (x3 : Int32) (u : Lib) (H : Heap) (locs : List Loc) (ls : Array Slot), va_P D cl9 ((cL cI cJ cZ ad) u) H → va_D (fun _ => True) ((cL cI cJ cZ ad) u) → va_S A s.heap H locs → lv_has ls 4 [(0, .ref (ad 6)), (1, .int x1), (2, .int x2), (3, .int x3)] → k4 x1 x2 x3 u = some res → W p l e rm_S_copiesWith s m args below meth c H locs 0 0 (MQ below (Qri A res) args s 0 0 A) (F0 m 4 ls [])) (x1 : Int32) (x2 : Int32) (x3 : Int32) (u : Lib) (H : Heap) (locs : List Loc) (ls : Array Slot) (hP : va_P D cl9 ((cL cI cJ cZ ad) u) H) (hD : va_D (fun _ => True) ((cL cI cJ cZ ad) u)) (hS : va_S A s.heap H locs) (hl : lv_has ls 4 [(0, .ref (ad 6)), (1, .int x1), (2, .int x2), (3, .int x3)]) (hM : B_S_copiesWith_4s k4 x1 x2 x3 u = some res) : W p l e rm_S_copiesWith s m args below meth c H locs 0 0 (MQ below (Qri A res) args s 0 0 A) (F0 m 4 ls []) := by
  have C0 := C
  obtain ⟨hx, hb, hr, hml, hown, hts, hlocks, hK, hA⟩ := C
  replace C := C0
  unfold B_S_copiesWith_4s at hM
  refine lv_iload_n hx hb d_S_copiesWith_4 rfl (lv_at hl 3 rfl) ?_
  refine lv_bipush (v := (20 : Int32)) hx hb d_S_copiesWith_5 (by decide) ?_
  refine lv_icmp_gt (tgt := 29) hx hb d_S_copiesWith_7 (by decide) (fun c1 => ?_) (fun c1 => ?_)
  · replace hM := it_t c1 hM
    refine lv_iload_n hx hb d_S_copiesWith_29 rfl (lv_at hl 2 rfl) ?_
    obtain rfl := Option.some.inj hM
    exact W.iret (v := x2) hx hb hr (fun t ht hW => ⟨⟨x2, (), rfl, rfl, trivial⟩, hS.F ht⟩) hS.2.2 d_S_copiesWith_30
  · replace hM := it_f c1 hM
    refine lv_aload_n hx hb d_S_copiesWith_10 rfl (lv_at hl 0 rfl) ?_
    refine va_get (D := D) (ci := 1) (v := .ref (ad 9)) (C := R_S) (T := T_S) (N := 9) hx hb hts in_S hown hK hP 6 rfl rfl 2 (by decide) (hts _ mm_74) (fun _ h9 => h9) rfl d_S_copiesWith_11 ?_
    refine lv_iload_n hx hb d_S_copiesWith_14 rfl (lv_at hl 3 rfl) ?_
    obtain ⟨h2, hM⟩ := gd_some hM
    refine va_iald hx hb hK hP 9 0 rfl rfl (vp_in_iff.mpr h2) d_S_copiesWith_15 ?_
    refine lv_iload_n hx hb d_S_copiesWith_16 rfl (lv_at hl 1 rfl) ?_
    refine lv_icmp_ne (tgt := 23) hx hb d_S_copiesWith_17 (by decide) (fun c3 => ?_) (fun c3 => ?_)
    · replace hM := it_f c3 hM
      exact w_S_copiesWith_23 C hk4 x1 x2 x3 u H locs ls hP hD hS (lv_sub hl [0, 1, 2, 3] rfl) hM
    · replace hM := it_t c3 hM
      refine lv_iinc (v := (x2 + (1 : Int32))) (lv' := [(2, .int (x2 + (1 : Int32))), (0, .ref (ad 6)), (1, .int x1), (3, .int x3)]) hx hb d_S_copiesWith_20 hl (k := 2) rfl rfl (by decide) rfl (fun ls hl => ?_)
      exact w_S_copiesWith_23 C hk4 x1 (x2 + (1 : Int32)) x3 u H locs ls hP hD hS (lv_sub hl [1, 2, 0, 3] rfl) hM
theorem w_S_copiesWith_4 {res : Int32} (C : Cx p s m args meth c prog_3_method_8_code 4 (Option.some FieldType.int) "PlainLibrary$Shelves" tb D cl9 (tyy cI cJ cZ) A) : ∀ (fu : Nat) (x1 : Int32) (x2 : Int32) (x3 : Int32) (u : Lib) (H : Heap) (locs : List Loc) (ls : Array Slot), va_P D cl9 ((cL cI cJ cZ ad) u) H → va_D (fun _ => True) ((cL cI cJ cZ ad) u) → va_S A s.heap H locs → lv_has ls 4 [(0, .ref (ad 6)), (1, .int x1), (2, .int x2), (3, .int x3)] → B_S_copiesWith_4 fu x1 x2 x3 u = some res → W p l e rm_S_copiesWith s m args below meth c H locs 0 0 (MQ below (Qri A res) args s 0 0 A) (F0 m 4 ls []) := by
  intro fu
  induction fu with
  | zero =>
    intro x1 x2 x3 u H locs ls hP hD hS hl hM
    have hM : (none : Option Int32) = some res := hM
    cases hM
  | succ fu ih =>
    intro x1 x2 x3 u H locs ls hP hD hS hl hM
    exact w_S_copiesWith_4s C ih x1 x2 x3 u H locs ls hP hD hS hl hM
set_option maxHeartbeats 4000000 in
set_option maxRecDepth 100000 in
theorem w_S_copiesWith_0 {res : Int32} (C : Cx p s m args meth c prog_3_method_8_code 4 (Option.some FieldType.int) "PlainLibrary$Shelves" tb D cl9 (tyy cI cJ cZ) A) (x1 : Int32) (u : Lib) (H : Heap) (locs : List Loc) (ls : Array Slot) (hP : va_P D cl9 ((cL cI cJ cZ ad) u) H) (hD : va_D (fun _ => True) ((cL cI cJ cZ ad) u)) (hS : va_S A s.heap H locs) (hl : lv_has ls 4 [(0, .ref (ad 6)), (1, .int x1)]) (hM : B_S_copiesWith_0 x1 u = some res) : W p l e rm_S_copiesWith s m args below meth c H locs 0 0 (MQ below (Qri A res) args s 0 0 A) (F0 m 0 ls []) := by
  have C0 := C
  obtain ⟨hx, hb, hr, hml, hown, hts, hlocks, hK, hA⟩ := C
  replace C := C0
  unfold B_S_copiesWith_0 at hM
  refine lv_iconst (v := (0 : Int32)) hx hb d_S_copiesWith_0 (by decide) ?_
  refine lv_istore_n (lv' := [(2, .int (0 : Int32)), (0, .ref (ad 6)), (1, .int x1)]) hx hb d_S_copiesWith_1 rfl hl (by decide) rfl (fun ls hl => ?_)
  refine lv_iconst (v := (1 : Int32)) hx hb d_S_copiesWith_2 (by decide) ?_
  refine lv_istore_n (lv' := [(3, .int (1 : Int32)), (2, .int (0 : Int32)), (0, .ref (ad 6)), (1, .int x1)]) hx hb d_S_copiesWith_3 rfl hl (by decide) rfl (fun ls hl => ?_)
  exact w_S_copiesWith_4 C FU x1 (0 : Int32) (1 : Int32) u H locs ls hP hD hS (lv_sub hl [2, 3, 1, 0] rfl) hM
end
set_option maxRecDepth 100000 in
theorem c_S_copiesWith (l : Launch) (D : va_G) (cI cJ cZ : ClassId) (ad : Nat → Nat) (sz : Nat) (x1 : Int32) (u : Lib) (res : Int32) (hM : B_S_copiesWith_0 x1 u = some res) : Met l y_S_copiesWith ws_S_copiesWith rm_S_copiesWith (va_Pc [.ref (ad 6), .int x1] (pr_ D cl9 (tyy cI cJ cZ) (cL cI cJ cZ ad) u sz)) (Qri (va_A [] sz) res) 0 0 (va_A [] sz) := by
  refine Met.ofW (cc := prog_3_method_8_code) (maxL := 4) (ret := (Option.some FieldType.int)) (by decide) rfl ?_
  intro p e s m args below meth c s₁ B hml hv
  obtain ⟨rfl, hsz, hP, hK, hD0⟩ := hv
  subst hsz
  have hts0 := atoms_spec (ws := ws_S_copiesWith) B.pre
  have hl := lv_entry ([.ref (ad 6), .int x1]) (n := 4) (Nat.le_of_ble_eq_true rfl)
  rw [lg_entry_eq]
  generalize (lg_sl ([.ref (ad 6), .int x1]) ++ List.replicate (4 - (lg_sl ([.ref (ad 6), .int x1])).length) Slot.unset).toArray = ls at hl ⊢
  exact w_S_copiesWith_0 ⟨B.exec, B.bytes, B.returns, hml, findClass_of_methodNamed B.named, fun w h => hts0 w (List.mem_cons_of_mem _ h), B.notSynchronized, hK, fun q h => Or.inr h⟩ x1 u s.heap [] ls hP hD0 va_S.rf hl hM
end
