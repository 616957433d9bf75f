abbrev R_R : String := "PlainLibrary$Row"
def T_R : u_T := fun k => match k with
  | 0 => ("PlainLibrary$Row", "sorts", "[I", true)
  | 1 => ("PlainLibrary$Row", "firsts", "[I", true)
  | 2 => ("PlainLibrary$Row", "seconds", "[I", true)
  | 3 => ("PlainLibrary$Row", "days", "[J", true)
  | _ => ("PlainLibrary$Row", "size", "I", false)
def ty_R : Nat → FieldType := fun k => match k with
  | 0 => .array .int
  | 1 => .array .int
  | 2 => .array .int
  | 3 => .array .long
  | _ => .int
theorem nm_R : ∀ a, a < 5 → ∀ b, b < 5 → a ≠ b → (T_R a).2.1 ≠ (T_R b).2.1 := by decide +kernel
theorem tk_R : ∀ k, k < 5 → parseFieldDescriptor (T_R k).2.2.1 = some (ty_R k) := by decide +kernel
abbrev R_S : String := "PlainLibrary$Shelves"
def T_S : u_T := fun k => match k with
  | 0 => ("PlainLibrary$Shelves", "headingBits", "[J", true)
  | 1 => ("PlainLibrary$Shelves", "records", "[I", true)
  | 2 => ("PlainLibrary$Shelves", "persons", "[I", true)
  | 3 => ("PlainLibrary$Shelves", "dueDays", "[J", true)
  | 4 => ("PlainLibrary$Shelves", "queued", "[I", true)
  | 5 => ("PlainLibrary$Shelves", "queueLengths", "[I", true)
  | 6 => ("PlainLibrary$Shelves", "classes", "[I", true)
  | 7 => ("PlainLibrary$Shelves", "loanDays", "[I", true)
  | _ => ("PlainLibrary$Shelves", "sums", "[I", true)
def ty_S : Nat → FieldType := fun k => match k with
  | 0 => .array .long
  | 1 => .array .int
  | 2 => .array .int
  | 3 => .array .long
  | 4 => .array .int
  | 5 => .array .int
  | 6 => .array .int
  | 7 => .array .int
  | _ => .array .int
theorem nm_S : ∀ a, a < 9 → ∀ b, b < 9 → a ≠ b → (T_S a).2.1 ≠ (T_S b).2.1 := by decide +kernel
theorem tk_S : ∀ k, k < 9 → parseFieldDescriptor (T_S k).2.2.1 = some (ty_S k) := by decide +kernel
abbrev R_L : String := "PlainLibrary"
def T_L : u_T := fun k => match k with
  | 0 => ("PlainLibrary", "row", "LPlainLibrary$Row;", true)
  | 1 => ("PlainLibrary", "shelves", "LPlainLibrary$Shelves;", true)
  | 2 => ("PlainLibrary", "hits", "[I", true)
  | _ => ("PlainLibrary", "hitCount", "I", false)
def ty_L : Nat → FieldType := fun k => match k with
  | 0 => .object "PlainLibrary$Row"
  | 1 => .object "PlainLibrary$Shelves"
  | 2 => .array .int
  | _ => .int
theorem nm_L : ∀ a, a < 4 → ∀ b, b < 4 → a ≠ b → (T_L a).2.1 ≠ (T_L b).2.1 := by decide +kernel
theorem tk_L : ∀ k, k < 4 → parseFieldDescriptor (T_L k).2.2.1 = some (ty_L k) := by decide +kernel
abbrev R_M : String := "PlainLibraryModel"
def T_M : u_T := fun k => match k with
  | 0 => ("PlainLibraryModel", "thrown", "I", false)
  | 1 => ("PlainLibraryModel", "sorts", "[I", true)
  | 2 => ("PlainLibraryModel", "as", "[I", true)
  | 3 => ("PlainLibraryModel", "bs", "[J", true)
  | 4 => ("PlainLibraryModel", "days", "[J", true)
  | 5 => ("PlainLibraryModel", "count", "I", false)
  | 6 => ("PlainLibraryModel", "headings", "[Z", true)
  | 7 => ("PlainLibraryModel", "recordOf", "[I", true)
  | 8 => ("PlainLibraryModel", "person", "[I", true)
  | 9 => ("PlainLibraryModel", "due", "[J", true)
  | 10 => ("PlainLibraryModel", "queues", "[I", true)
  | 11 => ("PlainLibraryModel", "queueSizes", "[I", true)
  | 12 => ("PlainLibraryModel", "sums", "[I", true)
  | 13 => ("PlainLibraryModel", "classes", "[I", true)
  | 14 => ("PlainLibraryModel", "lasts", "[I", true)
  | 15 => ("PlainLibraryModel", "isVoid", "[Z", true)
  | 16 => ("PlainLibraryModel", "backOf", "[I", true)
  | 17 => ("PlainLibraryModel", "voids", "I", false)
  | 18 => ("PlainLibraryModel", "peak", "I", false)
  | 19 => ("PlainLibraryModel", "hits", "[I", true)
  | _ => ("PlainLibraryModel", "hitCount", "I", false)
def ty_M : Nat → FieldType := fun k => match k with
  | 0 => .int
  | 1 => .array .int
  | 2 => .array .int
  | 3 => .array .long
  | 4 => .array .long
  | 5 => .int
  | 6 => .array .boolean
  | 7 => .array .int
  | 8 => .array .int
  | 9 => .array .long
  | 10 => .array .int
  | 11 => .array .int
  | 12 => .array .int
  | 13 => .array .int
  | 14 => .array .int
  | 15 => .array .boolean
  | 16 => .array .int
  | 17 => .int
  | 18 => .int
  | 19 => .array .int
  | _ => .int
theorem nm_M : ∀ a, a < 21 → ∀ b, b < 21 → a ≠ b → (T_M a).2.1 ≠ (T_M b).2.1 := by decide +kernel
theorem tk_M : ∀ k, k < 21 → parseFieldDescriptor (T_M k).2.2.1 = some (ty_M k) := by decide +kernel
abbrev cl9 : List vw_C := [(R_R, T_R, 5), (R_S, T_S, 9), (R_L, T_L, 4), (R_M, T_M, 21)]
/-! words of the tables -/
def tb : List Cond := lw_tbl.filter goodWord
theorem ms_ (k : Nat) {w : Cond} (h : lw_tbl[k]? = some w) (h2 : goodWord w = true) : w ∈ tb := List.mem_filter.mpr ⟨List.mem_of_getElem? h, h2⟩
theorem gsub {ws : List Cond} (h : ∀ w ∈ ws, w ∈ tb) : GoodIn tb ws := fun w hw => ⟨h w hw, good_of_word (List.mem_filter.mp (h w hw)).2⟩
theorem tb_in {P : Cond → Prop} (h : ∀ w ∈ lw_tbl, P w) : ∀ w ∈ tb, P w := fun w hw => h w (List.mem_filter.mp hw).1
theorem gV {own C : String} {idx : Nat} {y : MethodName} {bytes : ByteArray} {maxL : Nat} {rt : Option FieldType} (h1 : Cond.methodLink own idx y ∈ tb) (h2 : Cond.instanceMethod y ∈ tb) (h3 : Cond.selects C y y ∈ tb) (h4 : Cond.initialized C ∈ tb) (h5 : Cond.code y bytes maxL rt ∈ tb) : GoodIn tb (wsV own idx C y (Cond.code y bytes maxL rt :: tb)) := gsub (fun w hw => by
  unfold wsV at hw
  rcases List.mem_append.mp hw with h | h
  · simp only [List.mem_cons, List.not_mem_nil, or_false] at h
    rcases h with rfl | rfl | rfl | rfl <;> assumption
  · rcases List.mem_cons.mp h with rfl | h
    · exact h5
    · exact h)
theorem gS {own : String} {idx : Nat} {y : MethodName} {bytes : ByteArray} {maxL : Nat} {rt : Option FieldType} (h1 : Cond.methodLink own idx y ∈ tb) (h2 : Cond.static y ∈ tb) (h4 : Cond.initialized y.cls ∈ tb) (h5 : Cond.code y bytes maxL rt ∈ tb) : GoodIn tb (va_wsS own idx y (Cond.code y bytes maxL rt :: tb)) := gsub (fun w hw => by
  unfold va_wsS at hw
  rcases List.mem_append.mp hw with h | h
  · simp only [List.mem_cons, List.not_mem_nil, or_false] at h
    rcases h with rfl | rfl | rfl <;> assumption
  · rcases List.mem_cons.mp h with rfl | h
    · exact h5
    · exact h)
theorem gI {y : MethodName} {bytes : ByteArray} {maxL : Nat} {rt : Option FieldType} (h5 : Cond.code y bytes maxL rt ∈ tb) : GoodIn tb (Cond.code y bytes maxL rt :: tb) := gsub (fun w hw => by
  rcases List.mem_cons.mp hw with rfl | h
  · exact h5
  · exact h)
theorem in_R : ∀ w ∈ u_ws R_R T_R 5, w ∈ tb := fun w h => List.mem_filter.mpr ⟨(by decide +kernel : ∀ w ∈ u_ws R_R T_R 5, w ∈ lw_tbl) w h, List.all_eq_true.mp (by decide +kernel : (u_ws R_R T_R 5).all goodWord = true) w h⟩
theorem in_S : ∀ w ∈ u_ws R_S T_S 9, w ∈ tb := fun w h => List.mem_filter.mpr ⟨(by decide +kernel : ∀ w ∈ u_ws R_S T_S 9, w ∈ lw_tbl) w h, List.all_eq_true.mp (by decide +kernel : (u_ws R_S T_S 9).all goodWord = true) w h⟩
theorem in_L : ∀ w ∈ u_ws R_L T_L 4, w ∈ tb := fun w h => List.mem_filter.mpr ⟨(by decide +kernel : ∀ w ∈ u_ws R_L T_L 4, w ∈ lw_tbl) w h, List.all_eq_true.mp (by decide +kernel : (u_ws R_L T_L 4).all goodWord = true) w h⟩
theorem in_M : ∀ w ∈ u_ws R_M T_M 21, w ∈ tb := fun w h => List.mem_filter.mpr ⟨(by decide +kernel : ∀ w ∈ u_ws R_M T_M 21, w ∈ lw_tbl) w h, List.all_eq_true.mp (by decide +kernel : (u_ws R_M T_M 21).all goodWord = true) w h⟩
abbrev y_R_init : MethodName := ⟨"PlainLibrary$Row", "<init>", "()V"⟩
abbrev ws_R_init : List Cond := Cond.code y_R_init prog_2_method_1_code 1 (Option.none : Option FieldType) :: tb
theorem hs_R_init : y_R_init.cls ≠ "java/lang/invoke/MethodHandle" ∧ y_R_init.cls ≠ "java/lang/invoke/VarHandle" ∧ (parseMethodDescriptor y_R_init.desc).map (fun d => d.parameters.length) = some 0 := by decide +kernel
abbrev rm_R_init : Room := { frames := 1, cells := 4, slots := 800, locals := 12 }
abbrev y_S_init : MethodName := ⟨"PlainLibrary$Shelves", "<init>", "()V"⟩
abbrev ws_S_init : List Cond := Cond.code y_S_init prog_3_method_1_code 1 (Option.none : Option FieldType) :: tb
theorem hs_S_init : y_S_init.cls ≠ "java/lang/invoke/MethodHandle" ∧ y_S_init.cls ≠ "java/lang/invoke/VarHandle" ∧ (parseMethodDescriptor y_S_init.desc).map (fun d => d.parameters.length) = some 0 := by decide +kernel
abbrev rm_S_init : Room := { frames := 1, cells := 9, slots := 703, locals := 12 }
abbrev y_L_init : MethodName := ⟨"PlainLibrary", "<init>", "()V"⟩
abbrev ws_L_init : List Cond := Cond.code y_L_init prog_1_method_1_code 1 (Option.none : Option FieldType) :: tb
theorem hs_L_init : y_L_init.cls ≠ "java/lang/invoke/MethodHandle" ∧ y_L_init.cls ≠ "java/lang/invoke/VarHandle" ∧ (parseMethodDescriptor y_L_init.desc).map (fun d => d.parameters.length) = some 0 := by decide +kernel
abbrev rm_L_init : Room := { frames := 2, cells := 16, slots := 1537, locals := 32 }
abbrev y_L_isWithin : MethodName := ⟨"PlainLibrary", "isWithin", "(JJJ)Z"⟩
abbrev ws_L_isWithin : List Cond := Cond.code y_L_isWithin prog_1_method_16_code 6 (Option.some FieldType.boolean) :: tb
theorem hs_L_isWithin : y_L_isWithin.cls ≠ "java/lang/invoke/MethodHandle" ∧ y_L_isWithin.cls ≠ "java/lang/invoke/VarHandle" ∧ (parseMethodDescriptor y_L_isWithin.desc).map (fun d => d.parameters.length) = some 3 := by decide +kernel
abbrev rm_L_isWithin : Room := { frames := 0, cells := 0, slots := 0, locals := 0 }
abbrev y_L_isNumber : MethodName := ⟨"PlainLibrary", "isNumber", "(J)Z"⟩
abbrev ws_L_isNumber : List Cond := Cond.code y_L_isNumber prog_1_method_17_code 2 (Option.some FieldType.boolean) :: tb
theorem hs_L_isNumber : y_L_isNumber.cls ≠ "java/lang/invoke/MethodHandle" ∧ y_L_isNumber.cls ≠ "java/lang/invoke/VarHandle" ∧ (parseMethodDescriptor y_L_isNumber.desc).map (fun d => d.parameters.length) = some 1 := by decide +kernel
abbrev rm_L_isNumber : Room := { frames := 1, cells := 0, slots := 0, locals := 25 }
abbrev y_L_isAct : MethodName := ⟨"PlainLibrary", "isAct", "(IJJ)Z"⟩
abbrev ws_L_isAct : List Cond := Cond.code y_L_isAct prog_1_method_18_code 5 (Option.some FieldType.boolean) :: tb
theorem hs_L_isAct : y_L_isAct.cls ≠ "java/lang/invoke/MethodHandle" ∧ y_L_isAct.cls ≠ "java/lang/invoke/VarHandle" ∧ (parseMethodDescriptor y_L_isAct.desc).map (fun d => d.parameters.length) = some 3 := by decide +kernel
abbrev rm_L_isAct : Room := { frames := 2, cells := 0, slots := 0, locals := 46 }
abbrev y_R_placeFor : MethodName := ⟨"PlainLibrary$Row", "placeFor", "(J)I"⟩
abbrev ws_R_placeFor : List Cond := Cond.code y_R_placeFor prog_2_method_7_code 4 (Option.some FieldType.int) :: tb
theorem hs_R_placeFor : y_R_placeFor.cls ≠ "java/lang/invoke/MethodHandle" ∧ y_R_placeFor.cls ≠ "java/lang/invoke/VarHandle" ∧ (parseMethodDescriptor y_R_placeFor.desc).map (fun d => d.parameters.length) = some 1 := by decide +kernel
theorem hd_R_placeFor : y_R_placeFor.cls = R_R ∧ y_R_placeFor.cls ≠ "java/lang/invoke/MethodHandle" ∧ y_R_placeFor.cls ≠ "java/lang/invoke/VarHandle" ∧ (parseMethodDescriptor y_R_placeFor.desc).map (fun d => d.parameters.length) = some 1 := by decide +kernel
abbrev rm_R_placeFor : Room := { frames := 0, cells := 0, slots := 0, locals := 0 }
abbrev y_R_insert : MethodName := ⟨"PlainLibrary$Row", "insert", "(IIIJ)Z"⟩
abbrev ws_R_insert : List Cond := Cond.code y_R_insert prog_2_method_6_code 8 (Option.some FieldType.boolean) :: tb
theorem hs_R_insert : y_R_insert.cls ≠ "java/lang/invoke/MethodHandle" ∧ y_R_insert.cls ≠ "java/lang/invoke/VarHandle" ∧ (parseMethodDescriptor y_R_insert.desc).map (fun d => d.parameters.length) = some 4 := by decide +kernel
theorem hd_R_insert : y_R_insert.cls = R_R ∧ y_R_insert.cls ≠ "java/lang/invoke/MethodHandle" ∧ y_R_insert.cls ≠ "java/lang/invoke/VarHandle" ∧ (parseMethodDescriptor y_R_insert.desc).map (fun d => d.parameters.length) = some 4 := by decide +kernel
abbrev rm_R_insert : Room := { frames := 1, cells := 0, slots := 0, locals := 26 }
abbrev y_R_size : MethodName := ⟨"PlainLibrary$Row", "size", "()I"⟩
abbrev ws_R_size : List Cond := Cond.code y_R_size prog_2_method_2_code 1 (Option.some FieldType.int) :: tb
theorem hs_R_size : y_R_size.cls ≠ "java/lang/invoke/MethodHandle" ∧ y_R_size.cls ≠ "java/lang/invoke/VarHandle" ∧ (parseMethodDescriptor y_R_size.desc).map (fun d => d.parameters.length) = some 0 := by decide +kernel
theorem hd_R_size : y_R_size.cls = R_R ∧ y_R_size.cls ≠ "java/lang/invoke/MethodHandle" ∧ y_R_size.cls ≠ "java/lang/invoke/VarHandle" ∧ (parseMethodDescriptor y_R_size.desc).map (fun d => d.parameters.length) = some 0 := by decide +kernel
abbrev rm_R_size : Room := { frames := 0, cells := 0, slots := 0, locals := 0 }
abbrev y_L_event : MethodName := ⟨"PlainLibrary", "event", "(IJJJ)I"⟩
abbrev ws_L_event : List Cond := Cond.code y_L_event prog_1_method_2_code 9 (Option.some FieldType.int) :: tb
theorem hs_L_event : y_L_event.cls ≠ "java/lang/invoke/MethodHandle" ∧ y_L_event.cls ≠ "java/lang/invoke/VarHandle" ∧ (parseMethodDescriptor y_L_event.desc).map (fun d => d.parameters.length) = some 4 := by decide +kernel
theorem hd_L_event : y_L_event.cls = R_L ∧ y_L_event.cls ≠ "java/lang/invoke/MethodHandle" ∧ y_L_event.cls ≠ "java/lang/invoke/VarHandle" ∧ (parseMethodDescriptor y_L_event.desc).map (fun d => d.parameters.length) = some 4 := by decide +kernel
abbrev rm_L_event : Room := { frames := 3, cells := 0, slots := 0, locals := 70 }
abbrev y_J_fillJ : MethodName := ⟨"java/util/Arrays", "fill", "([JJ)V"⟩
abbrev ws_J_fillJ : List Cond := Cond.code y_J_fillJ prog_8_method_101_code 5 (Option.none : Option FieldType) :: tb
theorem hs_J_fillJ : y_J_fillJ.cls ≠ "java/lang/invoke/MethodHandle" ∧ y_J_fillJ.cls ≠ "java/lang/invoke/VarHandle" ∧ (parseMethodDescriptor y_J_fillJ.desc).map (fun d => d.parameters.length) = some 2 := by decide +kernel
abbrev rm_J_fillJ : Room := { frames := 0, cells := 0, slots := 0, locals := 0 }
abbrev y_J_fillI : MethodName := ⟨"java/util/Arrays", "fill", "([II)V"⟩
abbrev ws_J_fillI : List Cond := Cond.code y_J_fillI prog_8_method_103_code 4 (Option.none : Option FieldType) :: tb
theorem hs_J_fillI : y_J_fillI.cls ≠ "java/lang/invoke/MethodHandle" ∧ y_J_fillI.cls ≠ "java/lang/invoke/VarHandle" ∧ (parseMethodDescriptor y_J_fillI.desc).map (fun d => d.parameters.length) = some 2 := by decide +kernel
abbrev rm_J_fillI : Room := { frames := 0, cells := 0, slots := 0, locals := 0 }
abbrev y_S_clear : MethodName := ⟨"PlainLibrary$Shelves", "clear", "()V"⟩
abbrev ws_S_clear : List Cond := Cond.code y_S_clear prog_3_method_2_code 1 (Option.none : Option FieldType) :: tb
theorem hs_S_clear : y_S_clear.cls ≠ "java/lang/invoke/MethodHandle" ∧ y_S_clear.cls ≠ "java/lang/invoke/VarHandle" ∧ (parseMethodDescriptor y_S_clear.desc).map (fun d => d.parameters.length) = some 0 := by decide +kernel
theorem hd_S_clear : y_S_clear.cls = R_S ∧ y_S_clear.cls ≠ "java/lang/invoke/MethodHandle" ∧ y_S_clear.cls ≠ "java/lang/invoke/VarHandle" ∧ (parseMethodDescriptor y_S_clear.desc).map (fun d => d.parameters.length) = some 0 := by decide +kernel
abbrev rm_S_clear : Room := { frames := 1, cells := 0, slots := 0, locals := 24 }
abbrev y_S_wordIndex : MethodName := ⟨"PlainLibrary$Shelves", "wordIndex", "(II)I"⟩
abbrev ws_S_wordIndex : List Cond := Cond.code y_S_wordIndex prog_3_method_16_code 2 (Option.some FieldType.int) :: tb
theorem hs_S_wordIndex : y_S_wordIndex.cls ≠ "java/lang/invoke/MethodHandle" ∧ y_S_wordIndex.cls ≠ "java/lang/invoke/VarHandle" ∧ (parseMethodDescriptor y_S_wordIndex.desc).map (fun d => d.parameters.length) = some 2 := by decide +kernel
abbrev rm_S_wordIndex : Room := { frames := 0, cells := 0, slots := 0, locals := 0 }
abbrev y_S_bitOf : MethodName := ⟨"PlainLibrary$Shelves", "bitOf", "(I)J"⟩
abbrev ws_S_bitOf : List Cond := Cond.code y_S_bitOf prog_3_method_17_code 1 (Option.some FieldType.long) :: tb
theorem hs_S_bitOf : y_S_bitOf.cls ≠ "java/lang/invoke/MethodHandle" ∧ y_S_bitOf.cls ≠ "java/lang/invoke/VarHandle" ∧ (parseMethodDescriptor y_S_bitOf.desc).map (fun d => d.parameters.length) = some 1 := by decide +kernel
abbrev rm_S_bitOf : Room := { frames := 0, cells := 0, slots := 0, locals := 0 }
abbrev y_S_hasHeading : MethodName := ⟨"PlainLibrary$Shelves", "hasHeading", "(II)Z"⟩
abbrev ws_S_hasHeading : List Cond := Cond.code y_S_hasHeading prog_3_method_9_code 3 (Option.some FieldType.boolean) :: tb
theorem hs_S_hasHeading : y_S_hasHeading.cls ≠ "java/lang/invoke/MethodHandle" ∧ y_S_hasHeading.cls ≠ "java/lang/invoke/VarHandle" ∧ (parseMethodDescriptor y_S_hasHeading.desc).map (fun d => d.parameters.length) = some 2 := by decide +kernel
theorem hd_S_hasHeading : y_S_hasHeading.cls = R_S ∧ y_S_hasHeading.cls ≠ "java/lang/invoke/MethodHandle" ∧ y_S_hasHeading.cls ≠ "java/lang/invoke/VarHandle" ∧ (parseMethodDescriptor y_S_hasHeading.desc).map (fun d => d.parameters.length) = some 2 := by decide +kernel
abbrev rm_S_hasHeading : Room := { frames := 1, cells := 0, slots := 0, locals := 21 }
abbrev y_S_addHeading : MethodName := ⟨"PlainLibrary$Shelves", "addHeading", "(II)Z"⟩
abbrev ws_S_addHeading : List Cond := Cond.code y_S_addHeading prog_3_method_18_code 3 (Option.some FieldType.boolean) :: tb
theorem hs_S_addHeading : y_S_addHeading.cls ≠ "java/lang/invoke/MethodHandle" ∧ y_S_addHeading.cls ≠ "java/lang/invoke/VarHandle" ∧ (parseMethodDescriptor y_S_addHeading.desc).map (fun d => d.parameters.length) = some 2 := by decide +kernel
theorem hd_S_addHeading : y_S_addHeading.cls = R_S ∧ y_S_addHeading.cls ≠ "java/lang/invoke/MethodHandle" ∧ y_S_addHeading.cls ≠ "java/lang/invoke/VarHandle" ∧ (parseMethodDescriptor y_S_addHeading.desc).map (fun d => d.parameters.length) = some 2 := by decide +kernel
abbrev rm_S_addHeading : Room := { frames := 2, cells := 0, slots := 0, locals := 43 }
abbrev y_S_dropHeading : MethodName := ⟨"PlainLibrary$Shelves", "dropHeading", "(II)Z"⟩
abbrev ws_S_dropHeading : List Cond := Cond.code y_S_dropHeading prog_3_method_19_code 3 (Option.some FieldType.boolean) :: tb
theorem hs_S_dropHeading : y_S_dropHeading.cls ≠ "java/lang/invoke/MethodHandle" ∧ y_S_dropHeading.cls ≠ "java/lang/invoke/VarHandle" ∧ (parseMethodDescriptor y_S_dropHeading.desc).map (fun d => d.parameters.length) = some 2 := by decide +kernel
theorem hd_S_dropHeading : y_S_dropHeading.cls = R_S ∧ y_S_dropHeading.cls ≠ "java/lang/invoke/MethodHandle" ∧ y_S_dropHeading.cls ≠ "java/lang/invoke/VarHandle" ∧ (parseMethodDescriptor y_S_dropHeading.desc).map (fun d => d.parameters.length) = some 2 := by decide +kernel
abbrev rm_S_dropHeading : Room := { frames := 2, cells := 0, slots := 0, locals := 43 }
abbrev y_S_setRecord : MethodName := ⟨"PlainLibrary$Shelves", "setRecord", "(II)Z"⟩
abbrev ws_S_setRecord : List Cond := Cond.code y_S_setRecord prog_3_method_20_code 3 (Option.some FieldType.boolean) :: tb
theorem hs_S_setRecord : y_S_setRecord.cls ≠ "java/lang/invoke/MethodHandle" ∧ y_S_setRecord.cls ≠ "java/lang/invoke/VarHandle" ∧ (parseMethodDescriptor y_S_setRecord.desc).map (fun d => d.parameters.length) = some 2 := by decide +kernel
theorem hd_S_setRecord : y_S_setRecord.cls = R_S ∧ y_S_setRecord.cls ≠ "java/lang/invoke/MethodHandle" ∧ y_S_setRecord.cls ≠ "java/lang/invoke/VarHandle" ∧ (parseMethodDescriptor y_S_setRecord.desc).map (fun d => d.parameters.length) = some 2 := by decide +kernel
abbrev rm_S_setRecord : Room := { frames := 0, cells := 0, slots := 0, locals := 0 }
abbrev y_S_personAt : MethodName := ⟨"PlainLibrary$Shelves", "personAt", "(II)I"⟩
abbrev ws_S_personAt : List Cond := Cond.code y_S_personAt prog_3_method_12_code 3 (Option.some FieldType.int) :: tb
theorem hs_S_personAt : y_S_personAt.cls ≠ "java/lang/invoke/MethodHandle" ∧ y_S_personAt.cls ≠ "java/lang/invoke/VarHandle" ∧ (parseMethodDescriptor y_S_personAt.desc).map (fun d => d.parameters.length) = some 2 := by decide +kernel
theorem hd_S_personAt : y_S_personAt.cls = R_S ∧ y_S_personAt.cls ≠ "java/lang/invoke/MethodHandle" ∧ y_S_personAt.cls ≠ "java/lang/invoke/VarHandle" ∧ (parseMethodDescriptor y_S_personAt.desc).map (fun d => d.parameters.length) = some 2 := by decide +kernel
abbrev rm_S_personAt : Room := { frames := 0, cells := 0, slots := 0, locals := 0 }
abbrev y_S_placeInQueue : MethodName := ⟨"PlainLibrary$Shelves", "placeInQueue", "(II)I"⟩
abbrev ws_S_placeInQueue : List Cond := Cond.code y_S_placeInQueue prog_3_method_23_code 4 (Option.some FieldType.int) :: tb
theorem hs_S_placeInQueue : y_S_placeInQueue.cls ≠ "java/lang/invoke/MethodHandle" ∧ y_S_placeInQueue.cls ≠ "java/lang/invoke/VarHandle" ∧ (parseMethodDescriptor y_S_placeInQueue.desc).map (fun d => d.parameters.length) = some 2 := by decide +kernel
theorem hd_S_placeInQueue : y_S_placeInQueue.cls = R_S ∧ y_S_placeInQueue.cls ≠ "java/lang/invoke/MethodHandle" ∧ y_S_placeInQueue.cls ≠ "java/lang/invoke/VarHandle" ∧ (parseMethodDescriptor y_S_placeInQueue.desc).map (fun d => d.parameters.length) = some 2 := by decide +kernel
abbrev rm_S_placeInQueue : Room := { frames := 0, cells := 0, slots := 0, locals := 0 }
abbrev y_S_leaveQueue : MethodName := ⟨"PlainLibrary$Shelves", "leaveQueue", "(II)Z"⟩
abbrev ws_S_leaveQueue : List Cond := Cond.code y_S_leaveQueue prog_3_method_25_code 5 (Option.some FieldType.boolean) :: tb
theorem hs_S_leaveQueue : y_S_leaveQueue.cls ≠ "java/lang/invoke/MethodHandle" ∧ y_S_leaveQueue.cls ≠ "java/lang/invoke/VarHandle" ∧ (parseMethodDescriptor y_S_leaveQueue.desc).map (fun d => d.parameters.length) = some 2 := by decide +kernel
theorem hd_S_leaveQueue : y_S_leaveQueue.cls = R_S ∧ y_S_leaveQueue.cls ≠ "java/lang/invoke/MethodHandle" ∧ y_S_leaveQueue.cls ≠ "java/lang/invoke/VarHandle" ∧ (parseMethodDescriptor y_S_leaveQueue.desc).map (fun d => d.parameters.length) = some 2 := by decide +kernel
abbrev rm_S_leaveQueue : Room := { frames := 1, cells := 0, slots := 0, locals := 26 }
abbrev y_S_lend : MethodName := ⟨"PlainLibrary$Shelves", "lend", "(IIJ)Z"⟩
abbrev ws_S_lend : List Cond := Cond.code y_S_lend prog_3_method_21_code 7 (Option.some FieldType.boolean) :: tb
theorem hs_S_lend : y_S_lend.cls ≠ "java/lang/invoke/MethodHandle" ∧ y_S_lend.cls ≠ "java/lang/invoke/VarHandle" ∧ (parseMethodDescriptor y_S_lend.desc).map (fun d => d.parameters.length) = some 3 := by decide +kernel
theorem hd_S_lend : y_S_lend.cls = R_S ∧ y_S_lend.cls ≠ "java/lang/invoke/MethodHandle" ∧ y_S_lend.cls ≠ "java/lang/invoke/VarHandle" ∧ (parseMethodDescriptor y_S_lend.desc).map (fun d => d.parameters.length) = some 3 := by decide +kernel
abbrev rm_S_lend : Room := { frames := 2, cells := 0, slots := 0, locals := 50 }
abbrev y_S_giveBack : MethodName := ⟨"PlainLibrary$Shelves", "giveBack", "(I)Z"⟩
abbrev ws_S_giveBack : List Cond := Cond.code y_S_giveBack prog_3_method_22_code 2 (Option.some FieldType.boolean) :: tb
theorem hs_S_giveBack : y_S_giveBack.cls ≠ "java/lang/invoke/MethodHandle" ∧ y_S_giveBack.cls ≠ "java/lang/invoke/VarHandle" ∧ (parseMethodDescriptor y_S_giveBack.desc).map (fun d => d.parameters.length) = some 1 := by decide +kernel
theorem hd_S_giveBack : y_S_giveBack.cls = R_S ∧ y_S_giveBack.cls ≠ "java/lang/invoke/MethodHandle" ∧ y_S_giveBack.cls ≠ "java/lang/invoke/VarHandle" ∧ (parseMethodDescriptor y_S_giveBack.desc).map (fun d => d.parameters.length) = some 1 := by decide +kernel
abbrev rm_S_giveBack : Room := { frames := 0, cells := 0, slots := 0, locals := 0 }
abbrev y_S_joinQueue : MethodName := ⟨"PlainLibrary$Shelves", "joinQueue", "(II)Z"⟩
abbrev ws_S_joinQueue : List Cond := Cond.code y_S_joinQueue prog_3_method_24_code 4 (Option.some FieldType.boolean) :: tb
theorem hs_S_joinQueue : y_S_joinQueue.cls ≠ "java/lang/invoke/MethodHandle" ∧ y_S_joinQueue.cls ≠ "java/lang/invoke/VarHandle" ∧ (parseMethodDescriptor y_S_joinQueue.desc).map (fun d => d.parameters.length) = some 2 := by decide +kernel
theorem hd_S_joinQueue : y_S_joinQueue.cls = R_S ∧ y_S_joinQueue.cls ≠ "java/lang/invoke/MethodHandle" ∧ y_S_joinQueue.cls ≠ "java/lang/invoke/VarHandle" ∧ (parseMethodDescriptor y_S_joinQueue.desc).map (fun d => d.parameters.length) = some 2 := by decide +kernel
abbrev rm_S_joinQueue : Room := { frames := 1, cells := 0, slots := 0, locals := 23 }
abbrev y_S_sumIndex : MethodName := ⟨"PlainLibrary$Shelves", "sumIndex", "(II)I"⟩
abbrev ws_S_sumIndex : List Cond := Cond.code y_S_sumIndex prog_3_method_15_code 2 (Option.some FieldType.int) :: tb
theorem hs_S_sumIndex : y_S_sumIndex.cls ≠ "java/lang/invoke/MethodHandle" ∧ y_S_sumIndex.cls ≠ "java/lang/invoke/VarHandle" ∧ (parseMethodDescriptor y_S_sumIndex.desc).map (fun d => d.parameters.length) = some 2 := by decide +kernel
abbrev rm_S_sumIndex : Room := { frames := 0, cells := 0, slots := 0, locals := 0 }
abbrev y_S_loseFile : MethodName := ⟨"PlainLibrary$Shelves", "loseFile", "(II)Z"⟩
abbrev ws_S_loseFile : List Cond := Cond.code y_S_loseFile prog_3_method_26_code 4 (Option.some FieldType.boolean) :: tb
theorem hs_S_loseFile : y_S_loseFile.cls ≠ "java/lang/invoke/MethodHandle" ∧ y_S_loseFile.cls ≠ "java/lang/invoke/VarHandle" ∧ (parseMethodDescriptor y_S_loseFile.desc).map (fun d => d.parameters.length) = some 2 := by decide +kernel
theorem hd_S_loseFile : y_S_loseFile.cls = R_S ∧ y_S_loseFile.cls ≠ "java/lang/invoke/MethodHandle" ∧ y_S_loseFile.cls ≠ "java/lang/invoke/VarHandle" ∧ (parseMethodDescriptor y_S_loseFile.desc).map (fun d => d.parameters.length) = some 2 := by decide +kernel
abbrev rm_S_loseFile : Room := { frames := 1, cells := 0, slots := 0, locals := 21 }
abbrev y_S_perform : MethodName := ⟨"PlainLibrary$Shelves", "perform", "(IIIJ)Z"⟩
abbrev ws_S_perform : List Cond := Cond.code y_S_perform prog_3_method_3_code 6 (Option.some FieldType.boolean) :: tb
theorem hs_S_perform : y_S_perform.cls ≠ "java/lang/invoke/MethodHandle" ∧ y_S_perform.cls ≠ "java/lang/invoke/VarHandle" ∧ (parseMethodDescriptor y_S_perform.desc).map (fun d => d.parameters.length) = some 4 := by decide +kernel
theorem hd_S_perform : y_S_perform.cls = R_S ∧ y_S_perform.cls ≠ "java/lang/invoke/MethodHandle" ∧ y_S_perform.cls ≠ "java/lang/invoke/VarHandle" ∧ (parseMethodDescriptor y_S_perform.desc).map (fun d => d.parameters.length) = some 4 := by decide +kernel
abbrev rm_S_perform : Room := { frames := 3, cells := 0, slots := 0, locals := 76 }
abbrev y_R_perform : MethodName := ⟨"PlainLibrary$Row", "perform", "(ILPlainLibrary$Shelves;)Z"⟩
abbrev ws_R_perform : List Cond := Cond.code y_R_perform prog_2_method_5_code 3 (Option.some FieldType.boolean) :: tb
theorem hs_R_perform : y_R_perform.cls ≠ "java/lang/invoke/MethodHandle" ∧ y_R_perform.cls ≠ "java/lang/invoke/VarHandle" ∧ (parseMethodDescriptor y_R_perform.desc).map (fun d => d.parameters.length) = some 2 := by decide +kernel
theorem hd_R_perform : y_R_perform.cls = R_R ∧ y_R_perform.cls ≠ "java/lang/invoke/MethodHandle" ∧ y_R_perform.cls ≠ "java/lang/invoke/VarHandle" ∧ (parseMethodDescriptor y_R_perform.desc).map (fun d => d.parameters.length) = some 2 := by decide +kernel
abbrev rm_R_perform : Room := { frames := 4, cells := 0, slots := 0, locals := 101 }
abbrev y_L_counts : MethodName := ⟨"PlainLibrary", "counts", "(I)I"⟩
abbrev ws_L_counts : List Cond := Cond.code y_L_counts prog_1_method_3_code 3 (Option.some FieldType.int) :: tb
theorem hs_L_counts : y_L_counts.cls ≠ "java/lang/invoke/MethodHandle" ∧ y_L_counts.cls ≠ "java/lang/invoke/VarHandle" ∧ (parseMethodDescriptor y_L_counts.desc).map (fun d => d.parameters.length) = some 1 := by decide +kernel
theorem hd_L_counts : y_L_counts.cls = R_L ∧ y_L_counts.cls ≠ "java/lang/invoke/MethodHandle" ∧ y_L_counts.cls ≠ "java/lang/invoke/VarHandle" ∧ (parseMethodDescriptor y_L_counts.desc).map (fun d => d.parameters.length) = some 1 := by decide +kernel
abbrev rm_L_counts : Room := { frames := 5, cells := 0, slots := 0, locals := 123 }
abbrev y_L_events : MethodName := ⟨"PlainLibrary", "events", "()I"⟩
abbrev ws_L_events : List Cond := Cond.code y_L_events prog_1_method_4_code 1 (Option.some FieldType.int) :: tb
theorem hs_L_events : y_L_events.cls ≠ "java/lang/invoke/MethodHandle" ∧ y_L_events.cls ≠ "java/lang/invoke/VarHandle" ∧ (parseMethodDescriptor y_L_events.desc).map (fun d => d.parameters.length) = some 0 := by decide +kernel
theorem hd_L_events : y_L_events.cls = R_L ∧ y_L_events.cls ≠ "java/lang/invoke/MethodHandle" ∧ y_L_events.cls ≠ "java/lang/invoke/VarHandle" ∧ (parseMethodDescriptor y_L_events.desc).map (fun d => d.parameters.length) = some 0 := by decide +kernel
abbrev rm_L_events : Room := { frames := 1, cells := 0, slots := 0, locals := 20 }
abbrev y_L_refused : MethodName := ⟨"PlainLibrary", "refused", "()I"⟩
abbrev ws_L_refused : List Cond := Cond.code y_L_refused prog_1_method_5_code 3 (Option.some FieldType.int) :: tb
theorem hs_L_refused : y_L_refused.cls ≠ "java/lang/invoke/MethodHandle" ∧ y_L_refused.cls ≠ "java/lang/invoke/VarHandle" ∧ (parseMethodDescriptor y_L_refused.desc).map (fun d => d.parameters.length) = some 0 := by decide +kernel
theorem hd_L_refused : y_L_refused.cls = R_L ∧ y_L_refused.cls ≠ "java/lang/invoke/MethodHandle" ∧ y_L_refused.cls ≠ "java/lang/invoke/VarHandle" ∧ (parseMethodDescriptor y_L_refused.desc).map (fun d => d.parameters.length) = some 0 := by decide +kernel
abbrev rm_L_refused : Room := { frames := 5, cells := 0, slots := 0, locals := 123 }
abbrev y_R_dayOf : MethodName := ⟨"PlainLibrary$Row", "dayOf", "(I)J"⟩
abbrev ws_R_dayOf : List Cond := Cond.code y_R_dayOf prog_2_method_3_code 2 (Option.some FieldType.long) :: tb
theorem hs_R_dayOf : y_R_dayOf.cls ≠ "java/lang/invoke/MethodHandle" ∧ y_R_dayOf.cls ≠ "java/lang/invoke/VarHandle" ∧ (parseMethodDescriptor y_R_dayOf.desc).map (fun d => d.parameters.length) = some 1 := by decide +kernel
theorem hd_R_dayOf : y_R_dayOf.cls = R_R ∧ y_R_dayOf.cls ≠ "java/lang/invoke/MethodHandle" ∧ y_R_dayOf.cls ≠ "java/lang/invoke/VarHandle" ∧ (parseMethodDescriptor y_R_dayOf.desc).map (fun d => d.parameters.length) = some 1 := by decide +kernel
abbrev rm_R_dayOf : Room := { frames := 0, cells := 0, slots := 0, locals := 0 }
abbrev y_L_performUpTo : MethodName := ⟨"PlainLibrary", "performUpTo", "(J)V"⟩
abbrev ws_L_performUpTo : List Cond := Cond.code y_L_performUpTo prog_1_method_20_code 4 (Option.none : Option FieldType) :: tb
theorem hs_L_performUpTo : y_L_performUpTo.cls ≠ "java/lang/invoke/MethodHandle" ∧ y_L_performUpTo.cls ≠ "java/lang/invoke/VarHandle" ∧ (parseMethodDescriptor y_L_performUpTo.desc).map (fun d => d.parameters.length) = some 1 := by decide +kernel
theorem hd_L_performUpTo : y_L_performUpTo.cls = R_L ∧ y_L_performUpTo.cls ≠ "java/lang/invoke/MethodHandle" ∧ y_L_performUpTo.cls ≠ "java/lang/invoke/VarHandle" ∧ (parseMethodDescriptor y_L_performUpTo.desc).map (fun d => d.parameters.length) = some 1 := by decide +kernel
abbrev rm_L_performUpTo : Room := { frames := 5, cells := 0, slots := 0, locals := 123 }
abbrev y_S_recordOf : MethodName := ⟨"PlainLibrary$Shelves", "recordOf", "(I)I"⟩
abbrev ws_S_recordOf : List Cond := Cond.code y_S_recordOf prog_3_method_4_code 2 (Option.some FieldType.int) :: tb
theorem hs_S_recordOf : y_S_recordOf.cls ≠ "java/lang/invoke/MethodHandle" ∧ y_S_recordOf.cls ≠ "java/lang/invoke/VarHandle" ∧ (parseMethodDescriptor y_S_recordOf.desc).map (fun d => d.parameters.length) = some 1 := by decide +kernel
theorem hd_S_recordOf : y_S_recordOf.cls = R_S ∧ y_S_recordOf.cls ≠ "java/lang/invoke/MethodHandle" ∧ y_S_recordOf.cls ≠ "java/lang/invoke/VarHandle" ∧ (parseMethodDescriptor y_S_recordOf.desc).map (fun d => d.parameters.length) = some 1 := by decide +kernel
abbrev rm_S_recordOf : Room := { frames := 0, cells := 0, slots := 0, locals := 0 }
abbrev y_S_personWith : MethodName := ⟨"PlainLibrary$Shelves", "personWith", "(I)I"⟩
abbrev ws_S_personWith : List Cond := Cond.code y_S_personWith prog_3_method_5_code 2 (Option.some FieldType.int) :: tb
theorem hs_S_personWith : y_S_personWith.cls ≠ "java/lang/invoke/MethodHandle" ∧ y_S_personWith.cls ≠ "java/lang/invoke/VarHandle" ∧ (parseMethodDescriptor y_S_personWith.desc).map (fun d => d.parameters.length) = some 1 := by decide +kernel
theorem hd_S_personWith : y_S_personWith.cls = R_S ∧ y_S_personWith.cls ≠ "java/lang/invoke/MethodHandle" ∧ y_S_personWith.cls ≠ "java/lang/invoke/VarHandle" ∧ (parseMethodDescriptor y_S_personWith.desc).map (fun d => d.parameters.length) = some 1 := by decide +kernel
abbrev rm_S_personWith : Room := { frames := 0, cells := 0, slots := 0, locals := 0 }
abbrev y_S_classOf : MethodName := ⟨"PlainLibrary$Shelves", "classOf", "(I)I"⟩
abbrev ws_S_classOf : List Cond := Cond.code y_S_classOf prog_3_method_6_code 2 (Option.some FieldType.int) :: tb
theorem hs_S_classOf : y_S_classOf.cls ≠ "java/lang/invoke/MethodHandle" ∧ y_S_classOf.cls ≠ "java/lang/invoke/VarHandle" ∧ (parseMethodDescriptor y_S_classOf.desc).map (fun d => d.parameters.length) = some 1 := by decide +kernel
theorem hd_S_classOf : y_S_classOf.cls = R_S ∧ y_S_classOf.cls ≠ "java/lang/invoke/MethodHandle" ∧ y_S_classOf.cls ≠ "java/lang/invoke/VarHandle" ∧ (parseMethodDescriptor y_S_classOf.desc).map (fun d => d.parameters.length) = some 1 := by decide +kernel
abbrev rm_S_classOf : Room := { frames := 0, cells := 0, slots := 0, locals := 0 }
abbrev y_S_copiesThereOf : MethodName := ⟨"PlainLibrary$Shelves", "copiesThereOf", "(I)I"⟩
abbrev ws_S_copiesThereOf : List Cond := Cond.code y_S_copiesThereOf prog_3_method_7_code 4 (Option.some FieldType.int) :: tb
theorem hs_S_copiesThereOf : y_S_copiesThereOf.cls ≠ "java/lang/invoke/MethodHandle" ∧ y_S_copiesThereOf.cls ≠ "java/lang/invoke/VarHandle" ∧ (parseMethodDescriptor y_S_copiesThereOf.desc).map (fun d => d.parameters.length) = some 1 := by decide +kernel
theorem hd_S_copiesThereOf : y_S_copiesThereOf.cls = R_S ∧ y_S_copiesThereOf.cls ≠ "java/lang/invoke/MethodHandle" ∧ y_S_copiesThereOf.cls ≠ "java/lang/invoke/VarHandle" ∧ (parseMethodDescriptor y_S_copiesThereOf.desc).map (fun d => d.parameters.length) = some 1 := by decide +kernel
abbrev rm_S_copiesThereOf : Room := { frames := 0, cells := 0, slots := 0, locals := 0 }
abbrev y_L_state : MethodName := ⟨"PlainLibrary", "state", "(IIJ)I"⟩
abbrev ws_L_state : List Cond := Cond.code y_L_state prog_1_method_6_code 5 (Option.some FieldType.int) :: tb
theorem hs_L_state : y_L_state.cls ≠ "java/lang/invoke/MethodHandle" ∧ y_L_state.cls ≠ "java/lang/invoke/VarHandle" ∧ (parseMethodDescriptor y_L_state.desc).map (fun d => d.parameters.length) = some 3 := by decide +kernel
theorem hd_L_state : y_L_state.cls = R_L ∧ y_L_state.cls ≠ "java/lang/invoke/MethodHandle" ∧ y_L_state.cls ≠ "java/lang/invoke/VarHandle" ∧ (parseMethodDescriptor y_L_state.desc).map (fun d => d.parameters.length) = some 3 := by decide +kernel
abbrev rm_L_state : Room := { frames := 6, cells := 0, slots := 0, locals := 146 }
abbrev y_L_performAll : MethodName := ⟨"PlainLibrary", "performAll", "()V"⟩
abbrev ws_L_performAll : List Cond := Cond.code y_L_performAll prog_1_method_19_code 1 (Option.none : Option FieldType) :: tb
theorem hs_L_performAll : y_L_performAll.cls ≠ "java/lang/invoke/MethodHandle" ∧ y_L_performAll.cls ≠ "java/lang/invoke/VarHandle" ∧ (parseMethodDescriptor y_L_performAll.desc).map (fun d => d.parameters.length) = some 0 := by decide +kernel
theorem hd_L_performAll : y_L_performAll.cls = R_L ∧ y_L_performAll.cls ≠ "java/lang/invoke/MethodHandle" ∧ y_L_performAll.cls ≠ "java/lang/invoke/VarHandle" ∧ (parseMethodDescriptor y_L_performAll.desc).map (fun d => d.parameters.length) = some 0 := by decide +kernel
abbrev rm_L_performAll : Room := { frames := 6, cells := 0, slots := 0, locals := 146 }
abbrev y_S_headingAt : MethodName := ⟨"PlainLibrary$Shelves", "headingAt", "(II)I"⟩
abbrev ws_S_headingAt : List Cond := Cond.code y_S_headingAt prog_3_method_10_code 5 (Option.some FieldType.int) :: tb
theorem hs_S_headingAt : y_S_headingAt.cls ≠ "java/lang/invoke/MethodHandle" ∧ y_S_headingAt.cls ≠ "java/lang/invoke/VarHandle" ∧ (parseMethodDescriptor y_S_headingAt.desc).map (fun d => d.parameters.length) = some 2 := by decide +kernel
theorem hd_S_headingAt : y_S_headingAt.cls = R_S ∧ y_S_headingAt.cls ≠ "java/lang/invoke/MethodHandle" ∧ y_S_headingAt.cls ≠ "java/lang/invoke/VarHandle" ∧ (parseMethodDescriptor y_S_headingAt.desc).map (fun d => d.parameters.length) = some 2 := by decide +kernel
abbrev rm_S_headingAt : Room := { frames := 2, cells := 0, slots := 0, locals := 43 }
abbrev y_L_heading : MethodName := ⟨"PlainLibrary", "heading", "(II)I"⟩
abbrev ws_L_heading : List Cond := Cond.code y_L_heading prog_1_method_7_code 3 (Option.some FieldType.int) :: tb
theorem hs_L_heading : y_L_heading.cls ≠ "java/lang/invoke/MethodHandle" ∧ y_L_heading.cls ≠ "java/lang/invoke/VarHandle" ∧ (parseMethodDescriptor y_L_heading.desc).map (fun d => d.parameters.length) = some 2 := by decide +kernel
theorem hd_L_heading : y_L_heading.cls = R_L ∧ y_L_heading.cls ≠ "java/lang/invoke/MethodHandle" ∧ y_L_heading.cls ≠ "java/lang/invoke/VarHandle" ∧ (parseMethodDescriptor y_L_heading.desc).map (fun d => d.parameters.length) = some 2 := by decide +kernel
abbrev rm_L_heading : Room := { frames := 7, cells := 0, slots := 0, locals := 166 }
abbrev y_L_question : MethodName := ⟨"PlainLibrary", "question", "(II)I"⟩
abbrev ws_L_question : List Cond := Cond.code y_L_question prog_1_method_8_code 4 (Option.some FieldType.int) :: tb
theorem hs_L_question : y_L_question.cls ≠ "java/lang/invoke/MethodHandle" ∧ y_L_question.cls ≠ "java/lang/invoke/VarHandle" ∧ (parseMethodDescriptor y_L_question.desc).map (fun d => d.parameters.length) = some 2 := by decide +kernel
theorem hd_L_question : y_L_question.cls = R_L ∧ y_L_question.cls ≠ "java/lang/invoke/MethodHandle" ∧ y_L_question.cls ≠ "java/lang/invoke/VarHandle" ∧ (parseMethodDescriptor y_L_question.desc).map (fun d => d.parameters.length) = some 2 := by decide +kernel
abbrev rm_L_question : Room := { frames := 7, cells := 0, slots := 0, locals := 166 }
abbrev y_L_hit : MethodName := ⟨"PlainLibrary", "hit", "(I)I"⟩
abbrev ws_L_hit : List Cond := Cond.code y_L_hit prog_1_method_9_code 2 (Option.some FieldType.int) :: tb
theorem hs_L_hit : y_L_hit.cls ≠ "java/lang/invoke/MethodHandle" ∧ y_L_hit.cls ≠ "java/lang/invoke/VarHandle" ∧ (parseMethodDescriptor y_L_hit.desc).map (fun d => d.parameters.length) = some 1 := by decide +kernel
theorem hd_L_hit : y_L_hit.cls = R_L ∧ y_L_hit.cls ≠ "java/lang/invoke/MethodHandle" ∧ y_L_hit.cls ≠ "java/lang/invoke/VarHandle" ∧ (parseMethodDescriptor y_L_hit.desc).map (fun d => d.parameters.length) = some 1 := by decide +kernel
abbrev rm_L_hit : Room := { frames := 0, cells := 0, slots := 0, locals := 0 }
abbrev y_S_dueDayOf : MethodName := ⟨"PlainLibrary$Shelves", "dueDayOf", "(I)J"⟩
abbrev ws_S_dueDayOf : List Cond := Cond.code y_S_dueDayOf prog_3_method_11_code 2 (Option.some FieldType.long) :: tb
theorem hs_S_dueDayOf : y_S_dueDayOf.cls ≠ "java/lang/invoke/MethodHandle" ∧ y_S_dueDayOf.cls ≠ "java/lang/invoke/VarHandle" ∧ (parseMethodDescriptor y_S_dueDayOf.desc).map (fun d => d.parameters.length) = some 1 := by decide +kernel
theorem hd_S_dueDayOf : y_S_dueDayOf.cls = R_S ∧ y_S_dueDayOf.cls ≠ "java/lang/invoke/MethodHandle" ∧ y_S_dueDayOf.cls ≠ "java/lang/invoke/VarHandle" ∧ (parseMethodDescriptor y_S_dueDayOf.desc).map (fun d => d.parameters.length) = some 1 := by decide +kernel
abbrev rm_S_dueDayOf : Room := { frames := 0, cells := 0, slots := 0, locals := 0 }
abbrev y_L_due : MethodName := ⟨"PlainLibrary", "due", "(I)J"⟩
abbrev ws_L_due : List Cond := Cond.code y_L_due prog_1_method_10_code 2 (Option.some FieldType.long) :: tb
theorem hs_L_due : y_L_due.cls ≠ "java/lang/invoke/MethodHandle" ∧ y_L_due.cls ≠ "java/lang/invoke/VarHandle" ∧ (parseMethodDescriptor y_L_due.desc).map (fun d => d.parameters.length) = some 1 := by decide +kernel
theorem hd_L_due : y_L_due.cls = R_L ∧ y_L_due.cls ≠ "java/lang/invoke/MethodHandle" ∧ y_L_due.cls ≠ "java/lang/invoke/VarHandle" ∧ (parseMethodDescriptor y_L_due.desc).map (fun d => d.parameters.length) = some 1 := by decide +kernel
abbrev rm_L_due : Room := { frames := 7, cells := 0, slots := 0, locals := 166 }
abbrev y_L_queue : MethodName := ⟨"PlainLibrary", "queue", "(II)I"⟩
abbrev ws_L_queue : List Cond := Cond.code y_L_queue prog_1_method_11_code 3 (Option.some FieldType.int) :: tb
theorem hs_L_queue : y_L_queue.cls ≠ "java/lang/invoke/MethodHandle" ∧ y_L_queue.cls ≠ "java/lang/invoke/VarHandle" ∧ (parseMethodDescriptor y_L_queue.desc).map (fun d => d.parameters.length) = some 2 := by decide +kernel
theorem hd_L_queue : y_L_queue.cls = R_L ∧ y_L_queue.cls ≠ "java/lang/invoke/MethodHandle" ∧ y_L_queue.cls ≠ "java/lang/invoke/VarHandle" ∧ (parseMethodDescriptor y_L_queue.desc).map (fun d => d.parameters.length) = some 2 := by decide +kernel
abbrev rm_L_queue : Room := { frames := 7, cells := 0, slots := 0, locals := 166 }
abbrev y_S_storesWith : MethodName := ⟨"PlainLibrary$Shelves", "storesWith", "(II)I"⟩
abbrev ws_S_storesWith : List Cond := Cond.code y_S_storesWith prog_3_method_14_code 5 (Option.some FieldType.int) :: tb
theorem hs_S_storesWith : y_S_storesWith.cls ≠ "java/lang/invoke/MethodHandle" ∧ y_S_storesWith.cls ≠ "java/lang/invoke/VarHandle" ∧ (parseMethodDescriptor y_S_storesWith.desc).map (fun d => d.parameters.length) = some 2 := by decide +kernel
theorem hd_S_storesWith : y_S_storesWith.cls = R_S ∧ y_S_storesWith.cls ≠ "java/lang/invoke/MethodHandle" ∧ y_S_storesWith.cls ≠ "java/lang/invoke/VarHandle" ∧ (parseMethodDescriptor y_S_storesWith.desc).map (fun d => d.parameters.length) = some 2 := by decide +kernel
abbrev rm_S_storesWith : Room := { frames := 1, cells := 0, slots := 0, locals := 21 }
abbrev y_S_commonSumOf : MethodName := ⟨"PlainLibrary$Shelves", "commonSumOf", "(I)I"⟩
abbrev ws_S_commonSumOf : List Cond := Cond.code y_S_commonSumOf prog_3_method_13_code 4 (Option.some FieldType.int) :: tb
theorem hs_S_commonSumOf : y_S_commonSumOf.cls ≠ "java/lang/invoke/MethodHandle" ∧ y_S_commonSumOf.cls ≠ "java/lang/invoke/VarHandle" ∧ (parseMethodDescriptor y_S_commonSumOf.desc).map (fun d => d.parameters.length) = some 1 := by decide +kernel
theorem hd_S_commonSumOf : y_S_commonSumOf.cls = R_S ∧ y_S_commonSumOf.cls ≠ "java/lang/invoke/MethodHandle" ∧ y_S_commonSumOf.cls ≠ "java/lang/invoke/VarHandle" ∧ (parseMethodDescriptor y_S_commonSumOf.desc).map (fun d => d.parameters.length) = some 1 := by decide +kernel
abbrev rm_S_commonSumOf : Room := { frames := 2, cells := 0, slots := 0, locals := 45 }
abbrev y_L_poll : MethodName := ⟨"PlainLibrary", "poll", "(I)I"⟩
abbrev ws_L_poll : List Cond := Cond.code y_L_poll prog_1_method_12_code 2 (Option.some FieldType.int) :: tb
theorem hs_L_poll : y_L_poll.cls ≠ "java/lang/invoke/MethodHandle" ∧ y_L_poll.cls ≠ "java/lang/invoke/VarHandle" ∧ (parseMethodDescriptor y_L_poll.desc).map (fun d => d.parameters.length) = some 1 := by decide +kernel
theorem hd_L_poll : y_L_poll.cls = R_L ∧ y_L_poll.cls ≠ "java/lang/invoke/MethodHandle" ∧ y_L_poll.cls ≠ "java/lang/invoke/VarHandle" ∧ (parseMethodDescriptor y_L_poll.desc).map (fun d => d.parameters.length) = some 1 := by decide +kernel
abbrev rm_L_poll : Room := { frames := 7, cells := 0, slots := 0, locals := 166 }
abbrev y_R_copyGivenBackBy : MethodName := ⟨"PlainLibrary$Row", "copyGivenBackBy", "(I)I"⟩
abbrev ws_R_copyGivenBackBy : List Cond := Cond.code y_R_copyGivenBackBy prog_2_method_4_code 2 (Option.some FieldType.int) :: tb
theorem hs_R_copyGivenBackBy : y_R_copyGivenBackBy.cls ≠ "java/lang/invoke/MethodHandle" ∧ y_R_copyGivenBackBy.cls ≠ "java/lang/invoke/VarHandle" ∧ (parseMethodDescriptor y_R_copyGivenBackBy.desc).map (fun d => d.parameters.length) = some 1 := by decide +kernel
theorem hd_R_copyGivenBackBy : y_R_copyGivenBackBy.cls = R_R ∧ y_R_copyGivenBackBy.cls ≠ "java/lang/invoke/MethodHandle" ∧ y_R_copyGivenBackBy.cls ≠ "java/lang/invoke/VarHandle" ∧ (parseMethodDescriptor y_R_copyGivenBackBy.desc).map (fun d => d.parameters.length) = some 1 := by decide +kernel
abbrev rm_R_copyGivenBackBy : Room := { frames := 0, cells := 0, slots := 0, locals := 0 }
abbrev y_L_kept : MethodName := ⟨"PlainLibrary", "kept", "(IIJI)I"⟩
abbrev ws_L_kept : List Cond := Cond.code y_L_kept prog_1_method_13_code 11 (Option.some FieldType.int) :: tb
theorem hs_L_kept : y_L_kept.cls ≠ "java/lang/invoke/MethodHandle" ∧ y_L_kept.cls ≠ "java/lang/invoke/VarHandle" ∧ (parseMethodDescriptor y_L_kept.desc).map (fun d => d.parameters.length) = some 4 := by decide +kernel
theorem hd_L_kept : y_L_kept.cls = R_L ∧ y_L_kept.cls ≠ "java/lang/invoke/MethodHandle" ∧ y_L_kept.cls ≠ "java/lang/invoke/VarHandle" ∧ (parseMethodDescriptor y_L_kept.desc).map (fun d => d.parameters.length) = some 4 := by decide +kernel
abbrev rm_L_kept : Room := { frames := 5, cells := 0, slots := 0, locals := 123 }
abbrev y_S_copiesWith : MethodName := ⟨"PlainLibrary$Shelves", "copiesWith", "(I)I"⟩
abbrev ws_S_copiesWith : List Cond := Cond.code y_S_copiesWith prog_3_method_8_code 4 (Option.some FieldType.int) :: tb
theorem hs_S_copiesWith : y_S_copiesWith.cls ≠ "java/lang/invoke/MethodHandle" ∧ y_S_copiesWith.cls ≠ "java/lang/invoke/VarHandle" ∧ (parseMethodDescriptor y_S_copiesWith.desc).map (fun d => d.parameters.length) = some 1 := by decide +kernel
theorem hd_S_copiesWith : y_S_copiesWith.cls = R_S ∧ y_S_copiesWith.cls ≠ "java/lang/invoke/MethodHandle" ∧ y_S_copiesWith.cls ≠ "java/lang/invoke/VarHandle" ∧ (parseMethodDescriptor y_S_copiesWith.desc).map (fun d => d.parameters.length) = some 1 := by decide +kernel
abbrev rm_S_copiesWith : Room := { frames := 0, cells := 0, slots := 0, locals := 0 }
abbrev y_L_most : MethodName := ⟨"PlainLibrary", "most", "(I)I"⟩
abbrev ws_L_most : List Cond := Cond.code y_L_most prog_1_method_14_code 4 (Option.some FieldType.int) :: tb
theorem hs_L_most : y_L_most.cls ≠ "java/lang/invoke/MethodHandle" ∧ y_L_most.cls ≠ "java/lang/invoke/VarHandle" ∧ (parseMethodDescriptor y_L_most.desc).map (fun d => d.parameters.length) = some 1 := by decide +kernel
theorem hd_L_most : y_L_most.cls = R_L ∧ y_L_most.cls ≠ "java/lang/invoke/MethodHandle" ∧ y_L_most.cls ≠ "java/lang/invoke/VarHandle" ∧ (parseMethodDescriptor y_L_most.desc).map (fun d => d.parameters.length) = some 1 := by decide +kernel
abbrev rm_L_most : Room := { frames := 5, cells := 0, slots := 0, locals := 123 }
abbrev y_L_firstVoidWithout : MethodName := ⟨"PlainLibrary", "firstVoidWithout", "(II)I"⟩
abbrev ws_L_firstVoidWithout : List Cond := Cond.code y_L_firstVoidWithout prog_1_method_21_code 4 (Option.some FieldType.int) :: tb
theorem hs_L_firstVoidWithout : y_L_firstVoidWithout.cls ≠ "java/lang/invoke/MethodHandle" ∧ y_L_firstVoidWithout.cls ≠ "java/lang/invoke/VarHandle" ∧ (parseMethodDescriptor y_L_firstVoidWithout.desc).map (fun d => d.parameters.length) = some 2 := by decide +kernel
theorem hd_L_firstVoidWithout : y_L_firstVoidWithout.cls = R_L ∧ y_L_firstVoidWithout.cls ≠ "java/lang/invoke/MethodHandle" ∧ y_L_firstVoidWithout.cls ≠ "java/lang/invoke/VarHandle" ∧ (parseMethodDescriptor y_L_firstVoidWithout.desc).map (fun d => d.parameters.length) = some 2 := by decide +kernel
abbrev rm_L_firstVoidWithout : Room := { frames := 5, cells := 0, slots := 0, locals := 123 }
abbrev y_L_oneLessIsEnough : MethodName := ⟨"PlainLibrary", "oneLessIsEnough", "(I)Z"⟩
abbrev ws_L_oneLessIsEnough : List Cond := Cond.code y_L_oneLessIsEnough prog_1_method_22_code 3 (Option.some FieldType.boolean) :: tb
theorem hs_L_oneLessIsEnough : y_L_oneLessIsEnough.cls ≠ "java/lang/invoke/MethodHandle" ∧ y_L_oneLessIsEnough.cls ≠ "java/lang/invoke/VarHandle" ∧ (parseMethodDescriptor y_L_oneLessIsEnough.desc).map (fun d => d.parameters.length) = some 1 := by decide +kernel
theorem hd_L_oneLessIsEnough : y_L_oneLessIsEnough.cls = R_L ∧ y_L_oneLessIsEnough.cls ≠ "java/lang/invoke/MethodHandle" ∧ y_L_oneLessIsEnough.cls ≠ "java/lang/invoke/VarHandle" ∧ (parseMethodDescriptor y_L_oneLessIsEnough.desc).map (fun d => d.parameters.length) = some 1 := by decide +kernel
abbrev rm_L_oneLessIsEnough : Room := { frames := 6, cells := 0, slots := 0, locals := 146 }
abbrev y_L_twoLessAreEnough : MethodName := ⟨"PlainLibrary", "twoLessAreEnough", "(I)Z"⟩
abbrev ws_L_twoLessAreEnough : List Cond := Cond.code y_L_twoLessAreEnough prog_1_method_23_code 5 (Option.some FieldType.boolean) :: tb
theorem hs_L_twoLessAreEnough : y_L_twoLessAreEnough.cls ≠ "java/lang/invoke/MethodHandle" ∧ y_L_twoLessAreEnough.cls ≠ "java/lang/invoke/VarHandle" ∧ (parseMethodDescriptor y_L_twoLessAreEnough.desc).map (fun d => d.parameters.length) = some 1 := by decide +kernel
theorem hd_L_twoLessAreEnough : y_L_twoLessAreEnough.cls = R_L ∧ y_L_twoLessAreEnough.cls ≠ "java/lang/invoke/MethodHandle" ∧ y_L_twoLessAreEnough.cls ≠ "java/lang/invoke/VarHandle" ∧ (parseMethodDescriptor y_L_twoLessAreEnough.desc).map (fun d => d.parameters.length) = some 1 := by decide +kernel
abbrev rm_L_twoLessAreEnough : Room := { frames := 6, cells := 0, slots := 0, locals := 146 }
abbrev y_L_least : MethodName := ⟨"PlainLibrary", "least", "()I"⟩
abbrev ws_L_least : List Cond := Cond.code y_L_least prog_1_method_15_code 2 (Option.some FieldType.int) :: tb
theorem hs_L_least : y_L_least.cls ≠ "java/lang/invoke/MethodHandle" ∧ y_L_least.cls ≠ "java/lang/invoke/VarHandle" ∧ (parseMethodDescriptor y_L_least.desc).map (fun d => d.parameters.length) = some 0 := by decide +kernel
theorem hd_L_least : y_L_least.cls = R_L ∧ y_L_least.cls ≠ "java/lang/invoke/MethodHandle" ∧ y_L_least.cls ≠ "java/lang/invoke/VarHandle" ∧ (parseMethodDescriptor y_L_least.desc).map (fun d => d.parameters.length) = some 0 := by decide +kernel
abbrev rm_L_least : Room := { frames := 7, cells := 0, slots := 0, locals := 170 }
abbrev y_M_init : MethodName := ⟨"PlainLibraryModel", "<init>", "()V"⟩
abbrev ws_M_init : List Cond := Cond.code y_M_init prog_5_method_1_code 1 (Option.none : Option FieldType) :: tb
theorem hs_M_init : y_M_init.cls ≠ "java/lang/invoke/MethodHandle" ∧ y_M_init.cls ≠ "java/lang/invoke/VarHandle" ∧ (parseMethodDescriptor y_M_init.desc).map (fun d => d.parameters.length) = some 0 := by decide +kernel
abbrev rm_M_init : Room := { frames := 1, cells := 16, slots := 3981, locals := 12 }
abbrev y_M_in : MethodName := ⟨"PlainLibraryModel", "in", "(JJJ)Z"⟩
abbrev ws_M_in : List Cond := Cond.code y_M_in prog_5_method_3_code 6 (Option.some FieldType.boolean) :: tb
theorem hs_M_in : y_M_in.cls ≠ "java/lang/invoke/MethodHandle" ∧ y_M_in.cls ≠ "java/lang/invoke/VarHandle" ∧ (parseMethodDescriptor y_M_in.desc).map (fun d => d.parameters.length) = some 3 := by decide +kernel
abbrev rm_M_in : Room := { frames := 0, cells := 0, slots := 0, locals := 0 }
abbrev y_M_can : MethodName := ⟨"PlainLibraryModel", "can", "(IJJ)Z"⟩
abbrev ws_M_can : List Cond := Cond.code y_M_can prog_5_method_4_code 5 (Option.some FieldType.boolean) :: tb
theorem hs_M_can : y_M_can.cls ≠ "java/lang/invoke/MethodHandle" ∧ y_M_can.cls ≠ "java/lang/invoke/VarHandle" ∧ (parseMethodDescriptor y_M_can.desc).map (fun d => d.parameters.length) = some 3 := by decide +kernel
abbrev rm_M_can : Room := { frames := 1, cells := 0, slots := 0, locals := 25 }
abbrev y_M_event : MethodName := ⟨"PlainLibraryModel", "event", "(IJJJ)I"⟩
abbrev ws_M_event : List Cond := Cond.code y_M_event prog_5_method_5_code 9 (Option.some FieldType.int) :: tb
theorem hs_M_event : y_M_event.cls ≠ "java/lang/invoke/MethodHandle" ∧ y_M_event.cls ≠ "java/lang/invoke/VarHandle" ∧ (parseMethodDescriptor y_M_event.desc).map (fun d => d.parameters.length) = some 4 := by decide +kernel
theorem hd_M_event : y_M_event.cls = R_M ∧ y_M_event.cls ≠ "java/lang/invoke/MethodHandle" ∧ y_M_event.cls ≠ "java/lang/invoke/VarHandle" ∧ (parseMethodDescriptor y_M_event.desc).map (fun d => d.parameters.length) = some 4 := by decide +kernel
abbrev rm_M_event : Room := { frames := 2, cells := 0, slots := 0, locals := 49 }
abbrev y_M_clear : MethodName := ⟨"PlainLibraryModel", "clear", "()V"⟩
abbrev ws_M_clear : List Cond := Cond.code y_M_clear prog_5_method_6_code 2 (Option.none : Option FieldType) :: tb
theorem hs_M_clear : y_M_clear.cls ≠ "java/lang/invoke/MethodHandle" ∧ y_M_clear.cls ≠ "java/lang/invoke/VarHandle" ∧ (parseMethodDescriptor y_M_clear.desc).map (fun d => d.parameters.length) = some 0 := by decide +kernel
theorem hd_M_clear : y_M_clear.cls = R_M ∧ y_M_clear.cls ≠ "java/lang/invoke/MethodHandle" ∧ y_M_clear.cls ≠ "java/lang/invoke/VarHandle" ∧ (parseMethodDescriptor y_M_clear.desc).map (fun d => d.parameters.length) = some 0 := by decide +kernel
abbrev rm_M_clear : Room := { frames := 0, cells := 0, slots := 0, locals := 0 }
abbrev y_M_placeOf : MethodName := ⟨"PlainLibraryModel", "placeOf", "(II)I"⟩
abbrev ws_M_placeOf : List Cond := Cond.code y_M_placeOf prog_5_method_7_code 4 (Option.some FieldType.int) :: tb
theorem hs_M_placeOf : y_M_placeOf.cls ≠ "java/lang/invoke/MethodHandle" ∧ y_M_placeOf.cls ≠ "java/lang/invoke/VarHandle" ∧ (parseMethodDescriptor y_M_placeOf.desc).map (fun d => d.parameters.length) = some 2 := by decide +kernel
theorem hd_M_placeOf : y_M_placeOf.cls = R_M ∧ y_M_placeOf.cls ≠ "java/lang/invoke/MethodHandle" ∧ y_M_placeOf.cls ≠ "java/lang/invoke/VarHandle" ∧ (parseMethodDescriptor y_M_placeOf.desc).map (fun d => d.parameters.length) = some 2 := by decide +kernel
abbrev rm_M_placeOf : Room := { frames := 0, cells := 0, slots := 0, locals := 0 }
abbrev y_M_leave : MethodName := ⟨"PlainLibraryModel", "leave", "(II)Z"⟩
abbrev ws_M_leave : List Cond := Cond.code y_M_leave prog_5_method_8_code 5 (Option.some FieldType.boolean) :: tb
theorem hs_M_leave : y_M_leave.cls ≠ "java/lang/invoke/MethodHandle" ∧ y_M_leave.cls ≠ "java/lang/invoke/VarHandle" ∧ (parseMethodDescriptor y_M_leave.desc).map (fun d => d.parameters.length) = some 2 := by decide +kernel
theorem hd_M_leave : y_M_leave.cls = R_M ∧ y_M_leave.cls ≠ "java/lang/invoke/MethodHandle" ∧ y_M_leave.cls ≠ "java/lang/invoke/VarHandle" ∧ (parseMethodDescriptor y_M_leave.desc).map (fun d => d.parameters.length) = some 2 := by decide +kernel
abbrev rm_M_leave : Room := { frames := 1, cells := 0, slots := 0, locals := 23 }
abbrev y_M_stand : MethodName := ⟨"PlainLibraryModel", "stand", "(II)Z"⟩
abbrev ws_M_stand : List Cond := Cond.code y_M_stand prog_5_method_9_code 3 (Option.some FieldType.boolean) :: tb
theorem hs_M_stand : y_M_stand.cls ≠ "java/lang/invoke/MethodHandle" ∧ y_M_stand.cls ≠ "java/lang/invoke/VarHandle" ∧ (parseMethodDescriptor y_M_stand.desc).map (fun d => d.parameters.length) = some 2 := by decide +kernel
theorem hd_M_stand : y_M_stand.cls = R_M ∧ y_M_stand.cls ≠ "java/lang/invoke/MethodHandle" ∧ y_M_stand.cls ≠ "java/lang/invoke/VarHandle" ∧ (parseMethodDescriptor y_M_stand.desc).map (fun d => d.parameters.length) = some 2 := by decide +kernel
abbrev rm_M_stand : Room := { frames := 1, cells := 0, slots := 0, locals := 23 }
abbrev y_M_lend : MethodName := ⟨"PlainLibraryModel", "lend", "(IIJ)Z"⟩
abbrev ws_M_lend : List Cond := Cond.code y_M_lend prog_5_method_10_code 7 (Option.some FieldType.boolean) :: tb
theorem hs_M_lend : y_M_lend.cls ≠ "java/lang/invoke/MethodHandle" ∧ y_M_lend.cls ≠ "java/lang/invoke/VarHandle" ∧ (parseMethodDescriptor y_M_lend.desc).map (fun d => d.parameters.length) = some 3 := by decide +kernel
theorem hd_M_lend : y_M_lend.cls = R_M ∧ y_M_lend.cls ≠ "java/lang/invoke/MethodHandle" ∧ y_M_lend.cls ≠ "java/lang/invoke/VarHandle" ∧ (parseMethodDescriptor y_M_lend.desc).map (fun d => d.parameters.length) = some 3 := by decide +kernel
abbrev rm_M_lend : Room := { frames := 2, cells := 0, slots := 0, locals := 47 }
abbrev y_M_sets : MethodName := ⟨"PlainLibraryModel", "sets", "(IZ)Z"⟩
abbrev ws_M_sets : List Cond := Cond.code y_M_sets prog_5_method_11_code 4 (Option.some FieldType.boolean) :: tb
theorem hs_M_sets : y_M_sets.cls ≠ "java/lang/invoke/MethodHandle" ∧ y_M_sets.cls ≠ "java/lang/invoke/VarHandle" ∧ (parseMethodDescriptor y_M_sets.desc).map (fun d => d.parameters.length) = some 2 := by decide +kernel
theorem hd_M_sets : y_M_sets.cls = R_M ∧ y_M_sets.cls ≠ "java/lang/invoke/MethodHandle" ∧ y_M_sets.cls ≠ "java/lang/invoke/VarHandle" ∧ (parseMethodDescriptor y_M_sets.desc).map (fun d => d.parameters.length) = some 2 := by decide +kernel
abbrev rm_M_sets : Room := { frames := 0, cells := 0, slots := 0, locals := 0 }
abbrev y_M_stores : MethodName := ⟨"PlainLibraryModel", "stores", "(II)Z"⟩
abbrev ws_M_stores : List Cond := Cond.code y_M_stores prog_5_method_12_code 4 (Option.some FieldType.boolean) :: tb
theorem hs_M_stores : y_M_stores.cls ≠ "java/lang/invoke/MethodHandle" ∧ y_M_stores.cls ≠ "java/lang/invoke/VarHandle" ∧ (parseMethodDescriptor y_M_stores.desc).map (fun d => d.parameters.length) = some 2 := by decide +kernel
theorem hd_M_stores : y_M_stores.cls = R_M ∧ y_M_stores.cls ≠ "java/lang/invoke/MethodHandle" ∧ y_M_stores.cls ≠ "java/lang/invoke/VarHandle" ∧ (parseMethodDescriptor y_M_stores.desc).map (fun d => d.parameters.length) = some 2 := by decide +kernel
abbrev rm_M_stores : Room := { frames := 0, cells := 0, slots := 0, locals := 0 }
abbrev y_M_does : MethodName := ⟨"PlainLibraryModel", "does", "(I)Z"⟩
abbrev ws_M_does : List Cond := Cond.code y_M_does prog_5_method_13_code 4 (Option.some FieldType.boolean) :: tb
theorem hs_M_does : y_M_does.cls ≠ "java/lang/invoke/MethodHandle" ∧ y_M_does.cls ≠ "java/lang/invoke/VarHandle" ∧ (parseMethodDescriptor y_M_does.desc).map (fun d => d.parameters.length) = some 1 := by decide +kernel
theorem hd_M_does : y_M_does.cls = R_M ∧ y_M_does.cls ≠ "java/lang/invoke/MethodHandle" ∧ y_M_does.cls ≠ "java/lang/invoke/VarHandle" ∧ (parseMethodDescriptor y_M_does.desc).map (fun d => d.parameters.length) = some 1 := by decide +kernel
abbrev rm_M_does : Room := { frames := 3, cells := 0, slots := 0, locals := 73 }
abbrev y_M_go : MethodName := ⟨"PlainLibraryModel", "go", "(JIII)V"⟩
abbrev ws_M_go : List Cond := Cond.code y_M_go prog_5_method_14_code 9 (Option.none : Option FieldType) :: tb
theorem hs_M_go : y_M_go.cls ≠ "java/lang/invoke/MethodHandle" ∧ y_M_go.cls ≠ "java/lang/invoke/VarHandle" ∧ (parseMethodDescriptor y_M_go.desc).map (fun d => d.parameters.length) = some 4 := by decide +kernel
theorem hd_M_go : y_M_go.cls = R_M ∧ y_M_go.cls ≠ "java/lang/invoke/MethodHandle" ∧ y_M_go.cls ≠ "java/lang/invoke/VarHandle" ∧ (parseMethodDescriptor y_M_go.desc).map (fun d => d.parameters.length) = some 4 := by decide +kernel
abbrev rm_M_go : Room := { frames := 4, cells := 0, slots := 0, locals := 96 }
abbrev y_M_all : MethodName := ⟨"PlainLibraryModel", "all", "()V"⟩
abbrev ws_M_all : List Cond := Cond.code y_M_all prog_5_method_15_code 1 (Option.none : Option FieldType) :: tb
theorem hs_M_all : y_M_all.cls ≠ "java/lang/invoke/MethodHandle" ∧ y_M_all.cls ≠ "java/lang/invoke/VarHandle" ∧ (parseMethodDescriptor y_M_all.desc).map (fun d => d.parameters.length) = some 0 := by decide +kernel
theorem hd_M_all : y_M_all.cls = R_M ∧ y_M_all.cls ≠ "java/lang/invoke/MethodHandle" ∧ y_M_all.cls ≠ "java/lang/invoke/VarHandle" ∧ (parseMethodDescriptor y_M_all.desc).map (fun d => d.parameters.length) = some 0 := by decide +kernel
abbrev rm_M_all : Room := { frames := 5, cells := 0, slots := 0, locals := 124 }
abbrev y_M_isNumber : MethodName := ⟨"PlainLibraryModel", "isNumber", "(I)Z"⟩
abbrev ws_M_isNumber : List Cond := Cond.code y_M_isNumber prog_5_method_16_code 1 (Option.some FieldType.boolean) :: tb
theorem hs_M_isNumber : y_M_isNumber.cls ≠ "java/lang/invoke/MethodHandle" ∧ y_M_isNumber.cls ≠ "java/lang/invoke/VarHandle" ∧ (parseMethodDescriptor y_M_isNumber.desc).map (fun d => d.parameters.length) = some 1 := by decide +kernel
abbrev rm_M_isNumber : Room := { frames := 0, cells := 0, slots := 0, locals := 0 }
abbrev y_M_counts : MethodName := ⟨"PlainLibraryModel", "counts", "(I)I"⟩
abbrev ws_M_counts : List Cond := Cond.code y_M_counts prog_5_method_17_code 2 (Option.some FieldType.int) :: tb
theorem hs_M_counts : y_M_counts.cls ≠ "java/lang/invoke/MethodHandle" ∧ y_M_counts.cls ≠ "java/lang/invoke/VarHandle" ∧ (parseMethodDescriptor y_M_counts.desc).map (fun d => d.parameters.length) = some 1 := by decide +kernel
theorem hd_M_counts : y_M_counts.cls = R_M ∧ y_M_counts.cls ≠ "java/lang/invoke/MethodHandle" ∧ y_M_counts.cls ≠ "java/lang/invoke/VarHandle" ∧ (parseMethodDescriptor y_M_counts.desc).map (fun d => d.parameters.length) = some 1 := by decide +kernel
abbrev rm_M_counts : Room := { frames := 6, cells := 0, slots := 0, locals := 144 }
abbrev y_M_events : MethodName := ⟨"PlainLibraryModel", "events", "()I"⟩
abbrev ws_M_events : List Cond := Cond.code y_M_events prog_5_method_18_code 1 (Option.some FieldType.int) :: tb
theorem hs_M_events : y_M_events.cls ≠ "java/lang/invoke/MethodHandle" ∧ y_M_events.cls ≠ "java/lang/invoke/VarHandle" ∧ (parseMethodDescriptor y_M_events.desc).map (fun d => d.parameters.length) = some 0 := by decide +kernel
theorem hd_M_events : y_M_events.cls = R_M ∧ y_M_events.cls ≠ "java/lang/invoke/MethodHandle" ∧ y_M_events.cls ≠ "java/lang/invoke/VarHandle" ∧ (parseMethodDescriptor y_M_events.desc).map (fun d => d.parameters.length) = some 0 := by decide +kernel
abbrev rm_M_events : Room := { frames := 0, cells := 0, slots := 0, locals := 0 }
abbrev y_M_refused : MethodName := ⟨"PlainLibraryModel", "refused", "()I"⟩
abbrev ws_M_refused : List Cond := Cond.code y_M_refused prog_5_method_19_code 1 (Option.some FieldType.int) :: tb
theorem hs_M_refused : y_M_refused.cls ≠ "java/lang/invoke/MethodHandle" ∧ y_M_refused.cls ≠ "java/lang/invoke/VarHandle" ∧ (parseMethodDescriptor y_M_refused.desc).map (fun d => d.parameters.length) = some 0 := by decide +kernel
theorem hd_M_refused : y_M_refused.cls = R_M ∧ y_M_refused.cls ≠ "java/lang/invoke/MethodHandle" ∧ y_M_refused.cls ≠ "java/lang/invoke/VarHandle" ∧ (parseMethodDescriptor y_M_refused.desc).map (fun d => d.parameters.length) = some 0 := by decide +kernel
abbrev rm_M_refused : Room := { frames := 6, cells := 0, slots := 0, locals := 144 }
abbrev y_M_state : MethodName := ⟨"PlainLibraryModel", "state", "(IIJ)I"⟩
abbrev ws_M_state : List Cond := Cond.code y_M_state prog_5_method_20_code 7 (Option.some FieldType.int) :: tb
theorem hs_M_state : y_M_state.cls ≠ "java/lang/invoke/MethodHandle" ∧ y_M_state.cls ≠ "java/lang/invoke/VarHandle" ∧ (parseMethodDescriptor y_M_state.desc).map (fun d => d.parameters.length) = some 3 := by decide +kernel
theorem hd_M_state : y_M_state.cls = R_M ∧ y_M_state.cls ≠ "java/lang/invoke/MethodHandle" ∧ y_M_state.cls ≠ "java/lang/invoke/VarHandle" ∧ (parseMethodDescriptor y_M_state.desc).map (fun d => d.parameters.length) = some 3 := by decide +kernel
abbrev rm_M_state : Room := { frames := 5, cells := 0, slots := 0, locals := 124 }
abbrev y_M_heading : MethodName := ⟨"PlainLibraryModel", "heading", "(II)I"⟩
abbrev ws_M_heading : List Cond := Cond.code y_M_heading prog_5_method_21_code 5 (Option.some FieldType.int) :: tb
theorem hs_M_heading : y_M_heading.cls ≠ "java/lang/invoke/MethodHandle" ∧ y_M_heading.cls ≠ "java/lang/invoke/VarHandle" ∧ (parseMethodDescriptor y_M_heading.desc).map (fun d => d.parameters.length) = some 2 := by decide +kernel
theorem hd_M_heading : y_M_heading.cls = R_M ∧ y_M_heading.cls ≠ "java/lang/invoke/MethodHandle" ∧ y_M_heading.cls ≠ "java/lang/invoke/VarHandle" ∧ (parseMethodDescriptor y_M_heading.desc).map (fun d => d.parameters.length) = some 2 := by decide +kernel
abbrev rm_M_heading : Room := { frames := 6, cells := 0, slots := 0, locals := 144 }
abbrev y_M_question : MethodName := ⟨"PlainLibraryModel", "question", "(II)I"⟩
abbrev ws_M_question : List Cond := Cond.code y_M_question prog_5_method_22_code 4 (Option.some FieldType.int) :: tb
theorem hs_M_question : y_M_question.cls ≠ "java/lang/invoke/MethodHandle" ∧ y_M_question.cls ≠ "java/lang/invoke/VarHandle" ∧ (parseMethodDescriptor y_M_question.desc).map (fun d => d.parameters.length) = some 2 := by decide +kernel
theorem hd_M_question : y_M_question.cls = R_M ∧ y_M_question.cls ≠ "java/lang/invoke/MethodHandle" ∧ y_M_question.cls ≠ "java/lang/invoke/VarHandle" ∧ (parseMethodDescriptor y_M_question.desc).map (fun d => d.parameters.length) = some 2 := by decide +kernel
abbrev rm_M_question : Room := { frames := 6, cells := 0, slots := 0, locals := 144 }
abbrev y_M_hit : MethodName := ⟨"PlainLibraryModel", "hit", "(I)I"⟩
abbrev ws_M_hit : List Cond := Cond.code y_M_hit prog_5_method_23_code 2 (Option.some FieldType.int) :: tb
theorem hs_M_hit : y_M_hit.cls ≠ "java/lang/invoke/MethodHandle" ∧ y_M_hit.cls ≠ "java/lang/invoke/VarHandle" ∧ (parseMethodDescriptor y_M_hit.desc).map (fun d => d.parameters.length) = some 1 := by decide +kernel
theorem hd_M_hit : y_M_hit.cls = R_M ∧ y_M_hit.cls ≠ "java/lang/invoke/MethodHandle" ∧ y_M_hit.cls ≠ "java/lang/invoke/VarHandle" ∧ (parseMethodDescriptor y_M_hit.desc).map (fun d => d.parameters.length) = some 1 := by decide +kernel
abbrev rm_M_hit : Room := { frames := 0, cells := 0, slots := 0, locals := 0 }
abbrev y_M_due : MethodName := ⟨"PlainLibraryModel", "due", "(I)J"⟩
abbrev ws_M_due : List Cond := Cond.code y_M_due prog_5_method_24_code 2 (Option.some FieldType.long) :: tb
theorem hs_M_due : y_M_due.cls ≠ "java/lang/invoke/MethodHandle" ∧ y_M_due.cls ≠ "java/lang/invoke/VarHandle" ∧ (parseMethodDescriptor y_M_due.desc).map (fun d => d.parameters.length) = some 1 := by decide +kernel
theorem hd_M_due : y_M_due.cls = R_M ∧ y_M_due.cls ≠ "java/lang/invoke/MethodHandle" ∧ y_M_due.cls ≠ "java/lang/invoke/VarHandle" ∧ (parseMethodDescriptor y_M_due.desc).map (fun d => d.parameters.length) = some 1 := by decide +kernel
abbrev rm_M_due : Room := { frames := 6, cells := 0, slots := 0, locals := 144 }
abbrev y_M_queue : MethodName := ⟨"PlainLibraryModel", "queue", "(II)I"⟩
abbrev ws_M_queue : List Cond := Cond.code y_M_queue prog_5_method_25_code 3 (Option.some FieldType.int) :: tb
theorem hs_M_queue : y_M_queue.cls ≠ "java/lang/invoke/MethodHandle" ∧ y_M_queue.cls ≠ "java/lang/invoke/VarHandle" ∧ (parseMethodDescriptor y_M_queue.desc).map (fun d => d.parameters.length) = some 2 := by decide +kernel
theorem hd_M_queue : y_M_queue.cls = R_M ∧ y_M_queue.cls ≠ "java/lang/invoke/MethodHandle" ∧ y_M_queue.cls ≠ "java/lang/invoke/VarHandle" ∧ (parseMethodDescriptor y_M_queue.desc).map (fun d => d.parameters.length) = some 2 := by decide +kernel
abbrev rm_M_queue : Room := { frames := 6, cells := 0, slots := 0, locals := 144 }
abbrev y_M_poll : MethodName := ⟨"PlainLibraryModel", "poll", "(I)I"⟩
abbrev ws_M_poll : List Cond := Cond.code y_M_poll prog_5_method_26_code 7 (Option.some FieldType.int) :: tb
theorem hs_M_poll : y_M_poll.cls ≠ "java/lang/invoke/MethodHandle" ∧ y_M_poll.cls ≠ "java/lang/invoke/VarHandle" ∧ (parseMethodDescriptor y_M_poll.desc).map (fun d => d.parameters.length) = some 1 := by decide +kernel
theorem hd_M_poll : y_M_poll.cls = R_M ∧ y_M_poll.cls ≠ "java/lang/invoke/MethodHandle" ∧ y_M_poll.cls ≠ "java/lang/invoke/VarHandle" ∧ (parseMethodDescriptor y_M_poll.desc).map (fun d => d.parameters.length) = some 1 := by decide +kernel
abbrev rm_M_poll : Room := { frames := 6, cells := 0, slots := 0, locals := 144 }
abbrev y_M_kept : MethodName := ⟨"PlainLibraryModel", "kept", "(IIJI)I"⟩
abbrev ws_M_kept : List Cond := Cond.code y_M_kept prog_5_method_27_code 8 (Option.some FieldType.int) :: tb
theorem hs_M_kept : y_M_kept.cls ≠ "java/lang/invoke/MethodHandle" ∧ y_M_kept.cls ≠ "java/lang/invoke/VarHandle" ∧ (parseMethodDescriptor y_M_kept.desc).map (fun d => d.parameters.length) = some 4 := by decide +kernel
theorem hd_M_kept : y_M_kept.cls = R_M ∧ y_M_kept.cls ≠ "java/lang/invoke/MethodHandle" ∧ y_M_kept.cls ≠ "java/lang/invoke/VarHandle" ∧ (parseMethodDescriptor y_M_kept.desc).map (fun d => d.parameters.length) = some 4 := by decide +kernel
abbrev rm_M_kept : Room := { frames := 6, cells := 0, slots := 0, locals := 144 }
abbrev y_M_most : MethodName := ⟨"PlainLibraryModel", "most", "(I)I"⟩
abbrev ws_M_most : List Cond := Cond.code y_M_most prog_5_method_28_code 2 (Option.some FieldType.int) :: tb
theorem hs_M_most : y_M_most.cls ≠ "java/lang/invoke/MethodHandle" ∧ y_M_most.cls ≠ "java/lang/invoke/VarHandle" ∧ (parseMethodDescriptor y_M_most.desc).map (fun d => d.parameters.length) = some 1 := by decide +kernel
theorem hd_M_most : y_M_most.cls = R_M ∧ y_M_most.cls ≠ "java/lang/invoke/MethodHandle" ∧ y_M_most.cls ≠ "java/lang/invoke/VarHandle" ∧ (parseMethodDescriptor y_M_most.desc).map (fun d => d.parameters.length) = some 1 := by decide +kernel
abbrev rm_M_most : Room := { frames := 5, cells := 0, slots := 0, locals := 124 }
abbrev y_M_least : MethodName := ⟨"PlainLibraryModel", "least", "()I"⟩
abbrev ws_M_least : List Cond := Cond.code y_M_least prog_5_method_29_code 5 (Option.some FieldType.int) :: tb
theorem hs_M_least : y_M_least.cls ≠ "java/lang/invoke/MethodHandle" ∧ y_M_least.cls ≠ "java/lang/invoke/VarHandle" ∧ (parseMethodDescriptor y_M_least.desc).map (fun d => d.parameters.length) = some 0 := by decide +kernel
theorem hd_M_least : y_M_least.cls = R_M ∧ y_M_least.cls ≠ "java/lang/invoke/MethodHandle" ∧ y_M_least.cls ≠ "java/lang/invoke/VarHandle" ∧ (parseMethodDescriptor y_M_least.desc).map (fun d => d.parameters.length) = some 0 := by decide +kernel
abbrev rm_M_least : Room := { frames := 5, cells := 0, slots := 0, locals := 124 }
set_option maxRecDepth 100000 in
theorem mm_27 : Cond.initialized "PlainLibrary" ∈ tb := ms_ 27 rfl rfl
set_option maxRecDepth 100000 in
theorem mm_28 : Cond.initialized "PlainLibrary$Row" ∈ tb := ms_ 28 rfl rfl
set_option maxRecDepth 100000 in
theorem mm_29 : Cond.initialized "PlainLibrary$Shelves" ∈ tb := ms_ 29 rfl rfl
set_option maxRecDepth 100000 in
theorem mm_30 : Cond.initialized "PlainLibraryModel" ∈ tb := ms_ 30 rfl rfl
set_option maxRecDepth 100000 in
theorem mm_31 : Cond.initialized "java/lang/System" ∈ tb := ms_ 31 rfl rfl
set_option maxRecDepth 100000 in
theorem mm_32 : Cond.initialized "java/util/Arrays" ∈ tb := ms_ 32 rfl rfl
set_option maxRecDepth 100000 in
theorem mm_33 : Cond.initialized "java/lang/Math" ∈ tb := ms_ 33 rfl rfl
set_option maxRecDepth 100000 in
theorem mm_34 : Cond.classLink "PlainLibraryLaw" 7 "PlainLibrary" ∈ tb := ms_ 34 rfl rfl
set_option maxRecDepth 100000 in
theorem mm_35 : Cond.instantiable "PlainLibrary" 4 ∈ tb := ms_ 35 rfl rfl
set_option maxRecDepth 100000 in
theorem mm_36 : Cond.methodLink "PlainLibraryLaw" 9 ({ cls := "PlainLibrary", name := "<init>", desc := "()V" } : MethodName) ∈ tb := ms_ 36 rfl rfl
set_option maxRecDepth 100000 in
theorem mm_37 : Cond.instanceMethod ({ cls := "PlainLibrary", name := "<init>", desc := "()V" } : MethodName) ∈ tb := ms_ 37 rfl rfl
set_option maxRecDepth 100000 in
theorem mm_38 : Cond.code ({ cls := "PlainLibrary", name := "<init>", desc := "()V" } : MethodName) prog_1_method_1_code 1 (Option.none : Option FieldType) ∈ tb := ms_ 38 rfl rfl
set_option maxRecDepth 100000 in
theorem mm_39 : Cond.methodLink "PlainLibrary" 1 ({ cls := "java/lang/Object", name := "<init>", desc := "()V" } : MethodName) ∈ tb := ms_ 39 rfl rfl
set_option maxRecDepth 100000 in
theorem mm_40 : Cond.instanceMethod ({ cls := "java/lang/Object", name := "<init>", desc := "()V" } : MethodName) ∈ tb := ms_ 40 rfl rfl
set_option maxRecDepth 100000 in
theorem mm_41 : Cond.code ({ cls := "java/lang/Object", name := "<init>", desc := "()V" } : MethodName) object_method_1_code 1 (Option.none : Option FieldType) ∈ tb := ms_ 41 rfl rfl
set_option maxRecDepth 100000 in
theorem mm_42 : Cond.classLink "PlainLibrary" 7 "PlainLibrary$Row" ∈ tb := ms_ 42 rfl rfl
set_option maxRecDepth 100000 in
theorem mm_43 : Cond.instantiable "PlainLibrary$Row" 5 ∈ tb := ms_ 43 rfl rfl
set_option maxRecDepth 100000 in
theorem mm_44 : Cond.methodLink "PlainLibrary" 9 ({ cls := "PlainLibrary$Row", name := "<init>", desc := "()V" } : MethodName) ∈ tb := ms_ 44 rfl rfl
set_option maxRecDepth 100000 in
theorem mm_45 : Cond.instanceMethod ({ cls := "PlainLibrary$Row", name := "<init>", desc := "()V" } : MethodName) ∈ tb := ms_ 45 rfl rfl
set_option maxRecDepth 100000 in
theorem mm_46 : Cond.code ({ cls := "PlainLibrary$Row", name := "<init>", desc := "()V" } : MethodName) prog_2_method_1_code 1 (Option.none : Option FieldType) ∈ tb := ms_ 46 rfl rfl
set_option maxRecDepth 100000 in
theorem mm_47 : Cond.methodLink "PlainLibrary$Row" 3 ({ cls := "java/lang/Object", name := "<init>", desc := "()V" } : MethodName) ∈ tb := ms_ 47 rfl rfl
set_option maxRecDepth 100000 in
theorem mm_48 : Cond.fieldLink "PlainLibrary$Row" 9 "PlainLibrary$Row" "sorts" "[I" ∈ tb := ms_ 48 rfl rfl
set_option maxRecDepth 100000 in
theorem mm_49 : Cond.fieldLink "PlainLibrary$Row" 15 "PlainLibrary$Row" "firsts" "[I" ∈ tb := ms_ 49 rfl rfl
set_option maxRecDepth 100000 in
theorem mm_50 : Cond.fieldLink "PlainLibrary$Row" 18 "PlainLibrary$Row" "seconds" "[I" ∈ tb := ms_ 50 rfl rfl
set_option maxRecDepth 100000 in
theorem mm_51 : Cond.fieldLink "PlainLibrary$Row" 21 "PlainLibrary$Row" "days" "[J" ∈ tb := ms_ 51 rfl rfl
set_option maxRecDepth 100000 in
theorem mm_52 : Cond.fieldLink "PlainLibrary$Row" 25 "PlainLibrary$Row" "size" "I" ∈ tb := ms_ 52 rfl rfl
set_option maxRecDepth 100000 in
theorem mm_64 : Cond.arrayClass FieldType.int ∈ tb := ms_ 64 rfl rfl
set_option maxRecDepth 100000 in
theorem mm_65 : Cond.arrayClass FieldType.long ∈ tb := ms_ 65 rfl rfl
set_option maxRecDepth 100000 in
theorem mm_66 : Cond.classLink "PlainLibrary" 16 "PlainLibrary$Shelves" ∈ tb := ms_ 66 rfl rfl
set_option maxRecDepth 100000 in
theorem mm_67 : Cond.instantiable "PlainLibrary$Shelves" 9 ∈ tb := ms_ 67 rfl rfl
set_option maxRecDepth 100000 in
theorem mm_68 : Cond.methodLink "PlainLibrary" 18 ({ cls := "PlainLibrary$Shelves", name := "<init>", desc := "()V" } : MethodName) ∈ tb := ms_ 68 rfl rfl
set_option maxRecDepth 100000 in
theorem mm_69 : Cond.instanceMethod ({ cls := "PlainLibrary$Shelves", name := "<init>", desc := "()V" } : MethodName) ∈ tb := ms_ 69 rfl rfl
set_option maxRecDepth 100000 in
theorem mm_70 : Cond.code ({ cls := "PlainLibrary$Shelves", name := "<init>", desc := "()V" } : MethodName) prog_3_method_1_code 1 (Option.none : Option FieldType) ∈ tb := ms_ 70 rfl rfl
set_option maxRecDepth 100000 in
theorem mm_71 : Cond.methodLink "PlainLibrary$Shelves" 3 ({ cls := "java/lang/Object", name := "<init>", desc := "()V" } : MethodName) ∈ tb := ms_ 71 rfl rfl
set_option maxRecDepth 100000 in
theorem mm_72 : Cond.fieldLink "PlainLibrary$Shelves" 11 "PlainLibrary$Shelves" "headingBits" "[J" ∈ tb := ms_ 72 rfl rfl
set_option maxRecDepth 100000 in
theorem mm_73 : Cond.fieldLink "PlainLibrary$Shelves" 15 "PlainLibrary$Shelves" "records" "[I" ∈ tb := ms_ 73 rfl rfl
set_option maxRecDepth 100000 in
theorem mm_74 : Cond.fieldLink "PlainLibrary$Shelves" 19 "PlainLibrary$Shelves" "persons" "[I" ∈ tb := ms_ 74 rfl rfl
set_option maxRecDepth 100000 in
theorem mm_75 : Cond.fieldLink "PlainLibrary$Shelves" 22 "PlainLibrary$Shelves" "dueDays" "[J" ∈ tb := ms_ 75 rfl rfl
set_option maxRecDepth 100000 in
theorem mm_76 : Cond.fieldLink "PlainLibrary$Shelves" 25 "PlainLibrary$Shelves" "queued" "[I" ∈ tb := ms_ 76 rfl rfl
set_option maxRecDepth 100000 in
theorem mm_77 : Cond.fieldLink "PlainLibrary$Shelves" 28 "PlainLibrary$Shelves" "queueLengths" "[I" ∈ tb := ms_ 77 rfl rfl
set_option maxRecDepth 100000 in
theorem mm_78 : Cond.fieldLink "PlainLibrary$Shelves" 31 "PlainLibrary$Shelves" "classes" "[I" ∈ tb := ms_ 78 rfl rfl
set_option maxRecDepth 100000 in
theorem mm_79 : Cond.fieldLink "PlainLibrary$Shelves" 34 "PlainLibrary$Shelves" "loanDays" "[I" ∈ tb := ms_ 79 rfl rfl
set_option maxRecDepth 100000 in
theorem mm_80 : Cond.fieldLink "PlainLibrary$Shelves" 37 "PlainLibrary$Shelves" "sums" "[I" ∈ tb := ms_ 80 rfl rfl
set_option maxRecDepth 100000 in
theorem mm_100 : Cond.fieldLink "PlainLibrary" 10 "PlainLibrary" "row" "LPlainLibrary$Row;" ∈ tb := ms_ 100 rfl rfl
set_option maxRecDepth 100000 in
theorem mm_101 : Cond.fieldLink "PlainLibrary" 19 "PlainLibrary" "shelves" "LPlainLibrary$Shelves;" ∈ tb := ms_ 101 rfl rfl
set_option maxRecDepth 100000 in
theorem mm_102 : Cond.fieldLink "PlainLibrary" 23 "PlainLibrary" "hits" "[I" ∈ tb := ms_ 102 rfl rfl
set_option maxRecDepth 100000 in
theorem mm_103 : Cond.fieldLink "PlainLibrary" 27 "PlainLibrary" "hitCount" "I" ∈ tb := ms_ 103 rfl rfl
set_option maxRecDepth 100000 in
theorem mm_113 : Cond.methodLink "PlainLibraryLaw" 15 ({ cls := "PlainLibrary", name := "event", desc := "(IJJJ)I" } : MethodName) ∈ tb := ms_ 113 rfl rfl
set_option maxRecDepth 100000 in
theorem mm_114 : Cond.instanceMethod ({ cls := "PlainLibrary", name := "event", desc := "(IJJJ)I" } : MethodName) ∈ tb := ms_ 114 rfl rfl
set_option maxRecDepth 100000 in
theorem mm_115 : Cond.selects "PlainLibrary" ({ cls := "PlainLibrary", name := "event", desc := "(IJJJ)I" } : MethodName) ({ cls := "PlainLibrary", name := "event", desc := "(IJJJ)I" } : MethodName) ∈ tb := ms_ 115 rfl rfl
set_option maxRecDepth 100000 in
theorem mm_116 : Cond.code ({ cls := "PlainLibrary", name := "event", desc := "(IJJJ)I" } : MethodName) prog_1_method_2_code 9 (Option.some FieldType.int) ∈ tb := ms_ 116 rfl rfl
set_option maxRecDepth 100000 in
theorem mm_117 : Cond.constantLong "PlainLibrary" 31 1000000 ∈ tb := ms_ 117 rfl rfl
set_option maxRecDepth 100000 in
theorem mm_118 : Cond.methodLink "PlainLibrary" 33 ({ cls := "PlainLibrary", name := "isWithin", desc := "(JJJ)Z" } : MethodName) ∈ tb := ms_ 118 rfl rfl
set_option maxRecDepth 100000 in
theorem mm_119 : Cond.static ({ cls := "PlainLibrary", name := "isWithin", desc := "(JJJ)Z" } : MethodName) ∈ tb := ms_ 119 rfl rfl
set_option maxRecDepth 100000 in
theorem mm_120 : Cond.code ({ cls := "PlainLibrary", name := "isWithin", desc := "(JJJ)Z" } : MethodName) prog_1_method_16_code 6 (Option.some FieldType.boolean) ∈ tb := ms_ 120 rfl rfl
set_option maxRecDepth 100000 in
theorem mm_121 : Cond.methodLink "PlainLibrary" 37 ({ cls := "PlainLibrary", name := "isAct", desc := "(IJJ)Z" } : MethodName) ∈ tb := ms_ 121 rfl rfl
set_option maxRecDepth 100000 in
theorem mm_122 : Cond.static ({ cls := "PlainLibrary", name := "isAct", desc := "(IJJ)Z" } : MethodName) ∈ tb := ms_ 122 rfl rfl
set_option maxRecDepth 100000 in
theorem mm_123 : Cond.code ({ cls := "PlainLibrary", name := "isAct", desc := "(IJJ)Z" } : MethodName) prog_1_method_18_code 5 (Option.some FieldType.boolean) ∈ tb := ms_ 123 rfl rfl
set_option maxRecDepth 100000 in
theorem mm_124 : Cond.methodLink "PlainLibrary" 56 ({ cls := "PlainLibrary", name := "isNumber", desc := "(J)Z" } : MethodName) ∈ tb := ms_ 124 rfl rfl
set_option maxRecDepth 100000 in
theorem mm_125 : Cond.static ({ cls := "PlainLibrary", name := "isNumber", desc := "(J)Z" } : MethodName) ∈ tb := ms_ 125 rfl rfl
set_option maxRecDepth 100000 in
theorem mm_126 : Cond.code ({ cls := "PlainLibrary", name := "isNumber", desc := "(J)Z" } : MethodName) prog_1_method_17_code 2 (Option.some FieldType.boolean) ∈ tb := ms_ 126 rfl rfl
set_option maxRecDepth 100000 in
theorem mm_127 : Cond.constantLong "PlainLibrary" 126 20 ∈ tb := ms_ 127 rfl rfl
set_option maxRecDepth 100000 in
theorem mm_128 : Cond.constantLong "PlainLibrary" 84 99 ∈ tb := ms_ 128 rfl rfl
set_option maxRecDepth 100000 in
theorem mm_129 : Cond.constantLong "PlainLibrary" 128 5 ∈ tb := ms_ 129 rfl rfl
set_option maxRecDepth 100000 in
theorem mm_130 : Cond.constantLong "PlainLibrary" 130 9 ∈ tb := ms_ 130 rfl rfl
set_option maxRecDepth 100000 in
theorem mm_131 : Cond.constantLong "PlainLibrary" 132 365 ∈ tb := ms_ 131 rfl rfl
set_option maxRecDepth 100000 in
theorem mm_132 : Cond.methodLink "PlainLibrary" 41 ({ cls := "PlainLibrary$Row", name := "insert", desc := "(IIIJ)Z" } : MethodName) ∈ tb := ms_ 132 rfl rfl
set_option maxRecDepth 100000 in
theorem mm_133 : Cond.instanceMethod ({ cls := "PlainLibrary$Row", name := "insert", desc := "(IIIJ)Z" } : MethodName) ∈ tb := ms_ 133 rfl rfl
set_option maxRecDepth 100000 in
theorem mm_134 : Cond.selects "PlainLibrary$Row" ({ cls := "PlainLibrary$Row", name := "insert", desc := "(IIIJ)Z" } : MethodName) ({ cls := "PlainLibrary$Row", name := "insert", desc := "(IIIJ)Z" } : MethodName) ∈ tb := ms_ 134 rfl rfl
set_option maxRecDepth 100000 in
theorem mm_135 : Cond.code ({ cls := "PlainLibrary$Row", name := "insert", desc := "(IIIJ)Z" } : MethodName) prog_2_method_6_code 8 (Option.some FieldType.boolean) ∈ tb := ms_ 135 rfl rfl
set_option maxRecDepth 100000 in
theorem mm_136 : Cond.methodLink "PlainLibrary$Row" 35 ({ cls := "PlainLibrary$Row", name := "placeFor", desc := "(J)I" } : MethodName) ∈ tb := ms_ 136 rfl rfl
set_option maxRecDepth 100000 in
theorem mm_138 : Cond.instanceMethod ({ cls := "PlainLibrary$Row", name := "placeFor", desc := "(J)I" } : MethodName) ∈ tb := ms_ 138 rfl rfl
set_option maxRecDepth 100000 in
theorem mm_139 : Cond.code ({ cls := "PlainLibrary$Row", name := "placeFor", desc := "(J)I" } : MethodName) prog_2_method_7_code 4 (Option.some FieldType.int) ∈ tb := ms_ 139 rfl rfl
set_option maxRecDepth 100000 in
theorem mm_140 : Cond.methodLink "PlainLibrary$Row" 39 ({ cls := "java/lang/System", name := "arraycopy", desc := "(Ljava/lang/Object;ILjava/lang/Object;II)V" } : MethodName) ∈ tb := ms_ 140 rfl rfl
set_option maxRecDepth 100000 in
theorem mm_141 : Cond.static ({ cls := "java/lang/System", name := "arraycopy", desc := "(Ljava/lang/Object;ILjava/lang/Object;II)V" } : MethodName) ∈ tb := ms_ 141 rfl rfl
set_option maxRecDepth 100000 in
theorem mm_142 : Cond.native ({ cls := "java/lang/System", name := "arraycopy", desc := "(Ljava/lang/Object;ILjava/lang/Object;II)V" } : MethodName) ∈ tb := ms_ 142 rfl rfl
set_option maxRecDepth 100000 in
theorem mm_143 : Cond.methodLink "PlainLibrary" 45 ({ cls := "PlainLibrary$Row", name := "size", desc := "()I" } : MethodName) ∈ tb := ms_ 143 rfl rfl
set_option maxRecDepth 100000 in
theorem mm_144 : Cond.instanceMethod ({ cls := "PlainLibrary$Row", name := "size", desc := "()I" } : MethodName) ∈ tb := ms_ 144 rfl rfl
set_option maxRecDepth 100000 in
theorem mm_145 : Cond.selects "PlainLibrary$Row" ({ cls := "PlainLibrary$Row", name := "size", desc := "()I" } : MethodName) ({ cls := "PlainLibrary$Row", name := "size", desc := "()I" } : MethodName) ∈ tb := ms_ 145 rfl rfl
set_option maxRecDepth 100000 in
theorem mm_146 : Cond.code ({ cls := "PlainLibrary$Row", name := "size", desc := "()I" } : MethodName) prog_2_method_2_code 1 (Option.some FieldType.int) ∈ tb := ms_ 146 rfl rfl
set_option maxRecDepth 100000 in
theorem mm_147 : Cond.methodLink "PlainLibraryLaw" 20 ({ cls := "PlainLibrary", name := "counts", desc := "(I)I" } : MethodName) ∈ tb := ms_ 147 rfl rfl
set_option maxRecDepth 100000 in
theorem mm_148 : Cond.instanceMethod ({ cls := "PlainLibrary", name := "counts", desc := "(I)I" } : MethodName) ∈ tb := ms_ 148 rfl rfl
set_option maxRecDepth 100000 in
theorem mm_149 : Cond.selects "PlainLibrary" ({ cls := "PlainLibrary", name := "counts", desc := "(I)I" } : MethodName) ({ cls := "PlainLibrary", name := "counts", desc := "(I)I" } : MethodName) ∈ tb := ms_ 149 rfl rfl
set_option maxRecDepth 100000 in
theorem mm_150 : Cond.code ({ cls := "PlainLibrary", name := "counts", desc := "(I)I" } : MethodName) prog_1_method_3_code 3 (Option.some FieldType.int) ∈ tb := ms_ 150 rfl rfl
set_option maxRecDepth 100000 in
theorem mm_151 : Cond.methodLink "PlainLibrary" 49 ({ cls := "PlainLibrary$Shelves", name := "clear", desc := "()V" } : MethodName) ∈ tb := ms_ 151 rfl rfl
set_option maxRecDepth 100000 in
theorem mm_152 : Cond.instanceMethod ({ cls := "PlainLibrary$Shelves", name := "clear", desc := "()V" } : MethodName) ∈ tb := ms_ 152 rfl rfl
set_option maxRecDepth 100000 in
theorem mm_153 : Cond.selects "PlainLibrary$Shelves" ({ cls := "PlainLibrary$Shelves", name := "clear", desc := "()V" } : MethodName) ({ cls := "PlainLibrary$Shelves", name := "clear", desc := "()V" } : MethodName) ∈ tb := ms_ 153 rfl rfl
set_option maxRecDepth 100000 in
theorem mm_154 : Cond.code ({ cls := "PlainLibrary$Shelves", name := "clear", desc := "()V" } : MethodName) prog_3_method_2_code 1 (Option.none : Option FieldType) ∈ tb := ms_ 154 rfl rfl
set_option maxRecDepth 100000 in
theorem mm_155 : Cond.methodLink "PlainLibrary$Shelves" 40 ({ cls := "java/util/Arrays", name := "fill", desc := "([JJ)V" } : MethodName) ∈ tb := ms_ 155 rfl rfl
set_option maxRecDepth 100000 in
theorem mm_156 : Cond.static ({ cls := "java/util/Arrays", name := "fill", desc := "([JJ)V" } : MethodName) ∈ tb := ms_ 156 rfl rfl
set_option maxRecDepth 100000 in
theorem mm_157 : Cond.code ({ cls := "java/util/Arrays", name := "fill", desc := "([JJ)V" } : MethodName) prog_8_method_101_code 5 (Option.none : Option FieldType) ∈ tb := ms_ 157 rfl rfl
set_option maxRecDepth 100000 in
theorem mm_158 : Cond.methodLink "PlainLibrary$Shelves" 46 ({ cls := "java/util/Arrays", name := "fill", desc := "([II)V" } : MethodName) ∈ tb := ms_ 158 rfl rfl
set_option maxRecDepth 100000 in
theorem mm_159 : Cond.static ({ cls := "java/util/Arrays", name := "fill", desc := "([II)V" } : MethodName) ∈ tb := ms_ 159 rfl rfl
set_option maxRecDepth 100000 in
theorem mm_160 : Cond.code ({ cls := "java/util/Arrays", name := "fill", desc := "([II)V" } : MethodName) prog_8_method_103_code 4 (Option.none : Option FieldType) ∈ tb := ms_ 160 rfl rfl
set_option maxRecDepth 100000 in
theorem mm_161 : Cond.methodLink "PlainLibrary" 52 ({ cls := "PlainLibrary$Row", name := "perform", desc := "(ILPlainLibrary$Shelves;)Z" } : MethodName) ∈ tb := ms_ 161 rfl rfl
set_option maxRecDepth 100000 in
theorem mm_162 : Cond.instanceMethod ({ cls := "PlainLibrary$Row", name := "perform", desc := "(ILPlainLibrary$Shelves;)Z" } : MethodName) ∈ tb := ms_ 162 rfl rfl
set_option maxRecDepth 100000 in
theorem mm_163 : Cond.selects "PlainLibrary$Row" ({ cls := "PlainLibrary$Row", name := "perform", desc := "(ILPlainLibrary$Shelves;)Z" } : MethodName) ({ cls := "PlainLibrary$Row", name := "perform", desc := "(ILPlainLibrary$Shelves;)Z" } : MethodName) ∈ tb := ms_ 163 rfl rfl
set_option maxRecDepth 100000 in
theorem mm_164 : Cond.code ({ cls := "PlainLibrary$Row", name := "perform", desc := "(ILPlainLibrary$Shelves;)Z" } : MethodName) prog_2_method_5_code 3 (Option.some FieldType.boolean) ∈ tb := ms_ 164 rfl rfl
set_option maxRecDepth 100000 in
theorem mm_165 : Cond.methodLink "PlainLibrary$Row" 29 ({ cls := "PlainLibrary$Shelves", name := "perform", desc := "(IIIJ)Z" } : MethodName) ∈ tb := ms_ 165 rfl rfl
set_option maxRecDepth 100000 in
theorem mm_166 : Cond.instanceMethod ({ cls := "PlainLibrary$Shelves", name := "perform", desc := "(IIIJ)Z" } : MethodName) ∈ tb := ms_ 166 rfl rfl
set_option maxRecDepth 100000 in
theorem mm_167 : Cond.selects "PlainLibrary$Shelves" ({ cls := "PlainLibrary$Shelves", name := "perform", desc := "(IIIJ)Z" } : MethodName) ({ cls := "PlainLibrary$Shelves", name := "perform", desc := "(IIIJ)Z" } : MethodName) ∈ tb := ms_ 167 rfl rfl
set_option maxRecDepth 100000 in
theorem mm_168 : Cond.code ({ cls := "PlainLibrary$Shelves", name := "perform", desc := "(IIIJ)Z" } : MethodName) prog_3_method_3_code 6 (Option.some FieldType.boolean) ∈ tb := ms_ 168 rfl rfl
set_option maxRecDepth 100000 in
theorem mm_169 : Cond.methodLink "PlainLibrary$Shelves" 49 ({ cls := "PlainLibrary$Shelves", name := "addHeading", desc := "(II)Z" } : MethodName) ∈ tb := ms_ 169 rfl rfl
set_option maxRecDepth 100000 in
theorem mm_171 : Cond.instanceMethod ({ cls := "PlainLibrary$Shelves", name := "addHeading", desc := "(II)Z" } : MethodName) ∈ tb := ms_ 171 rfl rfl
set_option maxRecDepth 100000 in
theorem mm_172 : Cond.code ({ cls := "PlainLibrary$Shelves", name := "addHeading", desc := "(II)Z" } : MethodName) prog_3_method_18_code 3 (Option.some FieldType.boolean) ∈ tb := ms_ 172 rfl rfl
set_option maxRecDepth 100000 in
theorem mm_173 : Cond.methodLink "PlainLibrary$Shelves" 89 ({ cls := "PlainLibrary$Shelves", name := "hasHeading", desc := "(II)Z" } : MethodName) ∈ tb := ms_ 173 rfl rfl
set_option maxRecDepth 100000 in
theorem mm_174 : Cond.instanceMethod ({ cls := "PlainLibrary$Shelves", name := "hasHeading", desc := "(II)Z" } : MethodName) ∈ tb := ms_ 174 rfl rfl
set_option maxRecDepth 100000 in
theorem mm_175 : Cond.selects "PlainLibrary$Shelves" ({ cls := "PlainLibrary$Shelves", name := "hasHeading", desc := "(II)Z" } : MethodName) ({ cls := "PlainLibrary$Shelves", name := "hasHeading", desc := "(II)Z" } : MethodName) ∈ tb := ms_ 175 rfl rfl
set_option maxRecDepth 100000 in
theorem mm_176 : Cond.code ({ cls := "PlainLibrary$Shelves", name := "hasHeading", desc := "(II)Z" } : MethodName) prog_3_method_9_code 3 (Option.some FieldType.boolean) ∈ tb := ms_ 176 rfl rfl
set_option maxRecDepth 100000 in
theorem mm_177 : Cond.methodLink "PlainLibrary$Shelves" 82 ({ cls := "PlainLibrary$Shelves", name := "wordIndex", desc := "(II)I" } : MethodName) ∈ tb := ms_ 177 rfl rfl
set_option maxRecDepth 100000 in
theorem mm_178 : Cond.static ({ cls := "PlainLibrary$Shelves", name := "wordIndex", desc := "(II)I" } : MethodName) ∈ tb := ms_ 178 rfl rfl
set_option maxRecDepth 100000 in
theorem mm_179 : Cond.code ({ cls := "PlainLibrary$Shelves", name := "wordIndex", desc := "(II)I" } : MethodName) prog_3_method_16_code 2 (Option.some FieldType.int) ∈ tb := ms_ 179 rfl rfl
set_option maxRecDepth 100000 in
theorem mm_180 : Cond.methodLink "PlainLibrary$Shelves" 85 ({ cls := "PlainLibrary$Shelves", name := "bitOf", desc := "(I)J" } : MethodName) ∈ tb := ms_ 180 rfl rfl
set_option maxRecDepth 100000 in
theorem mm_181 : Cond.static ({ cls := "PlainLibrary$Shelves", name := "bitOf", desc := "(I)J" } : MethodName) ∈ tb := ms_ 181 rfl rfl
set_option maxRecDepth 100000 in
theorem mm_182 : Cond.code ({ cls := "PlainLibrary$Shelves", name := "bitOf", desc := "(I)J" } : MethodName) prog_3_method_17_code 1 (Option.some FieldType.long) ∈ tb := ms_ 182 rfl rfl
set_option maxRecDepth 100000 in
theorem mm_183 : Cond.methodLink "PlainLibrary$Shelves" 53 ({ cls := "PlainLibrary$Shelves", name := "dropHeading", desc := "(II)Z" } : MethodName) ∈ tb := ms_ 183 rfl rfl
set_option maxRecDepth 100000 in
theorem mm_185 : Cond.instanceMethod ({ cls := "PlainLibrary$Shelves", name := "dropHeading", desc := "(II)Z" } : MethodName) ∈ tb := ms_ 185 rfl rfl
set_option maxRecDepth 100000 in
theorem mm_186 : Cond.code ({ cls := "PlainLibrary$Shelves", name := "dropHeading", desc := "(II)Z" } : MethodName) prog_3_method_19_code 3 (Option.some FieldType.boolean) ∈ tb := ms_ 186 rfl rfl
set_option maxRecDepth 100000 in
theorem mm_187 : Cond.constantLong "PlainLibrary$Shelves" 92 (-1) ∈ tb := ms_ 187 rfl rfl
set_option maxRecDepth 100000 in
theorem mm_188 : Cond.methodLink "PlainLibrary$Shelves" 56 ({ cls := "PlainLibrary$Shelves", name := "setRecord", desc := "(II)Z" } : MethodName) ∈ tb := ms_ 188 rfl rfl
set_option maxRecDepth 100000 in
theorem mm_190 : Cond.instanceMethod ({ cls := "PlainLibrary$Shelves", name := "setRecord", desc := "(II)Z" } : MethodName) ∈ tb := ms_ 190 rfl rfl
set_option maxRecDepth 100000 in
theorem mm_191 : Cond.code ({ cls := "PlainLibrary$Shelves", name := "setRecord", desc := "(II)Z" } : MethodName) prog_3_method_20_code 3 (Option.some FieldType.boolean) ∈ tb := ms_ 191 rfl rfl
set_option maxRecDepth 100000 in
theorem mm_192 : Cond.methodLink "PlainLibrary$Shelves" 59 ({ cls := "PlainLibrary$Shelves", name := "lend", desc := "(IIJ)Z" } : MethodName) ∈ tb := ms_ 192 rfl rfl
set_option maxRecDepth 100000 in
theorem mm_194 : Cond.instanceMethod ({ cls := "PlainLibrary$Shelves", name := "lend", desc := "(IIJ)Z" } : MethodName) ∈ tb := ms_ 194 rfl rfl
set_option maxRecDepth 100000 in
theorem mm_195 : Cond.code ({ cls := "PlainLibrary$Shelves", name := "lend", desc := "(IIJ)Z" } : MethodName) prog_3_method_21_code 7 (Option.some FieldType.boolean) ∈ tb := ms_ 195 rfl rfl
set_option maxRecDepth 100000 in
theorem mm_196 : Cond.methodLink "PlainLibrary$Shelves" 97 ({ cls := "PlainLibrary$Shelves", name := "personAt", desc := "(II)I" } : MethodName) ∈ tb := ms_ 196 rfl rfl
set_option maxRecDepth 100000 in
theorem mm_197 : Cond.instanceMethod ({ cls := "PlainLibrary$Shelves", name := "personAt", desc := "(II)I" } : MethodName) ∈ tb := ms_ 197 rfl rfl
set_option maxRecDepth 100000 in
theorem mm_198 : Cond.selects "PlainLibrary$Shelves" ({ cls := "PlainLibrary$Shelves", name := "personAt", desc := "(II)I" } : MethodName) ({ cls := "PlainLibrary$Shelves", name := "personAt", desc := "(II)I" } : MethodName) ∈ tb := ms_ 198 rfl rfl
set_option maxRecDepth 100000 in
theorem mm_199 : Cond.code ({ cls := "PlainLibrary$Shelves", name := "personAt", desc := "(II)I" } : MethodName) prog_3_method_12_code 3 (Option.some FieldType.int) ∈ tb := ms_ 199 rfl rfl
set_option maxRecDepth 100000 in
theorem mm_200 : Cond.methodLink "PlainLibrary$Shelves" 70 ({ cls := "PlainLibrary$Shelves", name := "leaveQueue", desc := "(II)Z" } : MethodName) ∈ tb := ms_ 200 rfl rfl
set_option maxRecDepth 100000 in
theorem mm_202 : Cond.instanceMethod ({ cls := "PlainLibrary$Shelves", name := "leaveQueue", desc := "(II)Z" } : MethodName) ∈ tb := ms_ 202 rfl rfl
set_option maxRecDepth 100000 in
theorem mm_203 : Cond.code ({ cls := "PlainLibrary$Shelves", name := "leaveQueue", desc := "(II)Z" } : MethodName) prog_3_method_25_code 5 (Option.some FieldType.boolean) ∈ tb := ms_ 203 rfl rfl
set_option maxRecDepth 100000 in
theorem mm_204 : Cond.methodLink "PlainLibrary$Shelves" 100 ({ cls := "PlainLibrary$Shelves", name := "placeInQueue", desc := "(II)I" } : MethodName) ∈ tb := ms_ 204 rfl rfl
set_option maxRecDepth 100000 in
theorem mm_206 : Cond.instanceMethod ({ cls := "PlainLibrary$Shelves", name := "placeInQueue", desc := "(II)I" } : MethodName) ∈ tb := ms_ 206 rfl rfl
set_option maxRecDepth 100000 in
theorem mm_207 : Cond.code ({ cls := "PlainLibrary$Shelves", name := "placeInQueue", desc := "(II)I" } : MethodName) prog_3_method_23_code 4 (Option.some FieldType.int) ∈ tb := ms_ 207 rfl rfl
set_option maxRecDepth 100000 in
theorem mm_208 : Cond.methodLink "PlainLibrary$Shelves" 103 ({ cls := "java/lang/System", name := "arraycopy", desc := "(Ljava/lang/Object;ILjava/lang/Object;II)V" } : MethodName) ∈ tb := ms_ 208 rfl rfl
set_option maxRecDepth 100000 in
theorem mm_209 : Cond.methodLink "PlainLibrary$Shelves" 63 ({ cls := "PlainLibrary$Shelves", name := "giveBack", desc := "(I)Z" } : MethodName) ∈ tb := ms_ 209 rfl rfl
set_option maxRecDepth 100000 in
theorem mm_211 : Cond.instanceMethod ({ cls := "PlainLibrary$Shelves", name := "giveBack", desc := "(I)Z" } : MethodName) ∈ tb := ms_ 211 rfl rfl
set_option maxRecDepth 100000 in
theorem mm_212 : Cond.code ({ cls := "PlainLibrary$Shelves", name := "giveBack", desc := "(I)Z" } : MethodName) prog_3_method_22_code 2 (Option.some FieldType.boolean) ∈ tb := ms_ 212 rfl rfl
set_option maxRecDepth 100000 in
theorem mm_213 : Cond.methodLink "PlainLibrary$Shelves" 67 ({ cls := "PlainLibrary$Shelves", name := "joinQueue", desc := "(II)Z" } : MethodName) ∈ tb := ms_ 213 rfl rfl
set_option maxRecDepth 100000 in
theorem mm_215 : Cond.instanceMethod ({ cls := "PlainLibrary$Shelves", name := "joinQueue", desc := "(II)Z" } : MethodName) ∈ tb := ms_ 215 rfl rfl
set_option maxRecDepth 100000 in
theorem mm_216 : Cond.code ({ cls := "PlainLibrary$Shelves", name := "joinQueue", desc := "(II)Z" } : MethodName) prog_3_method_24_code 4 (Option.some FieldType.boolean) ∈ tb := ms_ 216 rfl rfl
set_option maxRecDepth 100000 in
theorem mm_217 : Cond.methodLink "PlainLibrary$Shelves" 73 ({ cls := "PlainLibrary$Shelves", name := "sumIndex", desc := "(II)I" } : MethodName) ∈ tb := ms_ 217 rfl rfl
set_option maxRecDepth 100000 in
theorem mm_218 : Cond.static ({ cls := "PlainLibrary$Shelves", name := "sumIndex", desc := "(II)I" } : MethodName) ∈ tb := ms_ 218 rfl rfl
set_option maxRecDepth 100000 in
theorem mm_219 : Cond.code ({ cls := "PlainLibrary$Shelves", name := "sumIndex", desc := "(II)I" } : MethodName) prog_3_method_15_code 2 (Option.some FieldType.int) ∈ tb := ms_ 219 rfl rfl
set_option maxRecDepth 100000 in
theorem mm_220 : Cond.constantLong "PlainLibrary$Shelves" 77 7 ∈ tb := ms_ 220 rfl rfl
set_option maxRecDepth 100000 in
theorem mm_221 : Cond.methodLink "PlainLibrary$Shelves" 79 ({ cls := "PlainLibrary$Shelves", name := "loseFile", desc := "(II)Z" } : MethodName) ∈ tb := ms_ 221 rfl rfl
set_option maxRecDepth 100000 in
theorem mm_223 : Cond.instanceMethod ({ cls := "PlainLibrary$Shelves", name := "loseFile", desc := "(II)Z" } : MethodName) ∈ tb := ms_ 223 rfl rfl
set_option maxRecDepth 100000 in
theorem mm_224 : Cond.code ({ cls := "PlainLibrary$Shelves", name := "loseFile", desc := "(II)Z" } : MethodName) prog_3_method_26_code 4 (Option.some FieldType.boolean) ∈ tb := ms_ 224 rfl rfl
set_option maxRecDepth 100000 in
theorem mm_225 : Cond.methodLink "PlainLibraryLaw" 25 ({ cls := "PlainLibrary", name := "events", desc := "()I" } : MethodName) ∈ tb := ms_ 225 rfl rfl
set_option maxRecDepth 100000 in
theorem mm_226 : Cond.instanceMethod ({ cls := "PlainLibrary", name := "events", desc := "()I" } : MethodName) ∈ tb := ms_ 226 rfl rfl
set_option maxRecDepth 100000 in
theorem mm_227 : Cond.selects "PlainLibrary" ({ cls := "PlainLibrary", name := "events", desc := "()I" } : MethodName) ({ cls := "PlainLibrary", name := "events", desc := "()I" } : MethodName) ∈ tb := ms_ 227 rfl rfl
set_option maxRecDepth 100000 in
theorem mm_228 : Cond.code ({ cls := "PlainLibrary", name := "events", desc := "()I" } : MethodName) prog_1_method_4_code 1 (Option.some FieldType.int) ∈ tb := ms_ 228 rfl rfl
set_option maxRecDepth 100000 in
theorem mm_229 : Cond.methodLink "PlainLibraryLaw" 30 ({ cls := "PlainLibrary", name := "refused", desc := "()I" } : MethodName) ∈ tb := ms_ 229 rfl rfl
set_option maxRecDepth 100000 in
theorem mm_230 : Cond.instanceMethod ({ cls := "PlainLibrary", name := "refused", desc := "()I" } : MethodName) ∈ tb := ms_ 230 rfl rfl
set_option maxRecDepth 100000 in
theorem mm_231 : Cond.selects "PlainLibrary" ({ cls := "PlainLibrary", name := "refused", desc := "()I" } : MethodName) ({ cls := "PlainLibrary", name := "refused", desc := "()I" } : MethodName) ∈ tb := ms_ 231 rfl rfl
set_option maxRecDepth 100000 in
theorem mm_232 : Cond.code ({ cls := "PlainLibrary", name := "refused", desc := "()I" } : MethodName) prog_1_method_5_code 3 (Option.some FieldType.int) ∈ tb := ms_ 232 rfl rfl
set_option maxRecDepth 100000 in
theorem mm_233 : Cond.methodLink "PlainLibraryLaw" 34 ({ cls := "PlainLibrary", name := "state", desc := "(IIJ)I" } : MethodName) ∈ tb := ms_ 233 rfl rfl
set_option maxRecDepth 100000 in
theorem mm_234 : Cond.instanceMethod ({ cls := "PlainLibrary", name := "state", desc := "(IIJ)I" } : MethodName) ∈ tb := ms_ 234 rfl rfl
set_option maxRecDepth 100000 in
theorem mm_235 : Cond.selects "PlainLibrary" ({ cls := "PlainLibrary", name := "state", desc := "(IIJ)I" } : MethodName) ({ cls := "PlainLibrary", name := "state", desc := "(IIJ)I" } : MethodName) ∈ tb := ms_ 235 rfl rfl
set_option maxRecDepth 100000 in
theorem mm_236 : Cond.code ({ cls := "PlainLibrary", name := "state", desc := "(IIJ)I" } : MethodName) prog_1_method_6_code 5 (Option.some FieldType.int) ∈ tb := ms_ 236 rfl rfl
set_option maxRecDepth 100000 in
theorem mm_237 : Cond.methodLink "PlainLibrary" 60 ({ cls := "PlainLibrary", name := "performUpTo", desc := "(J)V" } : MethodName) ∈ tb := ms_ 237 rfl rfl
set_option maxRecDepth 100000 in
theorem mm_239 : Cond.instanceMethod ({ cls := "PlainLibrary", name := "performUpTo", desc := "(J)V" } : MethodName) ∈ tb := ms_ 239 rfl rfl
set_option maxRecDepth 100000 in
theorem mm_240 : Cond.code ({ cls := "PlainLibrary", name := "performUpTo", desc := "(J)V" } : MethodName) prog_1_method_20_code 4 (Option.none : Option FieldType) ∈ tb := ms_ 240 rfl rfl
set_option maxRecDepth 100000 in
theorem mm_241 : Cond.methodLink "PlainLibrary" 105 ({ cls := "PlainLibrary$Row", name := "dayOf", desc := "(I)J" } : MethodName) ∈ tb := ms_ 241 rfl rfl
set_option maxRecDepth 100000 in
theorem mm_242 : Cond.instanceMethod ({ cls := "PlainLibrary$Row", name := "dayOf", desc := "(I)J" } : MethodName) ∈ tb := ms_ 242 rfl rfl
set_option maxRecDepth 100000 in
theorem mm_243 : Cond.selects "PlainLibrary$Row" ({ cls := "PlainLibrary$Row", name := "dayOf", desc := "(I)J" } : MethodName) ({ cls := "PlainLibrary$Row", name := "dayOf", desc := "(I)J" } : MethodName) ∈ tb := ms_ 243 rfl rfl
set_option maxRecDepth 100000 in
theorem mm_244 : Cond.code ({ cls := "PlainLibrary$Row", name := "dayOf", desc := "(I)J" } : MethodName) prog_2_method_3_code 2 (Option.some FieldType.long) ∈ tb := ms_ 244 rfl rfl
set_option maxRecDepth 100000 in
theorem mm_245 : Cond.methodLink "PlainLibrary" 64 ({ cls := "PlainLibrary$Shelves", name := "recordOf", desc := "(I)I" } : MethodName) ∈ tb := ms_ 245 rfl rfl
set_option maxRecDepth 100000 in
theorem mm_246 : Cond.instanceMethod ({ cls := "PlainLibrary$Shelves", name := "recordOf", desc := "(I)I" } : MethodName) ∈ tb := ms_ 246 rfl rfl
set_option maxRecDepth 100000 in
theorem mm_247 : Cond.selects "PlainLibrary$Shelves" ({ cls := "PlainLibrary$Shelves", name := "recordOf", desc := "(I)I" } : MethodName) ({ cls := "PlainLibrary$Shelves", name := "recordOf", desc := "(I)I" } : MethodName) ∈ tb := ms_ 247 rfl rfl
set_option maxRecDepth 100000 in
theorem mm_248 : Cond.code ({ cls := "PlainLibrary$Shelves", name := "recordOf", desc := "(I)I" } : MethodName) prog_3_method_4_code 2 (Option.some FieldType.int) ∈ tb := ms_ 248 rfl rfl
set_option maxRecDepth 100000 in
theorem mm_249 : Cond.methodLink "PlainLibrary" 68 ({ cls := "PlainLibrary$Shelves", name := "personWith", desc := "(I)I" } : MethodName) ∈ tb := ms_ 249 rfl rfl
set_option maxRecDepth 100000 in
theorem mm_250 : Cond.instanceMethod ({ cls := "PlainLibrary$Shelves", name := "personWith", desc := "(I)I" } : MethodName) ∈ tb := ms_ 250 rfl rfl
set_option maxRecDepth 100000 in
theorem mm_251 : Cond.selects "PlainLibrary$Shelves" ({ cls := "PlainLibrary$Shelves", name := "personWith", desc := "(I)I" } : MethodName) ({ cls := "PlainLibrary$Shelves", name := "personWith", desc := "(I)I" } : MethodName) ∈ tb := ms_ 251 rfl rfl
set_option maxRecDepth 100000 in
theorem mm_252 : Cond.code ({ cls := "PlainLibrary$Shelves", name := "personWith", desc := "(I)I" } : MethodName) prog_3_method_5_code 2 (Option.some FieldType.int) ∈ tb := ms_ 252 rfl rfl
set_option maxRecDepth 100000 in
theorem mm_253 : Cond.methodLink "PlainLibrary" 71 ({ cls := "PlainLibrary$Shelves", name := "classOf", desc := "(I)I" } : MethodName) ∈ tb := ms_ 253 rfl rfl
set_option maxRecDepth 100000 in
theorem mm_254 : Cond.instanceMethod ({ cls := "PlainLibrary$Shelves", name := "classOf", desc := "(I)I" } : MethodName) ∈ tb := ms_ 254 rfl rfl
set_option maxRecDepth 100000 in
theorem mm_255 : Cond.selects "PlainLibrary$Shelves" ({ cls := "PlainLibrary$Shelves", name := "classOf", desc := "(I)I" } : MethodName) ({ cls := "PlainLibrary$Shelves", name := "classOf", desc := "(I)I" } : MethodName) ∈ tb := ms_ 255 rfl rfl
set_option maxRecDepth 100000 in
theorem mm_256 : Cond.code ({ cls := "PlainLibrary$Shelves", name := "classOf", desc := "(I)I" } : MethodName) prog_3_method_6_code 2 (Option.some FieldType.int) ∈ tb := ms_ 256 rfl rfl
set_option maxRecDepth 100000 in
theorem mm_257 : Cond.methodLink "PlainLibrary" 74 ({ cls := "PlainLibrary$Shelves", name := "copiesThereOf", desc := "(I)I" } : MethodName) ∈ tb := ms_ 257 rfl rfl
set_option maxRecDepth 100000 in
theorem mm_258 : Cond.instanceMethod ({ cls := "PlainLibrary$Shelves", name := "copiesThereOf", desc := "(I)I" } : MethodName) ∈ tb := ms_ 258 rfl rfl
set_option maxRecDepth 100000 in
theorem mm_259 : Cond.selects "PlainLibrary$Shelves" ({ cls := "PlainLibrary$Shelves", name := "copiesThereOf", desc := "(I)I" } : MethodName) ({ cls := "PlainLibrary$Shelves", name := "copiesThereOf", desc := "(I)I" } : MethodName) ∈ tb := ms_ 259 rfl rfl
set_option maxRecDepth 100000 in
theorem mm_260 : Cond.code ({ cls := "PlainLibrary$Shelves", name := "copiesThereOf", desc := "(I)I" } : MethodName) prog_3_method_7_code 4 (Option.some FieldType.int) ∈ tb := ms_ 260 rfl rfl
set_option maxRecDepth 100000 in
theorem mm_261 : Cond.methodLink "PlainLibraryLaw" 39 ({ cls := "PlainLibrary", name := "heading", desc := "(II)I" } : MethodName) ∈ tb := ms_ 261 rfl rfl
set_option maxRecDepth 100000 in
theorem mm_262 : Cond.instanceMethod ({ cls := "PlainLibrary", name := "heading", desc := "(II)I" } : MethodName) ∈ tb := ms_ 262 rfl rfl
set_option maxRecDepth 100000 in
theorem mm_263 : Cond.selects "PlainLibrary" ({ cls := "PlainLibrary", name := "heading", desc := "(II)I" } : MethodName) ({ cls := "PlainLibrary", name := "heading", desc := "(II)I" } : MethodName) ∈ tb := ms_ 263 rfl rfl
set_option maxRecDepth 100000 in
theorem mm_264 : Cond.code ({ cls := "PlainLibrary", name := "heading", desc := "(II)I" } : MethodName) prog_1_method_7_code 3 (Option.some FieldType.int) ∈ tb := ms_ 264 rfl rfl
set_option maxRecDepth 100000 in
theorem mm_265 : Cond.methodLink "PlainLibrary" 77 ({ cls := "PlainLibrary", name := "performAll", desc := "()V" } : MethodName) ∈ tb := ms_ 265 rfl rfl
set_option maxRecDepth 100000 in
theorem mm_267 : Cond.instanceMethod ({ cls := "PlainLibrary", name := "performAll", desc := "()V" } : MethodName) ∈ tb := ms_ 267 rfl rfl
set_option maxRecDepth 100000 in
theorem mm_268 : Cond.code ({ cls := "PlainLibrary", name := "performAll", desc := "()V" } : MethodName) prog_1_method_19_code 1 (Option.none : Option FieldType) ∈ tb := ms_ 268 rfl rfl
set_option maxRecDepth 100000 in
theorem mm_269 : Cond.methodLink "PlainLibrary" 80 ({ cls := "PlainLibrary$Shelves", name := "headingAt", desc := "(II)I" } : MethodName) ∈ tb := ms_ 269 rfl rfl
set_option maxRecDepth 100000 in
theorem mm_270 : Cond.instanceMethod ({ cls := "PlainLibrary$Shelves", name := "headingAt", desc := "(II)I" } : MethodName) ∈ tb := ms_ 270 rfl rfl
set_option maxRecDepth 100000 in
theorem mm_271 : Cond.selects "PlainLibrary$Shelves" ({ cls := "PlainLibrary$Shelves", name := "headingAt", desc := "(II)I" } : MethodName) ({ cls := "PlainLibrary$Shelves", name := "headingAt", desc := "(II)I" } : MethodName) ∈ tb := ms_ 271 rfl rfl
set_option maxRecDepth 100000 in
theorem mm_272 : Cond.code ({ cls := "PlainLibrary$Shelves", name := "headingAt", desc := "(II)I" } : MethodName) prog_3_method_10_code 5 (Option.some FieldType.int) ∈ tb := ms_ 272 rfl rfl
set_option maxRecDepth 100000 in
theorem mm_273 : Cond.methodLink "PlainLibraryLaw" 44 ({ cls := "PlainLibrary", name := "question", desc := "(II)I" } : MethodName) ∈ tb := ms_ 273 rfl rfl
set_option maxRecDepth 100000 in
theorem mm_274 : Cond.instanceMethod ({ cls := "PlainLibrary", name := "question", desc := "(II)I" } : MethodName) ∈ tb := ms_ 274 rfl rfl
set_option maxRecDepth 100000 in
theorem mm_275 : Cond.selects "PlainLibrary" ({ cls := "PlainLibrary", name := "question", desc := "(II)I" } : MethodName) ({ cls := "PlainLibrary", name := "question", desc := "(II)I" } : MethodName) ∈ tb := ms_ 275 rfl rfl
set_option maxRecDepth 100000 in
theorem mm_276 : Cond.code ({ cls := "PlainLibrary", name := "question", desc := "(II)I" } : MethodName) prog_1_method_8_code 4 (Option.some FieldType.int) ∈ tb := ms_ 276 rfl rfl
set_option maxRecDepth 100000 in
theorem mm_277 : Cond.methodLink "PlainLibrary" 86 ({ cls := "PlainLibrary$Shelves", name := "hasHeading", desc := "(II)Z" } : MethodName) ∈ tb := ms_ 277 rfl rfl
set_option maxRecDepth 100000 in
theorem mm_278 : Cond.methodLink "PlainLibraryLaw" 48 ({ cls := "PlainLibrary", name := "hit", desc := "(I)I" } : MethodName) ∈ tb := ms_ 278 rfl rfl
set_option maxRecDepth 100000 in
theorem mm_279 : Cond.instanceMethod ({ cls := "PlainLibrary", name := "hit", desc := "(I)I" } : MethodName) ∈ tb := ms_ 279 rfl rfl
set_option maxRecDepth 100000 in
theorem mm_280 : Cond.selects "PlainLibrary" ({ cls := "PlainLibrary", name := "hit", desc := "(I)I" } : MethodName) ({ cls := "PlainLibrary", name := "hit", desc := "(I)I" } : MethodName) ∈ tb := ms_ 280 rfl rfl
set_option maxRecDepth 100000 in
theorem mm_281 : Cond.code ({ cls := "PlainLibrary", name := "hit", desc := "(I)I" } : MethodName) prog_1_method_9_code 2 (Option.some FieldType.int) ∈ tb := ms_ 281 rfl rfl
set_option maxRecDepth 100000 in
theorem mm_282 : Cond.methodLink "PlainLibraryLaw" 52 ({ cls := "PlainLibrary", name := "due", desc := "(I)J" } : MethodName) ∈ tb := ms_ 282 rfl rfl
set_option maxRecDepth 100000 in
theorem mm_283 : Cond.instanceMethod ({ cls := "PlainLibrary", name := "due", desc := "(I)J" } : MethodName) ∈ tb := ms_ 283 rfl rfl
set_option maxRecDepth 100000 in
theorem mm_284 : Cond.selects "PlainLibrary" ({ cls := "PlainLibrary", name := "due", desc := "(I)J" } : MethodName) ({ cls := "PlainLibrary", name := "due", desc := "(I)J" } : MethodName) ∈ tb := ms_ 284 rfl rfl
set_option maxRecDepth 100000 in
theorem mm_285 : Cond.code ({ cls := "PlainLibrary", name := "due", desc := "(I)J" } : MethodName) prog_1_method_10_code 2 (Option.some FieldType.long) ∈ tb := ms_ 285 rfl rfl
set_option maxRecDepth 100000 in
theorem mm_286 : Cond.constantLong "PlainLibrary" 90 (-1) ∈ tb := ms_ 286 rfl rfl
set_option maxRecDepth 100000 in
theorem mm_287 : Cond.methodLink "PlainLibrary" 92 ({ cls := "PlainLibrary$Shelves", name := "dueDayOf", desc := "(I)J" } : MethodName) ∈ tb := ms_ 287 rfl rfl
set_option maxRecDepth 100000 in
theorem mm_288 : Cond.instanceMethod ({ cls := "PlainLibrary$Shelves", name := "dueDayOf", desc := "(I)J" } : MethodName) ∈ tb := ms_ 288 rfl rfl
set_option maxRecDepth 100000 in
theorem mm_289 : Cond.selects "PlainLibrary$Shelves" ({ cls := "PlainLibrary$Shelves", name := "dueDayOf", desc := "(I)J" } : MethodName) ({ cls := "PlainLibrary$Shelves", name := "dueDayOf", desc := "(I)J" } : MethodName) ∈ tb := ms_ 289 rfl rfl
set_option maxRecDepth 100000 in
theorem mm_290 : Cond.code ({ cls := "PlainLibrary$Shelves", name := "dueDayOf", desc := "(I)J" } : MethodName) prog_3_method_11_code 2 (Option.some FieldType.long) ∈ tb := ms_ 290 rfl rfl
set_option maxRecDepth 100000 in
theorem mm_291 : Cond.methodLink "PlainLibraryLaw" 57 ({ cls := "PlainLibrary", name := "queue", desc := "(II)I" } : MethodName) ∈ tb := ms_ 291 rfl rfl
set_option maxRecDepth 100000 in
theorem mm_292 : Cond.instanceMethod ({ cls := "PlainLibrary", name := "queue", desc := "(II)I" } : MethodName) ∈ tb := ms_ 292 rfl rfl
set_option maxRecDepth 100000 in
theorem mm_293 : Cond.selects "PlainLibrary" ({ cls := "PlainLibrary", name := "queue", desc := "(II)I" } : MethodName) ({ cls := "PlainLibrary", name := "queue", desc := "(II)I" } : MethodName) ∈ tb := ms_ 293 rfl rfl
set_option maxRecDepth 100000 in
theorem mm_294 : Cond.code ({ cls := "PlainLibrary", name := "queue", desc := "(II)I" } : MethodName) prog_1_method_11_code 3 (Option.some FieldType.int) ∈ tb := ms_ 294 rfl rfl
set_option maxRecDepth 100000 in
theorem mm_295 : Cond.methodLink "PlainLibrary" 96 ({ cls := "PlainLibrary$Shelves", name := "personAt", desc := "(II)I" } : MethodName) ∈ tb := ms_ 295 rfl rfl
set_option maxRecDepth 100000 in
theorem mm_296 : Cond.methodLink "PlainLibraryLaw" 61 ({ cls := "PlainLibrary", name := "poll", desc := "(I)I" } : MethodName) ∈ tb := ms_ 296 rfl rfl
set_option maxRecDepth 100000 in
theorem mm_297 : Cond.instanceMethod ({ cls := "PlainLibrary", name := "poll", desc := "(I)I" } : MethodName) ∈ tb := ms_ 297 rfl rfl
set_option maxRecDepth 100000 in
theorem mm_298 : Cond.selects "PlainLibrary" ({ cls := "PlainLibrary", name := "poll", desc := "(I)I" } : MethodName) ({ cls := "PlainLibrary", name := "poll", desc := "(I)I" } : MethodName) ∈ tb := ms_ 298 rfl rfl
set_option maxRecDepth 100000 in
theorem mm_299 : Cond.code ({ cls := "PlainLibrary", name := "poll", desc := "(I)I" } : MethodName) prog_1_method_12_code 2 (Option.some FieldType.int) ∈ tb := ms_ 299 rfl rfl
set_option maxRecDepth 100000 in
theorem mm_300 : Cond.methodLink "PlainLibrary" 99 ({ cls := "PlainLibrary$Shelves", name := "commonSumOf", desc := "(I)I" } : MethodName) ∈ tb := ms_ 300 rfl rfl
set_option maxRecDepth 100000 in
theorem mm_301 : Cond.instanceMethod ({ cls := "PlainLibrary$Shelves", name := "commonSumOf", desc := "(I)I" } : MethodName) ∈ tb := ms_ 301 rfl rfl
set_option maxRecDepth 100000 in
theorem mm_302 : Cond.selects "PlainLibrary$Shelves" ({ cls := "PlainLibrary$Shelves", name := "commonSumOf", desc := "(I)I" } : MethodName) ({ cls := "PlainLibrary$Shelves", name := "commonSumOf", desc := "(I)I" } : MethodName) ∈ tb := ms_ 302 rfl rfl
set_option maxRecDepth 100000 in
theorem mm_303 : Cond.code ({ cls := "PlainLibrary$Shelves", name := "commonSumOf", desc := "(I)I" } : MethodName) prog_3_method_13_code 4 (Option.some FieldType.int) ∈ tb := ms_ 303 rfl rfl
set_option maxRecDepth 100000 in
theorem mm_304 : Cond.methodLink "PlainLibrary$Shelves" 94 ({ cls := "PlainLibrary$Shelves", name := "storesWith", desc := "(II)I" } : MethodName) ∈ tb := ms_ 304 rfl rfl
set_option maxRecDepth 100000 in
theorem mm_306 : Cond.instanceMethod ({ cls := "PlainLibrary$Shelves", name := "storesWith", desc := "(II)I" } : MethodName) ∈ tb := ms_ 306 rfl rfl
set_option maxRecDepth 100000 in
theorem mm_307 : Cond.code ({ cls := "PlainLibrary$Shelves", name := "storesWith", desc := "(II)I" } : MethodName) prog_3_method_14_code 5 (Option.some FieldType.int) ∈ tb := ms_ 307 rfl rfl
set_option maxRecDepth 100000 in
theorem mm_308 : Cond.methodLink "PlainLibraryLaw" 65 ({ cls := "PlainLibrary", name := "kept", desc := "(IIJI)I" } : MethodName) ∈ tb := ms_ 308 rfl rfl
set_option maxRecDepth 100000 in
theorem mm_309 : Cond.instanceMethod ({ cls := "PlainLibrary", name := "kept", desc := "(IIJI)I" } : MethodName) ∈ tb := ms_ 309 rfl rfl
set_option maxRecDepth 100000 in
theorem mm_310 : Cond.selects "PlainLibrary" ({ cls := "PlainLibrary", name := "kept", desc := "(IIJI)I" } : MethodName) ({ cls := "PlainLibrary", name := "kept", desc := "(IIJI)I" } : MethodName) ∈ tb := ms_ 310 rfl rfl
set_option maxRecDepth 100000 in
theorem mm_311 : Cond.code ({ cls := "PlainLibrary", name := "kept", desc := "(IIJI)I" } : MethodName) prog_1_method_13_code 11 (Option.some FieldType.int) ∈ tb := ms_ 311 rfl rfl
set_option maxRecDepth 100000 in
theorem mm_312 : Cond.methodLink "PlainLibrary" 102 ({ cls := "PlainLibrary$Row", name := "copyGivenBackBy", desc := "(I)I" } : MethodName) ∈ tb := ms_ 312 rfl rfl
set_option maxRecDepth 100000 in
theorem mm_313 : Cond.instanceMethod ({ cls := "PlainLibrary$Row", name := "copyGivenBackBy", desc := "(I)I" } : MethodName) ∈ tb := ms_ 313 rfl rfl
set_option maxRecDepth 100000 in
theorem mm_314 : Cond.selects "PlainLibrary$Row" ({ cls := "PlainLibrary$Row", name := "copyGivenBackBy", desc := "(I)I" } : MethodName) ({ cls := "PlainLibrary$Row", name := "copyGivenBackBy", desc := "(I)I" } : MethodName) ∈ tb := ms_ 314 rfl rfl
set_option maxRecDepth 100000 in
theorem mm_315 : Cond.code ({ cls := "PlainLibrary$Row", name := "copyGivenBackBy", desc := "(I)I" } : MethodName) prog_2_method_4_code 2 (Option.some FieldType.int) ∈ tb := ms_ 315 rfl rfl
set_option maxRecDepth 100000 in
theorem mm_316 : Cond.methodLink "PlainLibraryLaw" 70 ({ cls := "PlainLibrary", name := "most", desc := "(I)I" } : MethodName) ∈ tb := ms_ 316 rfl rfl
set_option maxRecDepth 100000 in
theorem mm_317 : Cond.instanceMethod ({ cls := "PlainLibrary", name := "most", desc := "(I)I" } : MethodName) ∈ tb := ms_ 317 rfl rfl
set_option maxRecDepth 100000 in
theorem mm_318 : Cond.selects "PlainLibrary" ({ cls := "PlainLibrary", name := "most", desc := "(I)I" } : MethodName) ({ cls := "PlainLibrary", name := "most", desc := "(I)I" } : MethodName) ∈ tb := ms_ 318 rfl rfl
set_option maxRecDepth 100000 in
theorem mm_319 : Cond.code ({ cls := "PlainLibrary", name := "most", desc := "(I)I" } : MethodName) prog_1_method_14_code 4 (Option.some FieldType.int) ∈ tb := ms_ 319 rfl rfl
set_option maxRecDepth 100000 in
theorem mm_320 : Cond.methodLink "PlainLibrary" 108 ({ cls := "PlainLibrary$Shelves", name := "copiesWith", desc := "(I)I" } : MethodName) ∈ tb := ms_ 320 rfl rfl
set_option maxRecDepth 100000 in
theorem mm_321 : Cond.instanceMethod ({ cls := "PlainLibrary$Shelves", name := "copiesWith", desc := "(I)I" } : MethodName) ∈ tb := ms_ 321 rfl rfl
set_option maxRecDepth 100000 in
theorem mm_322 : Cond.selects "PlainLibrary$Shelves" ({ cls := "PlainLibrary$Shelves", name := "copiesWith", desc := "(I)I" } : MethodName) ({ cls := "PlainLibrary$Shelves", name := "copiesWith", desc := "(I)I" } : MethodName) ∈ tb := ms_ 322 rfl rfl
set_option maxRecDepth 100000 in
theorem mm_323 : Cond.code ({ cls := "PlainLibrary$Shelves", name := "copiesWith", desc := "(I)I" } : MethodName) prog_3_method_8_code 4 (Option.some FieldType.int) ∈ tb := ms_ 323 rfl rfl
set_option maxRecDepth 100000 in
theorem mm_324 : Cond.methodLink "PlainLibrary" 111 ({ cls := "java/lang/Math", name := "max", desc := "(II)I" } : MethodName) ∈ tb := ms_ 324 rfl rfl
set_option maxRecDepth 100000 in
theorem mm_325 : Cond.static ({ cls := "java/lang/Math", name := "max", desc := "(II)I" } : MethodName) ∈ tb := ms_ 325 rfl rfl
set_option maxRecDepth 100000 in
theorem mm_326 : Cond.code ({ cls := "java/lang/Math", name := "max", desc := "(II)I" } : MethodName) prog_6_method_65_code 2 (Option.some FieldType.int) ∈ tb := ms_ 326 rfl rfl
set_option maxRecDepth 100000 in
theorem mm_327 : Cond.methodLink "PlainLibraryLaw" 74 ({ cls := "PlainLibrary", name := "least", desc := "()I" } : MethodName) ∈ tb := ms_ 327 rfl rfl
set_option maxRecDepth 100000 in
theorem mm_328 : Cond.instanceMethod ({ cls := "PlainLibrary", name := "least", desc := "()I" } : MethodName) ∈ tb := ms_ 328 rfl rfl
set_option maxRecDepth 100000 in
theorem mm_329 : Cond.selects "PlainLibrary" ({ cls := "PlainLibrary", name := "least", desc := "()I" } : MethodName) ({ cls := "PlainLibrary", name := "least", desc := "()I" } : MethodName) ∈ tb := ms_ 329 rfl rfl
set_option maxRecDepth 100000 in
theorem mm_330 : Cond.code ({ cls := "PlainLibrary", name := "least", desc := "()I" } : MethodName) prog_1_method_15_code 2 (Option.some FieldType.int) ∈ tb := ms_ 330 rfl rfl
set_option maxRecDepth 100000 in
theorem mm_331 : Cond.methodLink "PlainLibrary" 116 ({ cls := "PlainLibrary", name := "firstVoidWithout", desc := "(II)I" } : MethodName) ∈ tb := ms_ 331 rfl rfl
set_option maxRecDepth 100000 in
theorem mm_333 : Cond.instanceMethod ({ cls := "PlainLibrary", name := "firstVoidWithout", desc := "(II)I" } : MethodName) ∈ tb := ms_ 333 rfl rfl
set_option maxRecDepth 100000 in
theorem mm_334 : Cond.code ({ cls := "PlainLibrary", name := "firstVoidWithout", desc := "(II)I" } : MethodName) prog_1_method_21_code 4 (Option.some FieldType.int) ∈ tb := ms_ 334 rfl rfl
set_option maxRecDepth 100000 in
theorem mm_335 : Cond.methodLink "PlainLibrary" 119 ({ cls := "PlainLibrary", name := "oneLessIsEnough", desc := "(I)Z" } : MethodName) ∈ tb := ms_ 335 rfl rfl
set_option maxRecDepth 100000 in
theorem mm_337 : Cond.instanceMethod ({ cls := "PlainLibrary", name := "oneLessIsEnough", desc := "(I)Z" } : MethodName) ∈ tb := ms_ 337 rfl rfl
set_option maxRecDepth 100000 in
theorem mm_338 : Cond.code ({ cls := "PlainLibrary", name := "oneLessIsEnough", desc := "(I)Z" } : MethodName) prog_1_method_22_code 3 (Option.some FieldType.boolean) ∈ tb := ms_ 338 rfl rfl
set_option maxRecDepth 100000 in
theorem mm_339 : Cond.methodLink "PlainLibrary" 123 ({ cls := "PlainLibrary", name := "twoLessAreEnough", desc := "(I)Z" } : MethodName) ∈ tb := ms_ 339 rfl rfl
set_option maxRecDepth 100000 in
theorem mm_341 : Cond.instanceMethod ({ cls := "PlainLibrary", name := "twoLessAreEnough", desc := "(I)Z" } : MethodName) ∈ tb := ms_ 341 rfl rfl
set_option maxRecDepth 100000 in
theorem mm_342 : Cond.code ({ cls := "PlainLibrary", name := "twoLessAreEnough", desc := "(I)Z" } : MethodName) prog_1_method_23_code 5 (Option.some FieldType.boolean) ∈ tb := ms_ 342 rfl rfl
set_option maxRecDepth 100000 in
theorem mm_343 : Cond.classLink "PlainLibraryLaw" 10 "PlainLibraryModel" ∈ tb := ms_ 343 rfl rfl
set_option maxRecDepth 100000 in
theorem mm_344 : Cond.instantiable "PlainLibraryModel" 21 ∈ tb := ms_ 344 rfl rfl
set_option maxRecDepth 100000 in
theorem mm_345 : Cond.methodLink "PlainLibraryLaw" 12 ({ cls := "PlainLibraryModel", name := "<init>", desc := "()V" } : MethodName) ∈ tb := ms_ 345 rfl rfl
set_option maxRecDepth 100000 in
theorem mm_346 : Cond.instanceMethod ({ cls := "PlainLibraryModel", name := "<init>", desc := "()V" } : MethodName) ∈ tb := ms_ 346 rfl rfl
set_option maxRecDepth 100000 in
theorem mm_347 : Cond.code ({ cls := "PlainLibraryModel", name := "<init>", desc := "()V" } : MethodName) prog_5_method_1_code 1 (Option.none : Option FieldType) ∈ tb := ms_ 347 rfl rfl
set_option maxRecDepth 100000 in
theorem mm_348 : Cond.methodLink "PlainLibraryModel" 1 ({ cls := "java/lang/Object", name := "<init>", desc := "()V" } : MethodName) ∈ tb := ms_ 348 rfl rfl
set_option maxRecDepth 100000 in
theorem mm_349 : Cond.fieldLink "PlainLibraryModel" 60 "PlainLibraryModel" "thrown" "I" ∈ tb := ms_ 349 rfl rfl
set_option maxRecDepth 100000 in
theorem mm_350 : Cond.fieldLink "PlainLibraryModel" 7 "PlainLibraryModel" "sorts" "[I" ∈ tb := ms_ 350 rfl rfl
set_option maxRecDepth 100000 in
theorem mm_351 : Cond.fieldLink "PlainLibraryModel" 13 "PlainLibraryModel" "as" "[I" ∈ tb := ms_ 351 rfl rfl
set_option maxRecDepth 100000 in
theorem mm_352 : Cond.fieldLink "PlainLibraryModel" 16 "PlainLibraryModel" "bs" "[J" ∈ tb := ms_ 352 rfl rfl
set_option maxRecDepth 100000 in
theorem mm_353 : Cond.fieldLink "PlainLibraryModel" 20 "PlainLibraryModel" "days" "[J" ∈ tb := ms_ 353 rfl rfl
set_option maxRecDepth 100000 in
theorem mm_354 : Cond.fieldLink "PlainLibraryModel" 84 "PlainLibraryModel" "count" "I" ∈ tb := ms_ 354 rfl rfl
set_option maxRecDepth 100000 in
theorem mm_355 : Cond.fieldLink "PlainLibraryModel" 23 "PlainLibraryModel" "headings" "[Z" ∈ tb := ms_ 355 rfl rfl
set_option maxRecDepth 100000 in
theorem mm_356 : Cond.fieldLink "PlainLibraryModel" 27 "PlainLibraryModel" "recordOf" "[I" ∈ tb := ms_ 356 rfl rfl
set_option maxRecDepth 100000 in
theorem mm_357 : Cond.fieldLink "PlainLibraryModel" 30 "PlainLibraryModel" "person" "[I" ∈ tb := ms_ 357 rfl rfl
set_option maxRecDepth 100000 in
theorem mm_358 : Cond.fieldLink "PlainLibraryModel" 33 "PlainLibraryModel" "due" "[J" ∈ tb := ms_ 358 rfl rfl
set_option maxRecDepth 100000 in
theorem mm_359 : Cond.fieldLink "PlainLibraryModel" 36 "PlainLibraryModel" "queues" "[I" ∈ tb := ms_ 359 rfl rfl
set_option maxRecDepth 100000 in
theorem mm_360 : Cond.fieldLink "PlainLibraryModel" 39 "PlainLibraryModel" "queueSizes" "[I" ∈ tb := ms_ 360 rfl rfl
set_option maxRecDepth 100000 in
theorem mm_361 : Cond.fieldLink "PlainLibraryModel" 42 "PlainLibraryModel" "sums" "[I" ∈ tb := ms_ 361 rfl rfl
set_option maxRecDepth 100000 in
theorem mm_362 : Cond.fieldLink "PlainLibraryModel" 45 "PlainLibraryModel" "classes" "[I" ∈ tb := ms_ 362 rfl rfl
set_option maxRecDepth 100000 in
theorem mm_363 : Cond.fieldLink "PlainLibraryModel" 48 "PlainLibraryModel" "lasts" "[I" ∈ tb := ms_ 363 rfl rfl
set_option maxRecDepth 100000 in
theorem mm_364 : Cond.fieldLink "PlainLibraryModel" 51 "PlainLibraryModel" "isVoid" "[Z" ∈ tb := ms_ 364 rfl rfl
set_option maxRecDepth 100000 in
theorem mm_365 : Cond.fieldLink "PlainLibraryModel" 54 "PlainLibraryModel" "backOf" "[I" ∈ tb := ms_ 365 rfl rfl
set_option maxRecDepth 100000 in
theorem mm_366 : Cond.fieldLink "PlainLibraryModel" 87 "PlainLibraryModel" "voids" "I" ∈ tb := ms_ 366 rfl rfl
set_option maxRecDepth 100000 in
theorem mm_367 : Cond.fieldLink "PlainLibraryModel" 90 "PlainLibraryModel" "peak" "I" ∈ tb := ms_ 367 rfl rfl
set_option maxRecDepth 100000 in
theorem mm_368 : Cond.fieldLink "PlainLibraryModel" 57 "PlainLibraryModel" "hits" "[I" ∈ tb := ms_ 368 rfl rfl
set_option maxRecDepth 100000 in
theorem mm_369 : Cond.fieldLink "PlainLibraryModel" 134 "PlainLibraryModel" "hitCount" "I" ∈ tb := ms_ 369 rfl rfl
set_option maxRecDepth 100000 in
theorem mm_413 : Cond.arrayClass FieldType.boolean ∈ tb := ms_ 413 rfl rfl
set_option maxRecDepth 100000 in
theorem mm_414 : Cond.methodLink "PlainLibraryLaw" 19 ({ cls := "PlainLibraryModel", name := "event", desc := "(IJJJ)I" } : MethodName) ∈ tb := ms_ 414 rfl rfl
set_option maxRecDepth 100000 in
theorem mm_415 : Cond.instanceMethod ({ cls := "PlainLibraryModel", name := "event", desc := "(IJJJ)I" } : MethodName) ∈ tb := ms_ 415 rfl rfl
set_option maxRecDepth 100000 in
theorem mm_416 : Cond.selects "PlainLibraryModel" ({ cls := "PlainLibraryModel", name := "event", desc := "(IJJJ)I" } : MethodName) ({ cls := "PlainLibraryModel", name := "event", desc := "(IJJJ)I" } : MethodName) ∈ tb := ms_ 416 rfl rfl
set_option maxRecDepth 100000 in
theorem mm_417 : Cond.code ({ cls := "PlainLibraryModel", name := "event", desc := "(IJJJ)I" } : MethodName) prog_5_method_5_code 9 (Option.some FieldType.int) ∈ tb := ms_ 417 rfl rfl
set_option maxRecDepth 100000 in
theorem mm_418 : Cond.methodLink "PlainLibraryModel" 78 ({ cls := "PlainLibraryModel", name := "can", desc := "(IJJ)Z" } : MethodName) ∈ tb := ms_ 418 rfl rfl
set_option maxRecDepth 100000 in
theorem mm_419 : Cond.static ({ cls := "PlainLibraryModel", name := "can", desc := "(IJJ)Z" } : MethodName) ∈ tb := ms_ 419 rfl rfl
set_option maxRecDepth 100000 in
theorem mm_420 : Cond.code ({ cls := "PlainLibraryModel", name := "can", desc := "(IJJ)Z" } : MethodName) prog_5_method_4_code 5 (Option.some FieldType.boolean) ∈ tb := ms_ 420 rfl rfl
set_option maxRecDepth 100000 in
theorem mm_421 : Cond.constantLong "PlainLibraryModel" 64 20 ∈ tb := ms_ 421 rfl rfl
set_option maxRecDepth 100000 in
theorem mm_422 : Cond.methodLink "PlainLibraryModel" 66 ({ cls := "PlainLibraryModel", name := "in", desc := "(JJJ)Z" } : MethodName) ∈ tb := ms_ 422 rfl rfl
set_option maxRecDepth 100000 in
theorem mm_423 : Cond.static ({ cls := "PlainLibraryModel", name := "in", desc := "(JJJ)Z" } : MethodName) ∈ tb := ms_ 423 rfl rfl
set_option maxRecDepth 100000 in
theorem mm_424 : Cond.code ({ cls := "PlainLibraryModel", name := "in", desc := "(JJJ)Z" } : MethodName) prog_5_method_3_code 6 (Option.some FieldType.boolean) ∈ tb := ms_ 424 rfl rfl
set_option maxRecDepth 100000 in
theorem mm_425 : Cond.constantLong "PlainLibraryModel" 70 99 ∈ tb := ms_ 425 rfl rfl
set_option maxRecDepth 100000 in
theorem mm_426 : Cond.constantLong "PlainLibraryModel" 72 5 ∈ tb := ms_ 426 rfl rfl
set_option maxRecDepth 100000 in
theorem mm_427 : Cond.constantLong "PlainLibraryModel" 74 9 ∈ tb := ms_ 427 rfl rfl
set_option maxRecDepth 100000 in
theorem mm_428 : Cond.constantLong "PlainLibraryModel" 76 365 ∈ tb := ms_ 428 rfl rfl
set_option maxRecDepth 100000 in
theorem mm_429 : Cond.constantLong "PlainLibraryModel" 82 1000000 ∈ tb := ms_ 429 rfl rfl
set_option maxRecDepth 100000 in
theorem mm_430 : Cond.methodLink "PlainLibraryLaw" 24 ({ cls := "PlainLibraryModel", name := "counts", desc := "(I)I" } : MethodName) ∈ tb := ms_ 430 rfl rfl
set_option maxRecDepth 100000 in
theorem mm_431 : Cond.instanceMethod ({ cls := "PlainLibraryModel", name := "counts", desc := "(I)I" } : MethodName) ∈ tb := ms_ 431 rfl rfl
set_option maxRecDepth 100000 in
theorem mm_432 : Cond.selects "PlainLibraryModel" ({ cls := "PlainLibraryModel", name := "counts", desc := "(I)I" } : MethodName) ({ cls := "PlainLibraryModel", name := "counts", desc := "(I)I" } : MethodName) ∈ tb := ms_ 432 rfl rfl
set_option maxRecDepth 100000 in
theorem mm_433 : Cond.code ({ cls := "PlainLibraryModel", name := "counts", desc := "(I)I" } : MethodName) prog_5_method_17_code 2 (Option.some FieldType.int) ∈ tb := ms_ 433 rfl rfl
set_option maxRecDepth 100000 in
theorem mm_434 : Cond.methodLink "PlainLibraryModel" 128 ({ cls := "PlainLibraryModel", name := "all", desc := "()V" } : MethodName) ∈ tb := ms_ 434 rfl rfl
set_option maxRecDepth 100000 in
theorem mm_436 : Cond.instanceMethod ({ cls := "PlainLibraryModel", name := "all", desc := "()V" } : MethodName) ∈ tb := ms_ 436 rfl rfl
set_option maxRecDepth 100000 in
theorem mm_437 : Cond.code ({ cls := "PlainLibraryModel", name := "all", desc := "()V" } : MethodName) prog_5_method_15_code 1 (Option.none : Option FieldType) ∈ tb := ms_ 437 rfl rfl
set_option maxRecDepth 100000 in
theorem mm_438 : Cond.methodLink "PlainLibraryModel" 124 ({ cls := "PlainLibraryModel", name := "go", desc := "(JIII)V" } : MethodName) ∈ tb := ms_ 438 rfl rfl
set_option maxRecDepth 100000 in
theorem mm_440 : Cond.instanceMethod ({ cls := "PlainLibraryModel", name := "go", desc := "(JIII)V" } : MethodName) ∈ tb := ms_ 440 rfl rfl
set_option maxRecDepth 100000 in
theorem mm_441 : Cond.code ({ cls := "PlainLibraryModel", name := "go", desc := "(JIII)V" } : MethodName) prog_5_method_14_code 9 (Option.none : Option FieldType) ∈ tb := ms_ 441 rfl rfl
set_option maxRecDepth 100000 in
theorem mm_442 : Cond.methodLink "PlainLibraryModel" 117 ({ cls := "PlainLibraryModel", name := "clear", desc := "()V" } : MethodName) ∈ tb := ms_ 442 rfl rfl
set_option maxRecDepth 100000 in
theorem mm_444 : Cond.instanceMethod ({ cls := "PlainLibraryModel", name := "clear", desc := "()V" } : MethodName) ∈ tb := ms_ 444 rfl rfl
set_option maxRecDepth 100000 in
theorem mm_445 : Cond.code ({ cls := "PlainLibraryModel", name := "clear", desc := "()V" } : MethodName) prog_5_method_6_code 2 (Option.none : Option FieldType) ∈ tb := ms_ 445 rfl rfl
set_option maxRecDepth 100000 in
theorem mm_446 : Cond.methodLink "PlainLibraryModel" 120 ({ cls := "PlainLibraryModel", name := "does", desc := "(I)Z" } : MethodName) ∈ tb := ms_ 446 rfl rfl
set_option maxRecDepth 100000 in
theorem mm_448 : Cond.instanceMethod ({ cls := "PlainLibraryModel", name := "does", desc := "(I)Z" } : MethodName) ∈ tb := ms_ 448 rfl rfl
set_option maxRecDepth 100000 in
theorem mm_449 : Cond.code ({ cls := "PlainLibraryModel", name := "does", desc := "(I)Z" } : MethodName) prog_5_method_13_code 4 (Option.some FieldType.boolean) ∈ tb := ms_ 449 rfl rfl
set_option maxRecDepth 100000 in
theorem mm_450 : Cond.methodLink "PlainLibraryModel" 101 ({ cls := "PlainLibraryModel", name := "sets", desc := "(IZ)Z" } : MethodName) ∈ tb := ms_ 450 rfl rfl
set_option maxRecDepth 100000 in
theorem mm_452 : Cond.instanceMethod ({ cls := "PlainLibraryModel", name := "sets", desc := "(IZ)Z" } : MethodName) ∈ tb := ms_ 452 rfl rfl
set_option maxRecDepth 100000 in
theorem mm_453 : Cond.code ({ cls := "PlainLibraryModel", name := "sets", desc := "(IZ)Z" } : MethodName) prog_5_method_11_code 4 (Option.some FieldType.boolean) ∈ tb := ms_ 453 rfl rfl
set_option maxRecDepth 100000 in
theorem mm_454 : Cond.methodLink "PlainLibraryModel" 105 ({ cls := "PlainLibraryModel", name := "lend", desc := "(IIJ)Z" } : MethodName) ∈ tb := ms_ 454 rfl rfl
set_option maxRecDepth 100000 in
theorem mm_456 : Cond.instanceMethod ({ cls := "PlainLibraryModel", name := "lend", desc := "(IIJ)Z" } : MethodName) ∈ tb := ms_ 456 rfl rfl
set_option maxRecDepth 100000 in
theorem mm_457 : Cond.code ({ cls := "PlainLibraryModel", name := "lend", desc := "(IIJ)Z" } : MethodName) prog_5_method_10_code 7 (Option.some FieldType.boolean) ∈ tb := ms_ 457 rfl rfl
set_option maxRecDepth 100000 in
theorem mm_458 : Cond.methodLink "PlainLibraryModel" 97 ({ cls := "PlainLibraryModel", name := "leave", desc := "(II)Z" } : MethodName) ∈ tb := ms_ 458 rfl rfl
set_option maxRecDepth 100000 in
theorem mm_460 : Cond.instanceMethod ({ cls := "PlainLibraryModel", name := "leave", desc := "(II)Z" } : MethodName) ∈ tb := ms_ 460 rfl rfl
set_option maxRecDepth 100000 in
theorem mm_461 : Cond.code ({ cls := "PlainLibraryModel", name := "leave", desc := "(II)Z" } : MethodName) prog_5_method_8_code 5 (Option.some FieldType.boolean) ∈ tb := ms_ 461 rfl rfl
set_option maxRecDepth 100000 in
theorem mm_462 : Cond.methodLink "PlainLibraryModel" 93 ({ cls := "PlainLibraryModel", name := "placeOf", desc := "(II)I" } : MethodName) ∈ tb := ms_ 462 rfl rfl
set_option maxRecDepth 100000 in
theorem mm_464 : Cond.instanceMethod ({ cls := "PlainLibraryModel", name := "placeOf", desc := "(II)I" } : MethodName) ∈ tb := ms_ 464 rfl rfl
set_option maxRecDepth 100000 in
theorem mm_465 : Cond.code ({ cls := "PlainLibraryModel", name := "placeOf", desc := "(II)I" } : MethodName) prog_5_method_7_code 4 (Option.some FieldType.int) ∈ tb := ms_ 465 rfl rfl
set_option maxRecDepth 100000 in
theorem mm_466 : Cond.methodLink "PlainLibraryModel" 109 ({ cls := "PlainLibraryModel", name := "stand", desc := "(II)Z" } : MethodName) ∈ tb := ms_ 466 rfl rfl
set_option maxRecDepth 100000 in
theorem mm_468 : Cond.instanceMethod ({ cls := "PlainLibraryModel", name := "stand", desc := "(II)Z" } : MethodName) ∈ tb := ms_ 468 rfl rfl
set_option maxRecDepth 100000 in
theorem mm_469 : Cond.code ({ cls := "PlainLibraryModel", name := "stand", desc := "(II)Z" } : MethodName) prog_5_method_9_code 3 (Option.some FieldType.boolean) ∈ tb := ms_ 469 rfl rfl
set_option maxRecDepth 100000 in
theorem mm_470 : Cond.constantLong "PlainLibraryModel" 112 7 ∈ tb := ms_ 470 rfl rfl
set_option maxRecDepth 100000 in
theorem mm_471 : Cond.methodLink "PlainLibraryModel" 114 ({ cls := "PlainLibraryModel", name := "stores", desc := "(II)Z" } : MethodName) ∈ tb := ms_ 471 rfl rfl
set_option maxRecDepth 100000 in
theorem mm_473 : Cond.instanceMethod ({ cls := "PlainLibraryModel", name := "stores", desc := "(II)Z" } : MethodName) ∈ tb := ms_ 473 rfl rfl
set_option maxRecDepth 100000 in
theorem mm_474 : Cond.code ({ cls := "PlainLibraryModel", name := "stores", desc := "(II)Z" } : MethodName) prog_5_method_12_code 4 (Option.some FieldType.boolean) ∈ tb := ms_ 474 rfl rfl
set_option maxRecDepth 100000 in
theorem mm_475 : Cond.methodLink "PlainLibraryLaw" 29 ({ cls := "PlainLibraryModel", name := "events", desc := "()I" } : MethodName) ∈ tb := ms_ 475 rfl rfl
set_option maxRecDepth 100000 in
theorem mm_476 : Cond.instanceMethod ({ cls := "PlainLibraryModel", name := "events", desc := "()I" } : MethodName) ∈ tb := ms_ 476 rfl rfl
set_option maxRecDepth 100000 in
theorem mm_477 : Cond.selects "PlainLibraryModel" ({ cls := "PlainLibraryModel", name := "events", desc := "()I" } : MethodName) ({ cls := "PlainLibraryModel", name := "events", desc := "()I" } : MethodName) ∈ tb := ms_ 477 rfl rfl
set_option maxRecDepth 100000 in
theorem mm_478 : Cond.code ({ cls := "PlainLibraryModel", name := "events", desc := "()I" } : MethodName) prog_5_method_18_code 1 (Option.some FieldType.int) ∈ tb := ms_ 478 rfl rfl
set_option maxRecDepth 100000 in
theorem mm_479 : Cond.methodLink "PlainLibraryLaw" 33 ({ cls := "PlainLibraryModel", name := "refused", desc := "()I" } : MethodName) ∈ tb := ms_ 479 rfl rfl
set_option maxRecDepth 100000 in
theorem mm_480 : Cond.instanceMethod ({ cls := "PlainLibraryModel", name := "refused", desc := "()I" } : MethodName) ∈ tb := ms_ 480 rfl rfl
set_option maxRecDepth 100000 in
theorem mm_481 : Cond.selects "PlainLibraryModel" ({ cls := "PlainLibraryModel", name := "refused", desc := "()I" } : MethodName) ({ cls := "PlainLibraryModel", name := "refused", desc := "()I" } : MethodName) ∈ tb := ms_ 481 rfl rfl
set_option maxRecDepth 100000 in
theorem mm_482 : Cond.code ({ cls := "PlainLibraryModel", name := "refused", desc := "()I" } : MethodName) prog_5_method_19_code 1 (Option.some FieldType.int) ∈ tb := ms_ 482 rfl rfl
set_option maxRecDepth 100000 in
theorem mm_483 : Cond.methodLink "PlainLibraryLaw" 38 ({ cls := "PlainLibraryModel", name := "state", desc := "(IIJ)I" } : MethodName) ∈ tb := ms_ 483 rfl rfl
set_option maxRecDepth 100000 in
theorem mm_484 : Cond.instanceMethod ({ cls := "PlainLibraryModel", name := "state", desc := "(IIJ)I" } : MethodName) ∈ tb := ms_ 484 rfl rfl
set_option maxRecDepth 100000 in
theorem mm_485 : Cond.selects "PlainLibraryModel" ({ cls := "PlainLibraryModel", name := "state", desc := "(IIJ)I" } : MethodName) ({ cls := "PlainLibraryModel", name := "state", desc := "(IIJ)I" } : MethodName) ∈ tb := ms_ 485 rfl rfl
set_option maxRecDepth 100000 in
theorem mm_486 : Cond.code ({ cls := "PlainLibraryModel", name := "state", desc := "(IIJ)I" } : MethodName) prog_5_method_20_code 7 (Option.some FieldType.int) ∈ tb := ms_ 486 rfl rfl
set_option maxRecDepth 100000 in
theorem mm_487 : Cond.methodLink "PlainLibraryModel" 131 ({ cls := "PlainLibraryModel", name := "isNumber", desc := "(I)Z" } : MethodName) ∈ tb := ms_ 487 rfl rfl
set_option maxRecDepth 100000 in
theorem mm_488 : Cond.static ({ cls := "PlainLibraryModel", name := "isNumber", desc := "(I)Z" } : MethodName) ∈ tb := ms_ 488 rfl rfl
set_option maxRecDepth 100000 in
theorem mm_489 : Cond.code ({ cls := "PlainLibraryModel", name := "isNumber", desc := "(I)Z" } : MethodName) prog_5_method_16_code 1 (Option.some FieldType.boolean) ∈ tb := ms_ 489 rfl rfl
set_option maxRecDepth 100000 in
theorem mm_490 : Cond.methodLink "PlainLibraryLaw" 43 ({ cls := "PlainLibraryModel", name := "heading", desc := "(II)I" } : MethodName) ∈ tb := ms_ 490 rfl rfl
set_option maxRecDepth 100000 in
theorem mm_491 : Cond.instanceMethod ({ cls := "PlainLibraryModel", name := "heading", desc := "(II)I" } : MethodName) ∈ tb := ms_ 491 rfl rfl
set_option maxRecDepth 100000 in
theorem mm_492 : Cond.selects "PlainLibraryModel" ({ cls := "PlainLibraryModel", name := "heading", desc := "(II)I" } : MethodName) ({ cls := "PlainLibraryModel", name := "heading", desc := "(II)I" } : MethodName) ∈ tb := ms_ 492 rfl rfl
set_option maxRecDepth 100000 in
theorem mm_493 : Cond.code ({ cls := "PlainLibraryModel", name := "heading", desc := "(II)I" } : MethodName) prog_5_method_21_code 5 (Option.some FieldType.int) ∈ tb := ms_ 493 rfl rfl
set_option maxRecDepth 100000 in
theorem mm_494 : Cond.methodLink "PlainLibraryLaw" 47 ({ cls := "PlainLibraryModel", name := "question", desc := "(II)I" } : MethodName) ∈ tb := ms_ 494 rfl rfl
set_option maxRecDepth 100000 in
theorem mm_495 : Cond.instanceMethod ({ cls := "PlainLibraryModel", name := "question", desc := "(II)I" } : MethodName) ∈ tb := ms_ 495 rfl rfl
set_option maxRecDepth 100000 in
theorem mm_496 : Cond.selects "PlainLibraryModel" ({ cls := "PlainLibraryModel", name := "question", desc := "(II)I" } : MethodName) ({ cls := "PlainLibraryModel", name := "question", desc := "(II)I" } : MethodName) ∈ tb := ms_ 496 rfl rfl
set_option maxRecDepth 100000 in
theorem mm_497 : Cond.code ({ cls := "PlainLibraryModel", name := "question", desc := "(II)I" } : MethodName) prog_5_method_22_code 4 (Option.some FieldType.int) ∈ tb := ms_ 497 rfl rfl
set_option maxRecDepth 100000 in
theorem mm_498 : Cond.methodLink "PlainLibraryLaw" 51 ({ cls := "PlainLibraryModel", name := "hit", desc := "(I)I" } : MethodName) ∈ tb := ms_ 498 rfl rfl
set_option maxRecDepth 100000 in
theorem mm_499 : Cond.instanceMethod ({ cls := "PlainLibraryModel", name := "hit", desc := "(I)I" } : MethodName) ∈ tb := ms_ 499 rfl rfl
set_option maxRecDepth 100000 in
theorem mm_500 : Cond.selects "PlainLibraryModel" ({ cls := "PlainLibraryModel", name := "hit", desc := "(I)I" } : MethodName) ({ cls := "PlainLibraryModel", name := "hit", desc := "(I)I" } : MethodName) ∈ tb := ms_ 500 rfl rfl
set_option maxRecDepth 100000 in
theorem mm_501 : Cond.code ({ cls := "PlainLibraryModel", name := "hit", desc := "(I)I" } : MethodName) prog_5_method_23_code 2 (Option.some FieldType.int) ∈ tb := ms_ 501 rfl rfl
set_option maxRecDepth 100000 in
theorem mm_502 : Cond.methodLink "PlainLibraryLaw" 56 ({ cls := "PlainLibraryModel", name := "due", desc := "(I)J" } : MethodName) ∈ tb := ms_ 502 rfl rfl
set_option maxRecDepth 100000 in
theorem mm_503 : Cond.instanceMethod ({ cls := "PlainLibraryModel", name := "due", desc := "(I)J" } : MethodName) ∈ tb := ms_ 503 rfl rfl
set_option maxRecDepth 100000 in
theorem mm_504 : Cond.selects "PlainLibraryModel" ({ cls := "PlainLibraryModel", name := "due", desc := "(I)J" } : MethodName) ({ cls := "PlainLibraryModel", name := "due", desc := "(I)J" } : MethodName) ∈ tb := ms_ 504 rfl rfl
set_option maxRecDepth 100000 in
theorem mm_505 : Cond.code ({ cls := "PlainLibraryModel", name := "due", desc := "(I)J" } : MethodName) prog_5_method_24_code 2 (Option.some FieldType.long) ∈ tb := ms_ 505 rfl rfl
set_option maxRecDepth 100000 in
theorem mm_506 : Cond.constantLong "PlainLibraryModel" 137 (-1) ∈ tb := ms_ 506 rfl rfl
set_option maxRecDepth 100000 in
theorem mm_507 : Cond.methodLink "PlainLibraryLaw" 60 ({ cls := "PlainLibraryModel", name := "queue", desc := "(II)I" } : MethodName) ∈ tb := ms_ 507 rfl rfl
set_option maxRecDepth 100000 in
theorem mm_508 : Cond.instanceMethod ({ cls := "PlainLibraryModel", name := "queue", desc := "(II)I" } : MethodName) ∈ tb := ms_ 508 rfl rfl
set_option maxRecDepth 100000 in
theorem mm_509 : Cond.selects "PlainLibraryModel" ({ cls := "PlainLibraryModel", name := "queue", desc := "(II)I" } : MethodName) ({ cls := "PlainLibraryModel", name := "queue", desc := "(II)I" } : MethodName) ∈ tb := ms_ 509 rfl rfl
set_option maxRecDepth 100000 in
theorem mm_510 : Cond.code ({ cls := "PlainLibraryModel", name := "queue", desc := "(II)I" } : MethodName) prog_5_method_25_code 3 (Option.some FieldType.int) ∈ tb := ms_ 510 rfl rfl
set_option maxRecDepth 100000 in
theorem mm_511 : Cond.methodLink "PlainLibraryLaw" 64 ({ cls := "PlainLibraryModel", name := "poll", desc := "(I)I" } : MethodName) ∈ tb := ms_ 511 rfl rfl
set_option maxRecDepth 100000 in
theorem mm_512 : Cond.instanceMethod ({ cls := "PlainLibraryModel", name := "poll", desc := "(I)I" } : MethodName) ∈ tb := ms_ 512 rfl rfl
set_option maxRecDepth 100000 in
theorem mm_513 : Cond.selects "PlainLibraryModel" ({ cls := "PlainLibraryModel", name := "poll", desc := "(I)I" } : MethodName) ({ cls := "PlainLibraryModel", name := "poll", desc := "(I)I" } : MethodName) ∈ tb := ms_ 513 rfl rfl
set_option maxRecDepth 100000 in
theorem mm_514 : Cond.code ({ cls := "PlainLibraryModel", name := "poll", desc := "(I)I" } : MethodName) prog_5_method_26_code 7 (Option.some FieldType.int) ∈ tb := ms_ 514 rfl rfl
set_option maxRecDepth 100000 in
theorem mm_515 : Cond.methodLink "PlainLibraryLaw" 69 ({ cls := "PlainLibraryModel", name := "kept", desc := "(IIJI)I" } : MethodName) ∈ tb := ms_ 515 rfl rfl
set_option maxRecDepth 100000 in
theorem mm_516 : Cond.instanceMethod ({ cls := "PlainLibraryModel", name := "kept", desc := "(IIJI)I" } : MethodName) ∈ tb := ms_ 516 rfl rfl
set_option maxRecDepth 100000 in
theorem mm_517 : Cond.selects "PlainLibraryModel" ({ cls := "PlainLibraryModel", name := "kept", desc := "(IIJI)I" } : MethodName) ({ cls := "PlainLibraryModel", name := "kept", desc := "(IIJI)I" } : MethodName) ∈ tb := ms_ 517 rfl rfl
set_option maxRecDepth 100000 in
theorem mm_518 : Cond.code ({ cls := "PlainLibraryModel", name := "kept", desc := "(IIJI)I" } : MethodName) prog_5_method_27_code 8 (Option.some FieldType.int) ∈ tb := ms_ 518 rfl rfl
set_option maxRecDepth 100000 in
theorem mm_519 : Cond.methodLink "PlainLibraryLaw" 73 ({ cls := "PlainLibraryModel", name := "most", desc := "(I)I" } : MethodName) ∈ tb := ms_ 519 rfl rfl
set_option maxRecDepth 100000 in
theorem mm_520 : Cond.instanceMethod ({ cls := "PlainLibraryModel", name := "most", desc := "(I)I" } : MethodName) ∈ tb := ms_ 520 rfl rfl
set_option maxRecDepth 100000 in
theorem mm_521 : Cond.selects "PlainLibraryModel" ({ cls := "PlainLibraryModel", name := "most", desc := "(I)I" } : MethodName) ({ cls := "PlainLibraryModel", name := "most", desc := "(I)I" } : MethodName) ∈ tb := ms_ 521 rfl rfl
set_option maxRecDepth 100000 in
theorem mm_522 : Cond.code ({ cls := "PlainLibraryModel", name := "most", desc := "(I)I" } : MethodName) prog_5_method_28_code 2 (Option.some FieldType.int) ∈ tb := ms_ 522 rfl rfl
set_option maxRecDepth 100000 in
theorem mm_523 : Cond.methodLink "PlainLibraryLaw" 77 ({ cls := "PlainLibraryModel", name := "least", desc := "()I" } : MethodName) ∈ tb := ms_ 523 rfl rfl
set_option maxRecDepth 100000 in
theorem mm_524 : Cond.instanceMethod ({ cls := "PlainLibraryModel", name := "least", desc := "()I" } : MethodName) ∈ tb := ms_ 524 rfl rfl
set_option maxRecDepth 100000 in
theorem mm_525 : Cond.selects "PlainLibraryModel" ({ cls := "PlainLibraryModel", name := "least", desc := "()I" } : MethodName) ({ cls := "PlainLibraryModel", name := "least", desc := "()I" } : MethodName) ∈ tb := ms_ 525 rfl rfl
set_option maxRecDepth 100000 in
theorem mm_526 : Cond.code ({ cls := "PlainLibraryModel", name := "least", desc := "()I" } : MethodName) prog_5_method_29_code 5 (Option.some FieldType.int) ∈ tb := ms_ 526 rfl rfl
set_option maxRecDepth 100000 in
theorem mm_527 : Cond.constantLong "PlainLibraryLaw" 13 4294967295 ∈ tb := ms_ 527 rfl rfl
