section
variable {p : Program} {l : Launch} {e : Env} {s : State} {m : MethodId} {below : List Frame} {meth : Method} {c : Code} {D : va_G} {cI cJ cZ : ClassId} {ad bd : Nat → Nat} {b L : Nat} {xs : Nat → Int32} {A : Nat → Prop}
set_option maxHeartbeats 4000000 in
set_option maxRecDepth 100000 in
theorem w_W_law_661 {k18 : Int32 → (Lib × Mod) → Option Int32} (C : Cx p s m #[Value.ref b] meth c code 4 ret "PlainLibraryLaw" tb D cl9 (tyy cI cJ cZ) A) (hX : va_X b L xs s s.heap) (hbl : b < s.heap.size) (hAl : ∀ q : Nat, A q → s.heap.size ≤ q) (hk18 : ∀ (x3 : Int32) (u : (Lib × Mod)) (H : Heap) (locs : List Loc) (ls : Array Slot), va_P D cl9 ((cW cI cJ cZ ad bd) u) H → va_D A ((cW cI cJ cZ ad bd) u) → va_S A s.heap H locs → lv_has ls 4 [(0, .ref b), (1, .ref (ad 0)), (2, .ref (bd 0)), (3, .int x3)] → k18 x3 u = some 1 → W p l e room_1 s m #[Value.ref b] below meth c H locs 34 5543 (lw_Z below #[Value.ref b] s) (F0 m 18 ls [])) (x3 : Int32) (u : (Lib × Mod)) (H : Heap) (locs : List Loc) (ls : Array Slot) (hP : va_P D cl9 ((cW cI cJ cZ ad bd) u) H) (hD : va_D A ((cW cI cJ cZ ad bd) u)) (hS : va_S A s.heap H locs) (hl : lv_has ls 4 [(0, .ref b), (1, .ref (ad 0)), (2, .ref (bd 0)), (3, .int x3)]) (hM : B_W_law_661 L xs k18 x3 u = some 1) : W p l e room_1 s m #[Value.ref b] below meth c H locs 34 5543 (lw_Z below #[Value.ref b] s) (F0 m 661 ls []) := by
  have C0 := C
  obtain ⟨hx, hb, hr, hml, hown, hts, hlocks, hK, hA⟩ := C
  have hbA : ¬ A b := fun h => absurd (hAl b h) (Nat.not_le.mpr hbl)
  replace C := C0
  unfold B_W_law_661 at hM
  refine lv_iinc (v := (x3 + (8 : Int32))) (lv' := [(3, .int (x3 + (8 : Int32))), (0, .ref b), (1, .ref (ad 0)), (2, .ref (bd 0))]) hx hb d_W_law_661 hl (k := 3) rfl rfl (by decide) rfl (fun ls hl => ?_)
  refine lv_goto (tgt := 18) hx hb d_W_law_664 (by decide) ?_
  exact hk18 (x3 + (8 : Int32)) u H locs ls hP hD hS (lv_sub hl [1, 2, 3, 0] rfl) hM
set_option maxHeartbeats 4000000 in
set_option maxRecDepth 100000 in
theorem w_W_law_18s (C : Cx p s m #[Value.ref b] meth c code 4 ret "PlainLibraryLaw" tb D cl9 (tyy cI cJ cZ) A) (hX : va_X b L xs s s.heap) (hbl : b < s.heap.size) (hAl : ∀ q : Nat, A q → s.heap.size ≤ q) {k18 : Int32 → (Lib × Mod) → Option Int32} (hk18 : ∀ (x3 : Int32) (u : (Lib × Mod)) (H : Heap) (locs : List Loc) (ls : Array Slot), va_P D cl9 ((cW cI cJ cZ ad bd) u) H → va_D A ((cW cI cJ cZ ad bd) u) → va_S A s.heap H locs → lv_has ls 4 [(0, .ref b), (1, .ref (ad 0)), (2, .ref (bd 0)), (3, .int x3)] → k18 x3 u = some 1 → W p l e room_1 s m #[Value.ref b] below meth c H locs 34 5543 (lw_Z below #[Value.ref b] s) (F0 m 18 ls [])) (x3 : Int32) (u : (Lib × Mod)) (H : Heap) (locs : List Loc) (ls : Array Slot) (hP : va_P D cl9 ((cW cI cJ cZ ad bd) u) H) (hD : va_D A ((cW cI cJ cZ ad bd) u)) (hS : va_S A s.heap H locs) (hl : lv_has ls 4 [(0, .ref b), (1, .ref (ad 0)), (2, .ref (bd 0)), (3, .int x3)]) (hM : B_W_law_18s L xs k18 x3 u = some 1) : W p l e room_1 s m #[Value.ref b] below meth c H locs 34 5543 (lw_Z below #[Value.ref b] s) (F0 m 18 ls []) := by
  have C0 := C
  obtain ⟨hx, hb, hr, hml, hown, hts, hlocks, hK, hA⟩ := C
  have hbA : ¬ A b := fun h => absurd (hAl b h) (Nat.not_le.mpr hbl)
  replace C := C0
  unfold B_W_law_18s at hM
  refine lv_iload_n hx hb d_W_law_18 rfl (lv_at hl 3 rfl) ?_
  refine lv_aload_n hx hb d_W_law_19 rfl (lv_at hl 0 rfl) ?_
  refine va_slen hx hb hX hbl hbA hS d_W_law_20 ?_
  refine lv_bipush (v := (8 : Int32)) hx hb d_W_law_21 (by decide) ?_
  refine lv_isub hx hb d_W_law_23 ?_
  refine lv_icmp_gt (tgt := 667) hx hb d_W_law_24 (by decide) (fun c1 => ?_) (fun c1 => ?_)
  · replace hM := it_t c1 hM
    refine lv_iconst (v := (1 : Int32)) hx hb d_W_law_667 (by decide) ?_
    have e9 := Option.some.inj hM
    rw [e9]
    refine va_forget (fun q hq => hAl _ (hS.2.2 q hq)) ?_
    refine W.widen (k := 34) (n := 5543) (Nat.le_of_ble_eq_true rfl) (Nat.le_of_ble_eq_true rfl) ?_
    exact lw_ret hx hb hr hlocks d_W_law_668
  · replace hM := it_f c1 hM
    refine lv_aload_n hx hb d_W_law_27 rfl (lv_at hl 0 rfl) ?_
    refine lv_iload_n hx hb d_W_law_28 rfl (lv_at hl 3 rfl) ?_
    obtain ⟨h2, hM⟩ := gd_some hM
    refine va_sld hx hb hX hbl hbA hS (vp_in_iff.mpr h2) d_W_law_29 ?_
    refine lv_bipush (v := (15 : Int32)) hx hb d_W_law_30 (by decide) ?_
    refine lv_iand hx hb d_W_law_32 ?_
    by_cases c3 : ((xs x3.toNatClampNeg) &&& (15 : Int32)) = (0 : Int32)
    · replace hM := it_t c3 hM
      refine lv_tableIn (off := 71) (tgt := 104) hx hb d_W_law_33 (by rw [c3]; decide) (by rw [c3]; decide) (by rw [c3]; rfl) (by decide) ?_
      refine lv_aload_n hx hb d_W_law_104 rfl (lv_at hl 1 rfl) ?_
      refine lv_aload_n hx hb d_W_law_105 rfl (lv_at hl 0 rfl) ?_
      refine lv_iload_n hx hb d_W_law_106 rfl (lv_at hl 3 rfl) ?_
      refine lv_iconst (v := (1 : Int32)) hx hb d_W_law_107 (by decide) ?_
      refine lv_iadd hx hb d_W_law_108 ?_
      obtain ⟨h4, hM⟩ := gd_some hM
      refine va_sld hx hb hX hbl hbA hS (vp_in_iff.mpr h4) d_W_law_109 ?_
      refine lv_aload_n hx hb d_W_law_110 rfl (lv_at hl 0 rfl) ?_
      refine lv_iload_n hx hb d_W_law_111 rfl (lv_at hl 3 rfl) ?_
      refine lv_iconst (v := (2 : Int32)) hx hb d_W_law_112 (by decide) ?_
      refine lv_iadd hx hb d_W_law_113 ?_
      obtain ⟨h5, hM⟩ := gd_some hM
      refine va_sld hx hb hX hbl hbA hS (vp_in_iff.mpr h5) d_W_law_114 ?_
      refine lv_i2l (v := (xs (x3 + (2 : Int32)).toNatClampNeg).toInt64) hx hb d_W_law_115 rfl ?_
      refine lv_bipush (v := (32 : Int32)) hx hb d_W_law_116 (by decide) ?_
      refine lv_lshl (v := ((xs (x3 + (2 : Int32)).toNatClampNeg).toInt64) <<< ((32 : Int32).toInt64 &&& 63)) hx hb d_W_law_118 rfl ?_
      refine lv_aload_n hx hb d_W_law_119 rfl (lv_at hl 0 rfl) ?_
      refine lv_iload_n hx hb d_W_law_120 rfl (lv_at hl 3 rfl) ?_
      refine lv_iconst (v := (3 : Int32)) hx hb d_W_law_121 (by decide) ?_
      refine lv_iadd hx hb d_W_law_122 ?_
      obtain ⟨h6, hM⟩ := gd_some hM
      refine va_sld hx hb hX hbl hbA hS (vp_in_iff.mpr h6) d_W_law_123 ?_
      refine lv_i2l (v := (xs (x3 + (3 : Int32)).toNatClampNeg).toInt64) hx hb d_W_law_124 rfl ?_
      refine lv_ldc2 (v := (4294967295 : Int64)) hx hb hown (hts _ mm_527) d_W_law_125 ?_
      refine lv_land hx hb d_W_law_128 ?_
      refine lv_lor hx hb d_W_law_129 ?_
      refine lv_aload_n hx hb d_W_law_130 rfl (lv_at hl 0 rfl) ?_
      refine lv_iload_n hx hb d_W_law_131 rfl (lv_at hl 3 rfl) ?_
      refine lv_iconst (v := (4 : Int32)) hx hb d_W_law_132 (by decide) ?_
      refine lv_iadd hx hb d_W_law_133 ?_
      obtain ⟨h7, hM⟩ := gd_some hM
      refine va_sld hx hb hX hbl hbA hS (vp_in_iff.mpr h7) d_W_law_134 ?_
      refine lv_i2l (v := (xs (x3 + (4 : Int32)).toNatClampNeg).toInt64) hx hb d_W_law_135 rfl ?_
      refine lv_bipush (v := (32 : Int32)) hx hb d_W_law_136 (by decide) ?_
      refine lv_lshl (v := ((xs (x3 + (4 : Int32)).toNatClampNeg).toInt64) <<< ((32 : Int32).toInt64 &&& 63)) hx hb d_W_law_138 rfl ?_
      refine lv_aload_n hx hb d_W_law_139 rfl (lv_at hl 0 rfl) ?_
      refine lv_iload_n hx hb d_W_law_140 rfl (lv_at hl 3 rfl) ?_
      refine lv_iconst (v := (5 : Int32)) hx hb d_W_law_141 (by decide) ?_
      refine lv_iadd hx hb d_W_law_142 ?_
      obtain ⟨h8, hM⟩ := gd_some hM
      refine va_sld hx hb hX hbl hbA hS (vp_in_iff.mpr h8) d_W_law_143 ?_
      refine lv_i2l (v := (xs (x3 + (5 : Int32)).toNatClampNeg).toInt64) hx hb d_W_law_144 rfl ?_
      refine lv_ldc2 (v := (4294967295 : Int64)) hx hb hown (hts _ mm_527) d_W_law_145 ?_
      refine lv_land hx hb d_W_law_148 ?_
      refine lv_lor hx hb d_W_law_149 ?_
      refine lv_aload_n hx hb d_W_law_150 rfl (lv_at hl 0 rfl) ?_
      refine lv_iload_n hx hb d_W_law_151 rfl (lv_at hl 3 rfl) ?_
      refine lv_bipush (v := (6 : Int32)) hx hb d_W_law_152 (by decide) ?_
      refine lv_iadd hx hb d_W_law_154 ?_
      obtain ⟨h9, hM⟩ := gd_some hM
      refine va_sld hx hb hX hbl hbA hS (vp_in_iff.mpr h9) d_W_law_155 ?_
      refine lv_i2l (v := (xs (x3 + (6 : Int32)).toNatClampNeg).toInt64) hx hb d_W_law_156 rfl ?_
      refine lv_bipush (v := (32 : Int32)) hx hb d_W_law_157 (by decide) ?_
      refine lv_lshl (v := ((xs (x3 + (6 : Int32)).toNatClampNeg).toInt64) <<< ((32 : Int32).toInt64 &&& 63)) hx hb d_W_law_159 rfl ?_
      refine lv_aload_n hx hb d_W_law_160 rfl (lv_at hl 0 rfl) ?_
      refine lv_iload_n hx hb d_W_law_161 rfl (lv_at hl 3 rfl) ?_
      refine lv_bipush (v := (7 : Int32)) hx hb d_W_law_162 (by decide) ?_
      refine lv_iadd hx hb d_W_law_164 ?_
      obtain ⟨h10, hM⟩ := gd_some hM
      refine va_sld hx hb hX hbl hbA hS (vp_in_iff.mpr h10) d_W_law_165 ?_
      refine lv_i2l (v := (xs (x3 + (7 : Int32)).toNatClampNeg).toInt64) hx hb d_W_law_166 rfl ?_
      refine lv_ldc2 (v := (4294967295 : Int64)) hx hb hown (hts _ mm_527) d_W_law_167 ?_
      refine lv_land hx hb d_W_law_170 ?_
      refine lv_lor hx hb d_W_law_171 ?_
      obtain ⟨v11, hq11, hM⟩ := bd_some hM
      refine fj_i (F := (cL cI cJ cZ ad)) (u := u.1) (res := v11) (ws := ((cW cI cJ cZ ad bd) u)) (wr := ((cM cI cJ cZ bd) u.2)) (va_runV (As := [.int (xs (x3 + (1 : Int32)).toNatClampNeg), .long ((((xs (x3 + (2 : Int32)).toNatClampNeg).toInt64) <<< ((32 : Int32).toInt64 &&& 63)) ||| (((xs (x3 + (3 : Int32)).toNatClampNeg).toInt64) &&& (4294967295 : Int64))), .long ((((xs (x3 + (4 : Int32)).toNatClampNeg).toInt64) <<< ((32 : Int32).toInt64 &&& 63)) ||| (((xs (x3 + (5 : Int32)).toNatClampNeg).toInt64) &&& (4294967295 : Int64))), .long ((((xs (x3 + (6 : Int32)).toNatClampNeg).toInt64) <<< ((32 : Int32).toInt64 &&& 63)) ||| (((xs (x3 + (7 : Int32)).toNatClampNeg).toInt64) &&& (4294967295 : Int64)))]) (rest := []) ⟨hx, hb, hml, hown, hts⟩ (c_L_event l D cI cJ cZ ad H.size (xs (x3 + (1 : Int32)).toNatClampNeg) ((((xs (x3 + (2 : Int32)).toNatClampNeg).toInt64) <<< ((32 : Int32).toInt64 &&& 63)) ||| (((xs (x3 + (3 : Int32)).toNatClampNeg).toInt64) &&& (4294967295 : Int64))) ((((xs (x3 + (4 : Int32)).toNatClampNeg).toInt64) <<< ((32 : Int32).toInt64 &&& 63)) ||| (((xs (x3 + (5 : Int32)).toNatClampNeg).toInt64) &&& (4294967295 : Int64))) ((((xs (x3 + (6 : Int32)).toNatClampNeg).toInt64) <<< ((32 : Int32).toInt64 &&& 63)) ||| (((xs (x3 + (7 : Int32)).toNatClampNeg).toInt64) &&& (4294967295 : Int64))) (u.1) v11 hq11) (cwV 4 hts (gV mm_113 mm_114 mm_115 mm_27 mm_116) rfl rfl rfl hd_L_event ⟨Nat.le_of_ble_eq_true rfl, Nat.le_of_ble_eq_true rfl⟩) (pv_ (F := (cL cI cJ cZ ad)) (u := u.1) hK (hP.sub (ws' := (cL cI cJ cZ ad) (u.1)) [0, 1, 2, 3, 4, 5, 6, 7, 8, 9, 10, 11, 12, 13, 14, 15, 16] rfl) (hD.sub (ws' := (cL cI cJ cZ ad) (u.1)) [0, 1, 2, 3, 4, 5, 6, 7, 8, 9, 10, 11, 12, 13, 14, 15, 16] (by decide) rfl) (va_recv hK hP (ci := 2) (q0 := 0) rfl rfl)) rfl rfl hl.1 rfl (lv_room (Nat.le_of_ble_eq_true rfl)) d_W_law_172 ⟨Nat.le_of_ble_eq_true rfl, Nat.le_of_ble_eq_true rfl⟩) hP hD hS (va_free (wc := (cL cI cJ cZ ad) (u.1)) hD hS hA [0, 1, 2, 3, 4, 5, 6, 7, 8, 9, 10, 11, 12, 13, 14, 15, 16] rfl) [0, 1, 2, 3, 4, 5, 6, 7, 8, 9, 10, 11, 12, 13, 14, 15, 16] [17, 18, 19, 20, 21, 22, 23, 24, 25, 26, 27, 28, 29, 30, 31, 32, 33] rfl rfl (by decide) (by decide) (fun H locs hP hD hS => ?_)
      replace hP := hP.sub (ws' := ((cW cI cJ cZ ad bd) (v11.2, u.2))) [17, 18, 19, 20, 21, 22, 23, 24, 25, 26, 27, 28, 29, 30, 31, 32, 33, 0, 1, 2, 3, 4, 5, 6, 7, 8, 9, 10, 11, 12, 13, 14, 15, 16] (yW_L cI cJ cZ ad bd u v11.2)
      replace hD := hD.sub (ws' := ((cW cI cJ cZ ad bd) (v11.2, u.2))) [17, 18, 19, 20, 21, 22, 23, 24, 25, 26, 27, 28, 29, 30, 31, 32, 33, 0, 1, 2, 3, 4, 5, 6, 7, 8, 9, 10, 11, 12, 13, 14, 15, 16] (by decide) (xW_L cI cJ cZ ad bd u v11.2)
      refine lv_aload_n hx hb d_W_law_175 rfl (lv_at hl 2 rfl) ?_
      refine lv_aload_n hx hb d_W_law_176 rfl (lv_at hl 0 rfl) ?_
      refine lv_iload_n hx hb d_W_law_177 rfl (lv_at hl 3 rfl) ?_
      refine lv_iconst (v := (1 : Int32)) hx hb d_W_law_178 (by decide) ?_
      refine lv_iadd hx hb d_W_law_179 ?_
      obtain ⟨h12, hM⟩ := gd_some hM
      refine va_sld hx hb hX hbl hbA hS (vp_in_iff.mpr h12) d_W_law_180 ?_
      refine lv_aload_n hx hb d_W_law_181 rfl (lv_at hl 0 rfl) ?_
      refine lv_iload_n hx hb d_W_law_182 rfl (lv_at hl 3 rfl) ?_
      refine lv_iconst (v := (2 : Int32)) hx hb d_W_law_183 (by decide) ?_
      refine lv_iadd hx hb d_W_law_184 ?_
      obtain ⟨h13, hM⟩ := gd_some hM
      refine va_sld hx hb hX hbl hbA hS (vp_in_iff.mpr h13) d_W_law_185 ?_
      refine lv_i2l (v := (xs (x3 + (2 : Int32)).toNatClampNeg).toInt64) hx hb d_W_law_186 rfl ?_
      refine lv_bipush (v := (32 : Int32)) hx hb d_W_law_187 (by decide) ?_
      refine lv_lshl (v := ((xs (x3 + (2 : Int32)).toNatClampNeg).toInt64) <<< ((32 : Int32).toInt64 &&& 63)) hx hb d_W_law_189 rfl ?_
      refine lv_aload_n hx hb d_W_law_190 rfl (lv_at hl 0 rfl) ?_
      refine lv_iload_n hx hb d_W_law_191 rfl (lv_at hl 3 rfl) ?_
      refine lv_iconst (v := (3 : Int32)) hx hb d_W_law_192 (by decide) ?_
      refine lv_iadd hx hb d_W_law_193 ?_
      obtain ⟨h14, hM⟩ := gd_some hM
      refine va_sld hx hb hX hbl hbA hS (vp_in_iff.mpr h14) d_W_law_194 ?_
      refine lv_i2l (v := (xs (x3 + (3 : Int32)).toNatClampNeg).toInt64) hx hb d_W_law_195 rfl ?_
      refine lv_ldc2 (v := (4294967295 : Int64)) hx hb hown (hts _ mm_527) d_W_law_196 ?_
      refine lv_land hx hb d_W_law_199 ?_
      refine lv_lor hx hb d_W_law_200 ?_
      refine lv_aload_n hx hb d_W_law_201 rfl (lv_at hl 0 rfl) ?_
      refine lv_iload_n hx hb d_W_law_202 rfl (lv_at hl 3 rfl) ?_
      refine lv_iconst (v := (4 : Int32)) hx hb d_W_law_203 (by decide) ?_
      refine lv_iadd hx hb d_W_law_204 ?_
      obtain ⟨h15, hM⟩ := gd_some hM
      refine va_sld hx hb hX hbl hbA hS (vp_in_iff.mpr h15) d_W_law_205 ?_
      refine lv_i2l (v := (xs (x3 + (4 : Int32)).toNatClampNeg).toInt64) hx hb d_W_law_206 rfl ?_
      refine lv_bipush (v := (32 : Int32)) hx hb d_W_law_207 (by decide) ?_
      refine lv_lshl (v := ((xs (x3 + (4 : Int32)).toNatClampNeg).toInt64) <<< ((32 : Int32).toInt64 &&& 63)) hx hb d_W_law_209 rfl ?_
      refine lv_aload_n hx hb d_W_law_210 rfl (lv_at hl 0 rfl) ?_
      refine lv_iload_n hx hb d_W_law_211 rfl (lv_at hl 3 rfl) ?_
      refine lv_iconst (v := (5 : Int32)) hx hb d_W_law_212 (by decide) ?_
      refine lv_iadd hx hb d_W_law_213 ?_
      obtain ⟨h16, hM⟩ := gd_some hM
      refine va_sld hx hb hX hbl hbA hS (vp_in_iff.mpr h16) d_W_law_214 ?_
      refine lv_i2l (v := (xs (x3 + (5 : Int32)).toNatClampNeg).toInt64) hx hb d_W_law_215 rfl ?_
      refine lv_ldc2 (v := (4294967295 : Int64)) hx hb hown (hts _ mm_527) d_W_law_216 ?_
      refine lv_land hx hb d_W_law_219 ?_
      refine lv_lor hx hb d_W_law_220 ?_
      refine lv_aload_n hx hb d_W_law_221 rfl (lv_at hl 0 rfl) ?_
      refine lv_iload_n hx hb d_W_law_222 rfl (lv_at hl 3 rfl) ?_
      refine lv_bipush (v := (6 : Int32)) hx hb d_W_law_223 (by decide) ?_
      refine lv_iadd hx hb d_W_law_225 ?_
      obtain ⟨h17, hM⟩ := gd_some hM
      refine va_sld hx hb hX hbl hbA hS (vp_in_iff.mpr h17) d_W_law_226 ?_
      refine lv_i2l (v := (xs (x3 + (6 : Int32)).toNatClampNeg).toInt64) hx hb d_W_law_227 rfl ?_
      refine lv_bipush (v := (32 : Int32)) hx hb d_W_law_228 (by decide) ?_
      refine lv_lshl (v := ((xs (x3 + (6 : Int32)).toNatClampNeg).toInt64) <<< ((32 : Int32).toInt64 &&& 63)) hx hb d_W_law_230 rfl ?_
      refine lv_aload_n hx hb d_W_law_231 rfl (lv_at hl 0 rfl) ?_
      refine lv_iload_n hx hb d_W_law_232 rfl (lv_at hl 3 rfl) ?_
      refine lv_bipush (v := (7 : Int32)) hx hb d_W_law_233 (by decide) ?_
      refine lv_iadd hx hb d_W_law_235 ?_
      obtain ⟨h18, hM⟩ := gd_some hM
      refine va_sld hx hb hX hbl hbA hS (vp_in_iff.mpr h18) d_W_law_236 ?_
      refine lv_i2l (v := (xs (x3 + (7 : Int32)).toNatClampNeg).toInt64) hx hb d_W_law_237 rfl ?_
      refine lv_ldc2 (v := (4294967295 : Int64)) hx hb hown (hts _ mm_527) d_W_law_238 ?_
      refine lv_land hx hb d_W_law_241 ?_
      refine lv_lor hx hb d_W_law_242 ?_
      obtain ⟨v19, hq19, hM⟩ := bd_some hM
      refine fj_i (F := (cM cI cJ cZ bd)) (u := (v11.2, u.2).2) (res := v19) (ws := ((cW cI cJ cZ ad bd) (v11.2, u.2))) (wr := ((cL cI cJ cZ ad) (v11.2, u.2).1)) (va_runV (As := [.int (xs (x3 + (1 : Int32)).toNatClampNeg), .long ((((xs (x3 + (2 : Int32)).toNatClampNeg).toInt64) <<< ((32 : Int32).toInt64 &&& 63)) ||| (((xs (x3 + (3 : Int32)).toNatClampNeg).toInt64) &&& (4294967295 : Int64))), .long ((((xs (x3 + (4 : Int32)).toNatClampNeg).toInt64) <<< ((32 : Int32).toInt64 &&& 63)) ||| (((xs (x3 + (5 : Int32)).toNatClampNeg).toInt64) &&& (4294967295 : Int64))), .long ((((xs (x3 + (6 : Int32)).toNatClampNeg).toInt64) <<< ((32 : Int32).toInt64 &&& 63)) ||| (((xs (x3 + (7 : Int32)).toNatClampNeg).toInt64) &&& (4294967295 : Int64)))]) (rest := [.int v11.1]) ⟨hx, hb, hml, hown, hts⟩ (c_M_event l D cI cJ cZ bd H.size (xs (x3 + (1 : Int32)).toNatClampNeg) ((((xs (x3 + (2 : Int32)).toNatClampNeg).toInt64) <<< ((32 : Int32).toInt64 &&& 63)) ||| (((xs (x3 + (3 : Int32)).toNatClampNeg).toInt64) &&& (4294967295 : Int64))) ((((xs (x3 + (4 : Int32)).toNatClampNeg).toInt64) <<< ((32 : Int32).toInt64 &&& 63)) ||| (((xs (x3 + (5 : Int32)).toNatClampNeg).toInt64) &&& (4294967295 : Int64))) ((((xs (x3 + (6 : Int32)).toNatClampNeg).toInt64) <<< ((32 : Int32).toInt64 &&& 63)) ||| (((xs (x3 + (7 : Int32)).toNatClampNeg).toInt64) &&& (4294967295 : Int64))) ((v11.2, u.2).2) v19 hq19) (cwV 4 hts (gV mm_414 mm_415 mm_416 mm_30 mm_417) rfl rfl rfl hd_M_event ⟨Nat.le_of_ble_eq_true rfl, Nat.le_of_ble_eq_true rfl⟩) (pv_ (F := (cM cI cJ cZ bd)) (u := (v11.2, u.2).2) hK (hP.sub (ws' := (cM cI cJ cZ bd) ((v11.2, u.2).2)) [17, 18, 19, 20, 21, 22, 23, 24, 25, 26, 27, 28, 29, 30, 31, 32, 33] rfl) (hD.sub (ws' := (cM cI cJ cZ bd) ((v11.2, u.2).2)) [17, 18, 19, 20, 21, 22, 23, 24, 25, 26, 27, 28, 29, 30, 31, 32, 33] (by decide) rfl) (va_recv hK hP (ci := 3) (q0 := 17) rfl rfl)) rfl rfl hl.1 rfl (lv_room (Nat.le_of_ble_eq_true rfl)) d_W_law_243 ⟨Nat.le_of_ble_eq_true rfl, Nat.le_of_ble_eq_true rfl⟩) hP hD hS (va_free (wc := (cM cI cJ cZ bd) ((v11.2, u.2).2)) hD hS hA [17, 18, 19, 20, 21, 22, 23, 24, 25, 26, 27, 28, 29, 30, 31, 32, 33] rfl) [17, 18, 19, 20, 21, 22, 23, 24, 25, 26, 27, 28, 29, 30, 31, 32, 33] [0, 1, 2, 3, 4, 5, 6, 7, 8, 9, 10, 11, 12, 13, 14, 15, 16] rfl rfl (by decide) (by decide) (fun H locs hP hD hS => ?_)
      replace hP := hP.sub (ws' := ((cW cI cJ cZ ad bd) ((v11.2, u.2).1, v19.2))) [0, 1, 2, 3, 4, 5, 6, 7, 8, 9, 10, 11, 12, 13, 14, 15, 16, 17, 18, 19, 20, 21, 22, 23, 24, 25, 26, 27, 28, 29, 30, 31, 32, 33] (yW_M cI cJ cZ ad bd (v11.2, u.2) v19.2)
      replace hD := hD.sub (ws' := ((cW cI cJ cZ ad bd) ((v11.2, u.2).1, v19.2))) [0, 1, 2, 3, 4, 5, 6, 7, 8, 9, 10, 11, 12, 13, 14, 15, 16, 17, 18, 19, 20, 21, 22, 23, 24, 25, 26, 27, 28, 29, 30, 31, 32, 33] (by decide) (xW_M cI cJ cZ ad bd (v11.2, u.2) v19.2)
      refine lv_icmp_eq (tgt := 661) hx hb d_W_law_246 (by decide) (fun c20 => ?_) (fun c20 => ?_)
      · replace hM := it_t c20 hM
        exact w_W_law_661 C hX hbl hAl hk18 x3 ((v11.2, u.2).1, v19.2) H locs ls hP hD hS (lv_sub hl [0, 1, 2, 3] rfl) hM
      · replace hM := it_f c20 hM
        refine lv_iconst (v := (0 : Int32)) hx hb d_W_law_249 (by decide) ?_
        have e9 := Option.some.inj hM
        rw [e9]
        refine va_forget (fun q hq => hAl _ (hS.2.2 q hq)) ?_
        refine W.widen (k := 34) (n := 5543) (Nat.le_of_ble_eq_true rfl) (Nat.le_of_ble_eq_true rfl) ?_
        exact lw_ret hx hb hr hlocks d_W_law_250
    replace hM := it_f c3 hM
    by_cases c21 : ((xs x3.toNatClampNeg) &&& (15 : Int32)) = (1 : Int32)
    · replace hM := it_t c21 hM
      refine lv_tableIn (off := 218) (tgt := 251) hx hb d_W_law_33 (by rw [c21]; decide) (by rw [c21]; decide) (by rw [c21]; rfl) (by decide) ?_
      refine lv_aload_n hx hb d_W_law_251 rfl (lv_at hl 1 rfl) ?_
      refine lv_aload_n hx hb d_W_law_252 rfl (lv_at hl 0 rfl) ?_
      refine lv_iload_n hx hb d_W_law_253 rfl (lv_at hl 3 rfl) ?_
      refine lv_iconst (v := (1 : Int32)) hx hb d_W_law_254 (by decide) ?_
      refine lv_iadd hx hb d_W_law_255 ?_
      obtain ⟨h22, hM⟩ := gd_some hM
      refine va_sld hx hb hX hbl hbA hS (vp_in_iff.mpr h22) d_W_law_256 ?_
      obtain ⟨v23, hq23, hM⟩ := bd_some hM
      refine fj_i (F := (cL cI cJ cZ ad)) (u := u.1) (res := v23) (ws := ((cW cI cJ cZ ad bd) u)) (wr := ((cM cI cJ cZ bd) u.2)) (va_runV (As := [.int (xs (x3 + (1 : Int32)).toNatClampNeg)]) (rest := []) ⟨hx, hb, hml, hown, hts⟩ (c_L_counts l D cI cJ cZ ad H.size (xs (x3 + (1 : Int32)).toNatClampNeg) (u.1) v23 hq23) (cwV 1 hts (gV mm_147 mm_148 mm_149 mm_27 mm_150) rfl rfl rfl hd_L_counts ⟨Nat.le_of_ble_eq_true rfl, Nat.le_of_ble_eq_true rfl⟩) (pv_ (F := (cL cI cJ cZ ad)) (u := u.1) hK (hP.sub (ws' := (cL cI cJ cZ ad) (u.1)) [0, 1, 2, 3, 4, 5, 6, 7, 8, 9, 10, 11, 12, 13, 14, 15, 16] rfl) (hD.sub (ws' := (cL cI cJ cZ ad) (u.1)) [0, 1, 2, 3, 4, 5, 6, 7, 8, 9, 10, 11, 12, 13, 14, 15, 16] (by decide) rfl) (va_recv hK hP (ci := 2) (q0 := 0) rfl rfl)) rfl rfl hl.1 rfl (lv_room (Nat.le_of_ble_eq_true rfl)) d_W_law_257 ⟨Nat.le_of_ble_eq_true rfl, Nat.le_of_ble_eq_true rfl⟩) hP hD hS (va_free (wc := (cL cI cJ cZ ad) (u.1)) hD hS hA [0, 1, 2, 3, 4, 5, 6, 7, 8, 9, 10, 11, 12, 13, 14, 15, 16] rfl) [0, 1, 2, 3, 4, 5, 6, 7, 8, 9, 10, 11, 12, 13, 14, 15, 16] [17, 18, 19, 20, 21, 22, 23, 24, 25, 26, 27, 28, 29, 30, 31, 32, 33] rfl rfl (by decide) (by decide) (fun H locs hP hD hS => ?_)
      replace hP := hP.sub (ws' := ((cW cI cJ cZ ad bd) (v23.2, u.2))) [17, 18, 19, 20, 21, 22, 23, 24, 25, 26, 27, 28, 29, 30, 31, 32, 33, 0, 1, 2, 3, 4, 5, 6, 7, 8, 9, 10, 11, 12, 13, 14, 15, 16] (yW_L cI cJ cZ ad bd u v23.2)
      replace hD := hD.sub (ws' := ((cW cI cJ cZ ad bd) (v23.2, u.2))) [17, 18, 19, 20, 21, 22, 23, 24, 25, 26, 27, 28, 29, 30, 31, 32, 33, 0, 1, 2, 3, 4, 5, 6, 7, 8, 9, 10, 11, 12, 13, 14, 15, 16] (by decide) (xW_L cI cJ cZ ad bd u v23.2)
      refine lv_aload_n hx hb d_W_law_260 rfl (lv_at hl 2 rfl) ?_
      refine lv_aload_n hx hb d_W_law_261 rfl (lv_at hl 0 rfl) ?_
      refine lv_iload_n hx hb d_W_law_262 rfl (lv_at hl 3 rfl) ?_
      refine lv_iconst (v := (1 : Int32)) hx hb d_W_law_263 (by decide) ?_
      refine lv_iadd hx hb d_W_law_264 ?_
      obtain ⟨h24, hM⟩ := gd_some hM
      refine va_sld hx hb hX hbl hbA hS (vp_in_iff.mpr h24) d_W_law_265 ?_
      obtain ⟨v25, hq25, hM⟩ := bd_some hM
      refine fj_i (F := (cM cI cJ cZ bd)) (u := (v23.2, u.2).2) (res := v25) (ws := ((cW cI cJ cZ ad bd) (v23.2, u.2))) (wr := ((cL cI cJ cZ ad) (v23.2, u.2).1)) (va_runV (As := [.int (xs (x3 + (1 : Int32)).toNatClampNeg)]) (rest := [.int v23.1]) ⟨hx, hb, hml, hown, hts⟩ (c_M_counts l D cI cJ cZ bd H.size (xs (x3 + (1 : Int32)).toNatClampNeg) ((v23.2, u.2).2) v25 hq25) (cwV 1 hts (gV mm_430 mm_431 mm_432 mm_30 mm_433) rfl rfl rfl hd_M_counts ⟨Nat.le_of_ble_eq_true rfl, Nat.le_of_ble_eq_true rfl⟩) (pv_ (F := (cM cI cJ cZ bd)) (u := (v23.2, u.2).2) hK (hP.sub (ws' := (cM cI cJ cZ bd) ((v23.2, u.2).2)) [17, 18, 19, 20, 21, 22, 23, 24, 25, 26, 27, 28, 29, 30, 31, 32, 33] rfl) (hD.sub (ws' := (cM cI cJ cZ bd) ((v23.2, u.2).2)) [17, 18, 19, 20, 21, 22, 23, 24, 25, 26, 27, 28, 29, 30, 31, 32, 33] (by decide) rfl) (va_recv hK hP (ci := 3) (q0 := 17) rfl rfl)) rfl rfl hl.1 rfl (lv_room (Nat.le_of_ble_eq_true rfl)) d_W_law_266 ⟨Nat.le_of_ble_eq_true rfl, Nat.le_of_ble_eq_true rfl⟩) hP hD hS (va_free (wc := (cM cI cJ cZ bd) ((v23.2, u.2).2)) hD hS hA [17, 18, 19, 20, 21, 22, 23, 24, 25, 26, 27, 28, 29, 30, 31, 32, 33] rfl) [17, 18, 19, 20, 21, 22, 23, 24, 25, 26, 27, 28, 29, 30, 31, 32, 33] [0, 1, 2, 3, 4, 5, 6, 7, 8, 9, 10, 11, 12, 13, 14, 15, 16] rfl rfl (by decide) (by decide) (fun H locs hP hD hS => ?_)
      replace hP := hP.sub (ws' := ((cW cI cJ cZ ad bd) ((v23.2, u.2).1, v25.2))) [0, 1, 2, 3, 4, 5, 6, 7, 8, 9, 10, 11, 12, 13, 14, 15, 16, 17, 18, 19, 20, 21, 22, 23, 24, 25, 26, 27, 28, 29, 30, 31, 32, 33] (yW_M cI cJ cZ ad bd (v23.2, u.2) v25.2)
      replace hD := hD.sub (ws' := ((cW cI cJ cZ ad bd) ((v23.2, u.2).1, v25.2))) [0, 1, 2, 3, 4, 5, 6, 7, 8, 9, 10, 11, 12, 13, 14, 15, 16, 17, 18, 19, 20, 21, 22, 23, 24, 25, 26, 27, 28, 29, 30, 31, 32, 33] (by decide) (xW_M cI cJ cZ ad bd (v23.2, u.2) v25.2)
      refine lv_icmp_eq (tgt := 661) hx hb d_W_law_269 (by decide) (fun c26 => ?_) (fun c26 => ?_)
      · replace hM := it_t c26 hM
        exact w_W_law_661 C hX hbl hAl hk18 x3 ((v23.2, u.2).1, v25.2) H locs ls hP hD hS (lv_sub hl [0, 1, 2, 3] rfl) hM
      · replace hM := it_f c26 hM
        refine lv_iconst (v := (0 : Int32)) hx hb d_W_law_272 (by decide) ?_
        have e9 := Option.some.inj hM
        rw [e9]
        refine va_forget (fun q hq => hAl _ (hS.2.2 q hq)) ?_
        refine W.widen (k := 34) (n := 5543) (Nat.le_of_ble_eq_true rfl) (Nat.le_of_ble_eq_true rfl) ?_
        exact lw_ret hx hb hr hlocks d_W_law_273
    replace hM := it_f c21 hM
    by_cases c27 : ((xs x3.toNatClampNeg) &&& (15 : Int32)) = (2 : Int32)
    · replace hM := it_t c27 hM
      refine lv_tableIn (off := 241) (tgt := 274) hx hb d_W_law_33 (by rw [c27]; decide) (by rw [c27]; decide) (by rw [c27]; rfl) (by decide) ?_
      refine lv_aload_n hx hb d_W_law_274 rfl (lv_at hl 1 rfl) ?_
      obtain ⟨v28, hq28, hM⟩ := bd_some hM
      refine fr_i (res := v28) (va_runV (As := []) (rest := []) ⟨hx, hb, hml, hown, hts⟩ (c_L_events l D cI cJ cZ ad H.size (u.1) v28 hq28) (cwV 0 hts (gV mm_225 mm_226 mm_227 mm_27 mm_228) rfl rfl rfl hd_L_events ⟨Nat.le_of_ble_eq_true rfl, Nat.le_of_ble_eq_true rfl⟩) (pv_ (F := (cL cI cJ cZ ad)) (u := u.1) hK (hP.sub (ws' := (cL cI cJ cZ ad) (u.1)) [0, 1, 2, 3, 4, 5, 6, 7, 8, 9, 10, 11, 12, 13, 14, 15, 16] rfl) (hD.sub (ws' := (cL cI cJ cZ ad) (u.1)) [0, 1, 2, 3, 4, 5, 6, 7, 8, 9, 10, 11, 12, 13, 14, 15, 16] (by decide) rfl) (va_recv hK hP (ci := 2) (q0 := 0) rfl rfl)) rfl rfl hl.1 rfl (lv_room (Nat.le_of_ble_eq_true rfl)) d_W_law_275 ⟨Nat.le_of_ble_eq_true rfl, Nat.le_of_ble_eq_true rfl⟩) hP hS hA (fun H locs hP hS => ?_)
      refine lv_aload_n hx hb d_W_law_278 rfl (lv_at hl 2 rfl) ?_
      obtain ⟨v29, hq29, hM⟩ := bd_some hM
      refine fj_i (F := (cM cI cJ cZ bd)) (u := u.2) (res := v29) (ws := ((cW cI cJ cZ ad bd) u)) (wr := ((cL cI cJ cZ ad) u.1)) (va_runV (As := []) (rest := [.int v28]) ⟨hx, hb, hml, hown, hts⟩ (c_M_events l D cI cJ cZ bd H.size (u.2) v29 hq29) (cwV 0 hts (gV mm_475 mm_476 mm_477 mm_30 mm_478) rfl rfl rfl hd_M_events ⟨Nat.le_of_ble_eq_true rfl, Nat.le_of_ble_eq_true rfl⟩) (pv_ (F := (cM cI cJ cZ bd)) (u := u.2) hK (hP.sub (ws' := (cM cI cJ cZ bd) (u.2)) [17, 18, 19, 20, 21, 22, 23, 24, 25, 26, 27, 28, 29, 30, 31, 32, 33] rfl) (hD.sub (ws' := (cM cI cJ cZ bd) (u.2)) [17, 18, 19, 20, 21, 22, 23, 24, 25, 26, 27, 28, 29, 30, 31, 32, 33] (by decide) rfl) (va_recv hK hP (ci := 3) (q0 := 17) rfl rfl)) rfl rfl hl.1 rfl (lv_room (Nat.le_of_ble_eq_true rfl)) d_W_law_279 ⟨Nat.le_of_ble_eq_true rfl, Nat.le_of_ble_eq_true rfl⟩) hP hD hS (va_free (wc := (cM cI cJ cZ bd) (u.2)) hD hS hA [17, 18, 19, 20, 21, 22, 23, 24, 25, 26, 27, 28, 29, 30, 31, 32, 33] rfl) [17, 18, 19, 20, 21, 22, 23, 24, 25, 26, 27, 28, 29, 30, 31, 32, 33] [0, 1, 2, 3, 4, 5, 6, 7, 8, 9, 10, 11, 12, 13, 14, 15, 16] rfl rfl (by decide) (by decide) (fun H locs hP hD hS => ?_)
      replace hP := hP.sub (ws' := ((cW cI cJ cZ ad bd) (u.1, v29.2))) [0, 1, 2, 3, 4, 5, 6, 7, 8, 9, 10, 11, 12, 13, 14, 15, 16, 17, 18, 19, 20, 21, 22, 23, 24, 25, 26, 27, 28, 29, 30, 31, 32, 33] (yW_M cI cJ cZ ad bd u v29.2)
      replace hD := hD.sub (ws' := ((cW cI cJ cZ ad bd) (u.1, v29.2))) [0, 1, 2, 3, 4, 5, 6, 7, 8, 9, 10, 11, 12, 13, 14, 15, 16, 17, 18, 19, 20, 21, 22, 23, 24, 25, 26, 27, 28, 29, 30, 31, 32, 33] (by decide) (xW_M cI cJ cZ ad bd u v29.2)
      refine lv_icmp_eq (tgt := 661) hx hb d_W_law_282 (by decide) (fun c30 => ?_) (fun c30 => ?_)
      · replace hM := it_t c30 hM
        exact w_W_law_661 C hX hbl hAl hk18 x3 (u.1, v29.2) H locs ls hP hD hS (lv_sub hl [0, 1, 2, 3] rfl) hM
      · replace hM := it_f c30 hM
        refine lv_iconst (v := (0 : Int32)) hx hb d_W_law_285 (by decide) ?_
        have e9 := Option.some.inj hM
        rw [e9]
        refine va_forget (fun q hq => hAl _ (hS.2.2 q hq)) ?_
        refine W.widen (k := 34) (n := 5543) (Nat.le_of_ble_eq_true rfl) (Nat.le_of_ble_eq_true rfl) ?_
        exact lw_ret hx hb hr hlocks d_W_law_286
    replace hM := it_f c27 hM
    by_cases c31 : ((xs x3.toNatClampNeg) &&& (15 : Int32)) = (3 : Int32)
    · replace hM := it_t c31 hM
      refine lv_tableIn (off := 254) (tgt := 287) hx hb d_W_law_33 (by rw [c31]; decide) (by rw [c31]; decide) (by rw [c31]; rfl) (by decide) ?_
      refine lv_aload_n hx hb d_W_law_287 rfl (lv_at hl 1 rfl) ?_
      obtain ⟨v32, hq32, hM⟩ := bd_some hM
      refine fj_i (F := (cL cI cJ cZ ad)) (u := u.1) (res := v32) (ws := ((cW cI cJ cZ ad bd) u)) (wr := ((cM cI cJ cZ bd) u.2)) (va_runV (As := []) (rest := []) ⟨hx, hb, hml, hown, hts⟩ (c_L_refused l D cI cJ cZ ad H.size (u.1) v32 hq32) (cwV 0 hts (gV mm_229 mm_230 mm_231 mm_27 mm_232) rfl rfl rfl hd_L_refused ⟨Nat.le_of_ble_eq_true rfl, Nat.le_of_ble_eq_true rfl⟩) (pv_ (F := (cL cI cJ cZ ad)) (u := u.1) hK (hP.sub (ws' := (cL cI cJ cZ ad) (u.1)) [0, 1, 2, 3, 4, 5, 6, 7, 8, 9, 10, 11, 12, 13, 14, 15, 16] rfl) (hD.sub (ws' := (cL cI cJ cZ ad) (u.1)) [0, 1, 2, 3, 4, 5, 6, 7, 8, 9, 10, 11, 12, 13, 14, 15, 16] (by decide) rfl) (va_recv hK hP (ci := 2) (q0 := 0) rfl rfl)) rfl rfl hl.1 rfl (lv_room (Nat.le_of_ble_eq_true rfl)) d_W_law_288 ⟨Nat.le_of_ble_eq_true rfl, Nat.le_of_ble_eq_true rfl⟩) hP hD hS (va_free (wc := (cL cI cJ cZ ad) (u.1)) hD hS hA [0, 1, 2, 3, 4, 5, 6, 7, 8, 9, 10, 11, 12, 13, 14, 15, 16] rfl) [0, 1, 2, 3, 4, 5, 6, 7, 8, 9, 10, 11, 12, 13, 14, 15, 16] [17, 18, 19, 20, 21, 22, 23, 24, 25, 26, 27, 28, 29, 30, 31, 32, 33] rfl rfl (by decide) (by decide) (fun H locs hP hD hS => ?_)
      replace hP := hP.sub (ws' := ((cW cI cJ cZ ad bd) (v32.2, u.2))) [17, 18, 19, 20, 21, 22, 23, 24, 25, 26, 27, 28, 29, 30, 31, 32, 33, 0, 1, 2, 3, 4, 5, 6, 7, 8, 9, 10, 11, 12, 13, 14, 15, 16] (yW_L cI cJ cZ ad bd u v32.2)
      replace hD := hD.sub (ws' := ((cW cI cJ cZ ad bd) (v32.2, u.2))) [17, 18, 19, 20, 21, 22, 23, 24, 25, 26, 27, 28, 29, 30, 31, 32, 33, 0, 1, 2, 3, 4, 5, 6, 7, 8, 9, 10, 11, 12, 13, 14, 15, 16] (by decide) (xW_L cI cJ cZ ad bd u v32.2)
      refine lv_aload_n hx hb d_W_law_291 rfl (lv_at hl 2 rfl) ?_
      obtain ⟨v33, hq33, hM⟩ := bd_some hM
      refine fj_i (F := (cM cI cJ cZ bd)) (u := (v32.2, u.2).2) (res := v33) (ws := ((cW cI cJ cZ ad bd) (v32.2, u.2))) (wr := ((cL cI cJ cZ ad) (v32.2, u.2).1)) (va_runV (As := []) (rest := [.int v32.1]) ⟨hx, hb, hml, hown, hts⟩ (c_M_refused l D cI cJ cZ bd H.size ((v32.2, u.2).2) v33 hq33) (cwV 0 hts (gV mm_479 mm_480 mm_481 mm_30 mm_482) rfl rfl rfl hd_M_refused ⟨Nat.le_of_ble_eq_true rfl, Nat.le_of_ble_eq_true rfl⟩) (pv_ (F := (cM cI cJ cZ bd)) (u := (v32.2, u.2).2) hK (hP.sub (ws' := (cM cI cJ cZ bd) ((v32.2, u.2).2)) [17, 18, 19, 20, 21, 22, 23, 24, 25, 26, 27, 28, 29, 30, 31, 32, 33] rfl) (hD.sub (ws' := (cM cI cJ cZ bd) ((v32.2, u.2).2)) [17, 18, 19, 20, 21, 22, 23, 24, 25, 26, 27, 28, 29, 30, 31, 32, 33] (by decide) rfl) (va_recv hK hP (ci := 3) (q0 := 17) rfl rfl)) rfl rfl hl.1 rfl (lv_room (Nat.le_of_ble_eq_true rfl)) d_W_law_292 ⟨Nat.le_of_ble_eq_true rfl, Nat.le_of_ble_eq_true rfl⟩) hP hD hS (va_free (wc := (cM cI cJ cZ bd) ((v32.2, u.2).2)) hD hS hA [17, 18, 19, 20, 21, 22, 23, 24, 25, 26, 27, 28, 29, 30, 31, 32, 33] rfl) [17, 18, 19, 20, 21, 22, 23, 24, 25, 26, 27, 28, 29, 30, 31, 32, 33] [0, 1, 2, 3, 4, 5, 6, 7, 8, 9, 10, 11, 12, 13, 14, 15, 16] rfl rfl (by decide) (by decide) (fun H locs hP hD hS => ?_)
      replace hP := hP.sub (ws' := ((cW cI cJ cZ ad bd) ((v32.2, u.2).1, v33.2))) [0, 1, 2, 3, 4, 5, 6, 7, 8, 9, 10, 11, 12, 13, 14, 15, 16, 17, 18, 19, 20, 21, 22, 23, 24, 25, 26, 27, 28, 29, 30, 31, 32, 33] (yW_M cI cJ cZ ad bd (v32.2, u.2) v33.2)
      replace hD := hD.sub (ws' := ((cW cI cJ cZ ad bd) ((v32.2, u.2).1, v33.2))) [0, 1, 2, 3, 4, 5, 6, 7, 8, 9, 10, 11, 12, 13, 14, 15, 16, 17, 18, 19, 20, 21, 22, 23, 24, 25, 26, 27, 28, 29, 30, 31, 32, 33] (by decide) (xW_M cI cJ cZ ad bd (v32.2, u.2) v33.2)
      refine lv_icmp_eq (tgt := 661) hx hb d_W_law_295 (by decide) (fun c34 => ?_) (fun c34 => ?_)
      · replace hM := it_t c34 hM
        exact w_W_law_661 C hX hbl hAl hk18 x3 ((v32.2, u.2).1, v33.2) H locs ls hP hD hS (lv_sub hl [0, 1, 2, 3] rfl) hM
      · replace hM := it_f c34 hM
        refine lv_iconst (v := (0 : Int32)) hx hb d_W_law_298 (by decide) ?_
        have e9 := Option.some.inj hM
        rw [e9]
        refine va_forget (fun q hq => hAl _ (hS.2.2 q hq)) ?_
        refine W.widen (k := 34) (n := 5543) (Nat.le_of_ble_eq_true rfl) (Nat.le_of_ble_eq_true rfl) ?_
        exact lw_ret hx hb hr hlocks d_W_law_299
    replace hM := it_f c31 hM
    by_cases c35 : ((xs x3.toNatClampNeg) &&& (15 : Int32)) = (4 : Int32)
    · replace hM := it_t c35 hM
      refine lv_tableIn (off := 267) (tgt := 300) hx hb d_W_law_33 (by rw [c35]; decide) (by rw [c35]; decide) (by rw [c35]; rfl) (by decide) ?_
      refine lv_aload_n hx hb d_W_law_300 rfl (lv_at hl 1 rfl) ?_
      refine lv_aload_n hx hb d_W_law_301 rfl (lv_at hl 0 rfl) ?_
      refine lv_iload_n hx hb d_W_law_302 rfl (lv_at hl 3 rfl) ?_
      refine lv_iconst (v := (1 : Int32)) hx hb d_W_law_303 (by decide) ?_
      refine lv_iadd hx hb d_W_law_304 ?_
      obtain ⟨h36, hM⟩ := gd_some hM
      refine va_sld hx hb hX hbl hbA hS (vp_in_iff.mpr h36) d_W_law_305 ?_
      refine lv_aload_n hx hb d_W_law_306 rfl (lv_at hl 0 rfl) ?_
      refine lv_iload_n hx hb d_W_law_307 rfl (lv_at hl 3 rfl) ?_
      refine lv_iconst (v := (2 : Int32)) hx hb d_W_law_308 (by decide) ?_
      refine lv_iadd hx hb d_W_law_309 ?_
      obtain ⟨h37, hM⟩ := gd_some hM
      refine va_sld hx hb hX hbl hbA hS (vp_in_iff.mpr h37) d_W_law_310 ?_
      refine lv_aload_n hx hb d_W_law_311 rfl (lv_at hl 0 rfl) ?_
      refine lv_iload_n hx hb d_W_law_312 rfl (lv_at hl 3 rfl) ?_
      refine lv_iconst (v := (3 : Int32)) hx hb d_W_law_313 (by decide) ?_
      refine lv_iadd hx hb d_W_law_314 ?_
      obtain ⟨h38, hM⟩ := gd_some hM
      refine va_sld hx hb hX hbl hbA hS (vp_in_iff.mpr h38) d_W_law_315 ?_
      refine lv_i2l (v := (xs (x3 + (3 : Int32)).toNatClampNeg).toInt64) hx hb d_W_law_316 rfl ?_
      refine lv_bipush (v := (32 : Int32)) hx hb d_W_law_317 (by decide) ?_
      refine lv_lshl (v := ((xs (x3 + (3 : Int32)).toNatClampNeg).toInt64) <<< ((32 : Int32).toInt64 &&& 63)) hx hb d_W_law_319 rfl ?_
      refine lv_aload_n hx hb d_W_law_320 rfl (lv_at hl 0 rfl) ?_
      refine lv_iload_n hx hb d_W_law_321 rfl (lv_at hl 3 rfl) ?_
      refine lv_iconst (v := (4 : Int32)) hx hb d_W_law_322 (by decide) ?_
      refine lv_iadd hx hb d_W_law_323 ?_
      obtain ⟨h39, hM⟩ := gd_some hM
      refine va_sld hx hb hX hbl hbA hS (vp_in_iff.mpr h39) d_W_law_324 ?_
      refine lv_i2l (v := (xs (x3 + (4 : Int32)).toNatClampNeg).toInt64) hx hb d_W_law_325 rfl ?_
      refine lv_ldc2 (v := (4294967295 : Int64)) hx hb hown (hts _ mm_527) d_W_law_326 ?_
      refine lv_land hx hb d_W_law_329 ?_
      refine lv_lor hx hb d_W_law_330 ?_
      obtain ⟨v40, hq40, hM⟩ := bd_some hM
      refine fj_i (F := (cL cI cJ cZ ad)) (u := u.1) (res := v40) (ws := ((cW cI cJ cZ ad bd) u)) (wr := ((cM cI cJ cZ bd) u.2)) (va_runV (As := [.int (xs (x3 + (1 : Int32)).toNatClampNeg), .int (xs (x3 + (2 : Int32)).toNatClampNeg), .long ((((xs (x3 + (3 : Int32)).toNatClampNeg).toInt64) <<< ((32 : Int32).toInt64 &&& 63)) ||| (((xs (x3 + (4 : Int32)).toNatClampNeg).toInt64) &&& (4294967295 : Int64)))]) (rest := []) ⟨hx, hb, hml, hown, hts⟩ (c_L_state l D cI cJ cZ ad H.size (xs (x3 + (1 : Int32)).toNatClampNeg) (xs (x3 + (2 : Int32)).toNatClampNeg) ((((xs (x3 + (3 : Int32)).toNatClampNeg).toInt64) <<< ((32 : Int32).toInt64 &&& 63)) ||| (((xs (x3 + (4 : Int32)).toNatClampNeg).toInt64) &&& (4294967295 : Int64))) (u.1) v40 hq40) (cwV 3 hts (gV mm_233 mm_234 mm_235 mm_27 mm_236) rfl rfl rfl hd_L_state ⟨Nat.le_of_ble_eq_true rfl, Nat.le_of_ble_eq_true rfl⟩) (pv_ (F := (cL cI cJ cZ ad)) (u := u.1) hK (hP.sub (ws' := (cL cI cJ cZ ad) (u.1)) [0, 1, 2, 3, 4, 5, 6, 7, 8, 9, 10, 11, 12, 13, 14, 15, 16] rfl) (hD.sub (ws' := (cL cI cJ cZ ad) (u.1)) [0, 1, 2, 3, 4, 5, 6, 7, 8, 9, 10, 11, 12, 13, 14, 15, 16] (by decide) rfl) (va_recv hK hP (ci := 2) (q0 := 0) rfl rfl)) rfl rfl hl.1 rfl (lv_room (Nat.le_of_ble_eq_true rfl)) d_W_law_331 ⟨Nat.le_of_ble_eq_true rfl, Nat.le_of_ble_eq_true rfl⟩) hP hD hS (va_free (wc := (cL cI cJ cZ ad) (u.1)) hD hS hA [0, 1, 2, 3, 4, 5, 6, 7, 8, 9, 10, 11, 12, 13, 14, 15, 16] rfl) [0, 1, 2, 3, 4, 5, 6, 7, 8, 9, 10, 11, 12, 13, 14, 15, 16] [17, 18, 19, 20, 21, 22, 23, 24, 25, 26, 27, 28, 29, 30, 31, 32, 33] rfl rfl (by decide) (by decide) (fun H locs hP hD hS => ?_)
      replace hP := hP.sub (ws' := ((cW cI cJ cZ ad bd) (v40.2, u.2))) [17, 18, 19, 20, 21, 22, 23, 24, 25, 26, 27, 28, 29, 30, 31, 32, 33, 0, 1, 2, 3, 4, 5, 6, 7, 8, 9, 10, 11, 12, 13, 14, 15, 16] (yW_L cI cJ cZ ad bd u v40.2)
      replace hD := hD.sub (ws' := ((cW cI cJ cZ ad bd) (v40.2, u.2))) [17, 18, 19, 20, 21, 22, 23, 24, 25, 26, 27, 28, 29, 30, 31, 32, 33, 0, 1, 2, 3, 4, 5, 6, 7, 8, 9, 10, 11, 12, 13, 14, 15, 16] (by decide) (xW_L cI cJ cZ ad bd u v40.2)
      refine lv_aload_n hx hb d_W_law_334 rfl (lv_at hl 2 rfl) ?_
      refine lv_aload_n hx hb d_W_law_335 rfl (lv_at hl 0 rfl) ?_
      refine lv_iload_n hx hb d_W_law_336 rfl (lv_at hl 3 rfl) ?_
      refine lv_iconst (v := (1 : Int32)) hx hb d_W_law_337 (by decide) ?_
      refine lv_iadd hx hb d_W_law_338 ?_
      obtain ⟨h41, hM⟩ := gd_some hM
      refine va_sld hx hb hX hbl hbA hS (vp_in_iff.mpr h41) d_W_law_339 ?_
      refine lv_aload_n hx hb d_W_law_340 rfl (lv_at hl 0 rfl) ?_
      refine lv_iload_n hx hb d_W_law_341 rfl (lv_at hl 3 rfl) ?_
      refine lv_iconst (v := (2 : Int32)) hx hb d_W_law_342 (by decide) ?_
      refine lv_iadd hx hb d_W_law_343 ?_
      obtain ⟨h42, hM⟩ := gd_some hM
      refine va_sld hx hb hX hbl hbA hS (vp_in_iff.mpr h42) d_W_law_344 ?_
      refine lv_aload_n hx hb d_W_law_345 rfl (lv_at hl 0 rfl) ?_
      refine lv_iload_n hx hb d_W_law_346 rfl (lv_at hl 3 rfl) ?_
      refine lv_iconst (v := (3 : Int32)) hx hb d_W_law_347 (by decide) ?_
      refine lv_iadd hx hb d_W_law_348 ?_
      obtain ⟨h43, hM⟩ := gd_some hM
      refine va_sld hx hb hX hbl hbA hS (vp_in_iff.mpr h43) d_W_law_349 ?_
      refine lv_i2l (v := (xs (x3 + (3 : Int32)).toNatClampNeg).toInt64) hx hb d_W_law_350 rfl ?_
      refine lv_bipush (v := (32 : Int32)) hx hb d_W_law_351 (by decide) ?_
      refine lv_lshl (v := ((xs (x3 + (3 : Int32)).toNatClampNeg).toInt64) <<< ((32 : Int32).toInt64 &&& 63)) hx hb d_W_law_353 rfl ?_
      refine lv_aload_n hx hb d_W_law_354 rfl (lv_at hl 0 rfl) ?_
      refine lv_iload_n hx hb d_W_law_355 rfl (lv_at hl 3 rfl) ?_
      refine lv_iconst (v := (4 : Int32)) hx hb d_W_law_356 (by decide) ?_
      refine lv_iadd hx hb d_W_law_357 ?_
      obtain ⟨h44, hM⟩ := gd_some hM
      refine va_sld hx hb hX hbl hbA hS (vp_in_iff.mpr h44) d_W_law_358 ?_
      refine lv_i2l (v := (xs (x3 + (4 : Int32)).toNatClampNeg).toInt64) hx hb d_W_law_359 rfl ?_
      refine lv_ldc2 (v := (4294967295 : Int64)) hx hb hown (hts _ mm_527) d_W_law_360 ?_
      refine lv_land hx hb d_W_law_363 ?_
      refine lv_lor hx hb d_W_law_364 ?_
      obtain ⟨v45, hq45, hM⟩ := bd_some hM
      refine fj_i (F := (cM cI cJ cZ bd)) (u := (v40.2, u.2).2) (res := v45) (ws := ((cW cI cJ cZ ad bd) (v40.2, u.2))) (wr := ((cL cI cJ cZ ad) (v40.2, u.2).1)) (va_runV (As := [.int (xs (x3 + (1 : Int32)).toNatClampNeg), .int (xs (x3 + (2 : Int32)).toNatClampNeg), .long ((((xs (x3 + (3 : Int32)).toNatClampNeg).toInt64) <<< ((32 : Int32).toInt64 &&& 63)) ||| (((xs (x3 + (4 : Int32)).toNatClampNeg).toInt64) &&& (4294967295 : Int64)))]) (rest := [.int v40.1]) ⟨hx, hb, hml, hown, hts⟩ (c_M_state l D cI cJ cZ bd H.size (xs (x3 + (1 : Int32)).toNatClampNeg) (xs (x3 + (2 : Int32)).toNatClampNeg) ((((xs (x3 + (3 : Int32)).toNatClampNeg).toInt64) <<< ((32 : Int32).toInt64 &&& 63)) ||| (((xs (x3 + (4 : Int32)).toNatClampNeg).toInt64) &&& (4294967295 : Int64))) ((v40.2, u.2).2) v45 hq45) (cwV 3 hts (gV mm_483 mm_484 mm_485 mm_30 mm_486) rfl rfl rfl hd_M_state ⟨Nat.le_of_ble_eq_true rfl, Nat.le_of_ble_eq_true rfl⟩) (pv_ (F := (cM cI cJ cZ bd)) (u := (v40.2, u.2).2) hK (hP.sub (ws' := (cM cI cJ cZ bd) ((v40.2, u.2).2)) [17, 18, 19, 20, 21, 22, 23, 24, 25, 26, 27, 28, 29, 30, 31, 32, 33] rfl) (hD.sub (ws' := (cM cI cJ cZ bd) ((v40.2, u.2).2)) [17, 18, 19, 20, 21, 22, 23, 24, 25, 26, 27, 28, 29, 30, 31, 32, 33] (by decide) rfl) (va_recv hK hP (ci := 3) (q0 := 17) rfl rfl)) rfl rfl hl.1 rfl (lv_room (Nat.le_of_ble_eq_true rfl)) d_W_law_365 ⟨Nat.le_of_ble_eq_true rfl, Nat.le_of_ble_eq_true rfl⟩) hP hD hS (va_free (wc := (cM cI cJ cZ bd) ((v40.2, u.2).2)) hD hS hA [17, 18, 19, 20, 21, 22, 23, 24, 25, 26, 27, 28, 29, 30, 31, 32, 33] rfl) [17, 18, 19, 20, 21, 22, 23, 24, 25, 26, 27, 28, 29, 30, 31, 32, 33] [0, 1, 2, 3, 4, 5, 6, 7, 8, 9, 10, 11, 12, 13, 14, 15, 16] rfl rfl (by decide) (by decide) (fun H locs hP hD hS => ?_)
      replace hP := hP.sub (ws' := ((cW cI cJ cZ ad bd) ((v40.2, u.2).1, v45.2))) [0, 1, 2, 3, 4, 5, 6, 7, 8, 9, 10, 11, 12, 13, 14, 15, 16, 17, 18, 19, 20, 21, 22, 23, 24, 25, 26, 27, 28, 29, 30, 31, 32, 33] (yW_M cI cJ cZ ad bd (v40.2, u.2) v45.2)
      replace hD := hD.sub (ws' := ((cW cI cJ cZ ad bd) ((v40.2, u.2).1, v45.2))) [0, 1, 2, 3, 4, 5, 6, 7, 8, 9, 10, 11, 12, 13, 14, 15, 16, 17, 18, 19, 20, 21, 22, 23, 24, 25, 26, 27, 28, 29, 30, 31, 32, 33] (by decide) (xW_M cI cJ cZ ad bd (v40.2, u.2) v45.2)
      refine lv_icmp_eq (tgt := 661) hx hb d_W_law_368 (by decide) (fun c46 => ?_) (fun c46 => ?_)
      · replace hM := it_t c46 hM
        exact w_W_law_661 C hX hbl hAl hk18 x3 ((v40.2, u.2).1, v45.2) H locs ls hP hD hS (lv_sub hl [0, 1, 2, 3] rfl) hM
      · replace hM := it_f c46 hM
        refine lv_iconst (v := (0 : Int32)) hx hb d_W_law_371 (by decide) ?_
        have e9 := Option.some.inj hM
        rw [e9]
        refine va_forget (fun q hq => hAl _ (hS.2.2 q hq)) ?_
        refine W.widen (k := 34) (n := 5543) (Nat.le_of_ble_eq_true rfl) (Nat.le_of_ble_eq_true rfl) ?_
        exact lw_ret hx hb hr hlocks d_W_law_372
    replace hM := it_f c35 hM
    by_cases c47 : ((xs x3.toNatClampNeg) &&& (15 : Int32)) = (5 : Int32)
    · replace hM := it_t c47 hM
      refine lv_tableIn (off := 340) (tgt := 373) hx hb d_W_law_33 (by rw [c47]; decide) (by rw [c47]; decide) (by rw [c47]; rfl) (by decide) ?_
      refine lv_aload_n hx hb d_W_law_373 rfl (lv_at hl 1 rfl) ?_
      refine lv_aload_n hx hb d_W_law_374 rfl (lv_at hl 0 rfl) ?_
      refine lv_iload_n hx hb d_W_law_375 rfl (lv_at hl 3 rfl) ?_
      refine lv_iconst (v := (1 : Int32)) hx hb d_W_law_376 (by decide) ?_
      refine lv_iadd hx hb d_W_law_377 ?_
      obtain ⟨h48, hM⟩ := gd_some hM
      refine va_sld hx hb hX hbl hbA hS (vp_in_iff.mpr h48) d_W_law_378 ?_
      refine lv_aload_n hx hb d_W_law_379 rfl (lv_at hl 0 rfl) ?_
      refine lv_iload_n hx hb d_W_law_380 rfl (lv_at hl 3 rfl) ?_
      refine lv_iconst (v := (2 : Int32)) hx hb d_W_law_381 (by decide) ?_
      refine lv_iadd hx hb d_W_law_382 ?_
      obtain ⟨h49, hM⟩ := gd_some hM
      refine va_sld hx hb hX hbl hbA hS (vp_in_iff.mpr h49) d_W_law_383 ?_
      obtain ⟨v50, hq50, hM⟩ := bd_some hM
      refine fj_i (F := (cL cI cJ cZ ad)) (u := u.1) (res := v50) (ws := ((cW cI cJ cZ ad bd) u)) (wr := ((cM cI cJ cZ bd) u.2)) (va_runV (As := [.int (xs (x3 + (1 : Int32)).toNatClampNeg), .int (xs (x3 + (2 : Int32)).toNatClampNeg)]) (rest := []) ⟨hx, hb, hml, hown, hts⟩ (c_L_heading l D cI cJ cZ ad H.size (xs (x3 + (1 : Int32)).toNatClampNeg) (xs (x3 + (2 : Int32)).toNatClampNeg) (u.1) v50 hq50) (cwV 2 hts (gV mm_261 mm_262 mm_263 mm_27 mm_264) rfl rfl rfl hd_L_heading ⟨Nat.le_of_ble_eq_true rfl, Nat.le_of_ble_eq_true rfl⟩) (pv_ (F := (cL cI cJ cZ ad)) (u := u.1) hK (hP.sub (ws' := (cL cI cJ cZ ad) (u.1)) [0, 1, 2, 3, 4, 5, 6, 7, 8, 9, 10, 11, 12, 13, 14, 15, 16] rfl) (hD.sub (ws' := (cL cI cJ cZ ad) (u.1)) [0, 1, 2, 3, 4, 5, 6, 7, 8, 9, 10, 11, 12, 13, 14, 15, 16] (by decide) rfl) (va_recv hK hP (ci := 2) (q0 := 0) rfl rfl)) rfl rfl hl.1 rfl (lv_room (Nat.le_of_ble_eq_true rfl)) d_W_law_384 ⟨Nat.le_of_ble_eq_true rfl, Nat.le_of_ble_eq_true rfl⟩) hP hD hS (va_free (wc := (cL cI cJ cZ ad) (u.1)) hD hS hA [0, 1, 2, 3, 4, 5, 6, 7, 8, 9, 10, 11, 12, 13, 14, 15, 16] rfl) [0, 1, 2, 3, 4, 5, 6, 7, 8, 9, 10, 11, 12, 13, 14, 15, 16] [17, 18, 19, 20, 21, 22, 23, 24, 25, 26, 27, 28, 29, 30, 31, 32, 33] rfl rfl (by decide) (by decide) (fun H locs hP hD hS => ?_)
      replace hP := hP.sub (ws' := ((cW cI cJ cZ ad bd) (v50.2, u.2))) [17, 18, 19, 20, 21, 22, 23, 24, 25, 26, 27, 28, 29, 30, 31, 32, 33, 0, 1, 2, 3, 4, 5, 6, 7, 8, 9, 10, 11, 12, 13, 14, 15, 16] (yW_L cI cJ cZ ad bd u v50.2)
      replace hD := hD.sub (ws' := ((cW cI cJ cZ ad bd) (v50.2, u.2))) [17, 18, 19, 20, 21, 22, 23, 24, 25, 26, 27, 28, 29, 30, 31, 32, 33, 0, 1, 2, 3, 4, 5, 6, 7, 8, 9, 10, 11, 12, 13, 14, 15, 16] (by decide) (xW_L cI cJ cZ ad bd u v50.2)
      refine lv_aload_n hx hb d_W_law_387 rfl (lv_at hl 2 rfl) ?_
      refine lv_aload_n hx hb d_W_law_388 rfl (lv_at hl 0 rfl) ?_
      refine lv_iload_n hx hb d_W_law_389 rfl (lv_at hl 3 rfl) ?_
      refine lv_iconst (v := (1 : Int32)) hx hb d_W_law_390 (by decide) ?_
      refine lv_iadd hx hb d_W_law_391 ?_
      obtain ⟨h51, hM⟩ := gd_some hM
      refine va_sld hx hb hX hbl hbA hS (vp_in_iff.mpr h51) d_W_law_392 ?_
      refine lv_aload_n hx hb d_W_law_393 rfl (lv_at hl 0 rfl) ?_
      refine lv_iload_n hx hb d_W_law_394 rfl (lv_at hl 3 rfl) ?_
      refine lv_iconst (v := (2 : Int32)) hx hb d_W_law_395 (by decide) ?_
      refine lv_iadd hx hb d_W_law_396 ?_
      obtain ⟨h52, hM⟩ := gd_some hM
      refine va_sld hx hb hX hbl hbA hS (vp_in_iff.mpr h52) d_W_law_397 ?_
      obtain ⟨v53, hq53, hM⟩ := bd_some hM
      refine fj_i (F := (cM cI cJ cZ bd)) (u := (v50.2, u.2).2) (res := v53) (ws := ((cW cI cJ cZ ad bd) (v50.2, u.2))) (wr := ((cL cI cJ cZ ad) (v50.2, u.2).1)) (va_runV (As := [.int (xs (x3 + (1 : Int32)).toNatClampNeg), .int (xs (x3 + (2 : Int32)).toNatClampNeg)]) (rest := [.int v50.1]) ⟨hx, hb, hml, hown, hts⟩ (c_M_heading l D cI cJ cZ bd H.size (xs (x3 + (1 : Int32)).toNatClampNeg) (xs (x3 + (2 : Int32)).toNatClampNeg) ((v50.2, u.2).2) v53 hq53) (cwV 2 hts (gV mm_490 mm_491 mm_492 mm_30 mm_493) rfl rfl rfl hd_M_heading ⟨Nat.le_of_ble_eq_true rfl, Nat.le_of_ble_eq_true rfl⟩) (pv_ (F := (cM cI cJ cZ bd)) (u := (v50.2, u.2).2) hK (hP.sub (ws' := (cM cI cJ cZ bd) ((v50.2, u.2).2)) [17, 18, 19, 20, 21, 22, 23, 24, 25, 26, 27, 28, 29, 30, 31, 32, 33] rfl) (hD.sub (ws' := (cM cI cJ cZ bd) ((v50.2, u.2).2)) [17, 18, 19, 20, 21, 22, 23, 24, 25, 26, 27, 28, 29, 30, 31, 32, 33] (by decide) rfl) (va_recv hK hP (ci := 3) (q0 := 17) rfl rfl)) rfl rfl hl.1 rfl (lv_room (Nat.le_of_ble_eq_true rfl)) d_W_law_398 ⟨Nat.le_of_ble_eq_true rfl, Nat.le_of_ble_eq_true rfl⟩) hP hD hS (va_free (wc := (cM cI cJ cZ bd) ((v50.2, u.2).2)) hD hS hA [17, 18, 19, 20, 21, 22, 23, 24, 25, 26, 27, 28, 29, 30, 31, 32, 33] rfl) [17, 18, 19, 20, 21, 22, 23, 24, 25, 26, 27, 28, 29, 30, 31, 32, 33] [0, 1, 2, 3, 4, 5, 6, 7, 8, 9, 10, 11, 12, 13, 14, 15, 16] rfl rfl (by decide) (by decide) (fun H locs hP hD hS => ?_)
      replace hP := hP.sub (ws' := ((cW cI cJ cZ ad bd) ((v50.2, u.2).1, v53.2))) [0, 1, 2, 3, 4, 5, 6, 7, 8, 9, 10, 11, 12, 13, 14, 15, 16, 17, 18, 19, 20, 21, 22, 23, 24, 25, 26, 27, 28, 29, 30, 31, 32, 33] (yW_M cI cJ cZ ad bd (v50.2, u.2) v53.2)
      replace hD := hD.sub (ws' := ((cW cI cJ cZ ad bd) ((v50.2, u.2).1, v53.2))) [0, 1, 2, 3, 4, 5, 6, 7, 8, 9, 10, 11, 12, 13, 14, 15, 16, 17, 18, 19, 20, 21, 22, 23, 24, 25, 26, 27, 28, 29, 30, 31, 32, 33] (by decide) (xW_M cI cJ cZ ad bd (v50.2, u.2) v53.2)
      refine lv_icmp_eq (tgt := 661) hx hb d_W_law_401 (by decide) (fun c54 => ?_) (fun c54 => ?_)
      · replace hM := it_t c54 hM
        exact w_W_law_661 C hX hbl hAl hk18 x3 ((v50.2, u.2).1, v53.2) H locs ls hP hD hS (lv_sub hl [0, 1, 2, 3] rfl) hM
      · replace hM := it_f c54 hM
        refine lv_iconst (v := (0 : Int32)) hx hb d_W_law_404 (by decide) ?_
        have e9 := Option.some.inj hM
        rw [e9]
        refine va_forget (fun q hq => hAl _ (hS.2.2 q hq)) ?_
        refine W.widen (k := 34) (n := 5543) (Nat.le_of_ble_eq_true rfl) (Nat.le_of_ble_eq_true rfl) ?_
        exact lw_ret hx hb hr hlocks d_W_law_405
    replace hM := it_f c47 hM
    by_cases c55 : ((xs x3.toNatClampNeg) &&& (15 : Int32)) = (6 : Int32)
    · replace hM := it_t c55 hM
      refine lv_tableIn (off := 373) (tgt := 406) hx hb d_W_law_33 (by rw [c55]; decide) (by rw [c55]; decide) (by rw [c55]; rfl) (by decide) ?_
      refine lv_aload_n hx hb d_W_law_406 rfl (lv_at hl 1 rfl) ?_
      refine lv_aload_n hx hb d_W_law_407 rfl (lv_at hl 0 rfl) ?_
      refine lv_iload_n hx hb d_W_law_408 rfl (lv_at hl 3 rfl) ?_
      refine lv_iconst (v := (1 : Int32)) hx hb d_W_law_409 (by decide) ?_
      refine lv_iadd hx hb d_W_law_410 ?_
      obtain ⟨h56, hM⟩ := gd_some hM
      refine va_sld hx hb hX hbl hbA hS (vp_in_iff.mpr h56) d_W_law_411 ?_
      refine lv_aload_n hx hb d_W_law_412 rfl (lv_at hl 0 rfl) ?_
      refine lv_iload_n hx hb d_W_law_413 rfl (lv_at hl 3 rfl) ?_
      refine lv_iconst (v := (2 : Int32)) hx hb d_W_law_414 (by decide) ?_
      refine lv_iadd hx hb d_W_law_415 ?_
      obtain ⟨h57, hM⟩ := gd_some hM
      refine va_sld hx hb hX hbl hbA hS (vp_in_iff.mpr h57) d_W_law_416 ?_
      obtain ⟨v58, hq58, hM⟩ := bd_some hM
      refine fj_i (F := (cL cI cJ cZ ad)) (u := u.1) (res := v58) (ws := ((cW cI cJ cZ ad bd) u)) (wr := ((cM cI cJ cZ bd) u.2)) (va_runV (As := [.int (xs (x3 + (1 : Int32)).toNatClampNeg), .int (xs (x3 + (2 : Int32)).toNatClampNeg)]) (rest := []) ⟨hx, hb, hml, hown, hts⟩ (c_L_question l D cI cJ cZ ad H.size (xs (x3 + (1 : Int32)).toNatClampNeg) (xs (x3 + (2 : Int32)).toNatClampNeg) (u.1) v58 hq58) (cwV 2 hts (gV mm_273 mm_274 mm_275 mm_27 mm_276) rfl rfl rfl hd_L_question ⟨Nat.le_of_ble_eq_true rfl, Nat.le_of_ble_eq_true rfl⟩) (pv_ (F := (cL cI cJ cZ ad)) (u := u.1) hK (hP.sub (ws' := (cL cI cJ cZ ad) (u.1)) [0, 1, 2, 3, 4, 5, 6, 7, 8, 9, 10, 11, 12, 13, 14, 15, 16] rfl) (hD.sub (ws' := (cL cI cJ cZ ad) (u.1)) [0, 1, 2, 3, 4, 5, 6, 7, 8, 9, 10, 11, 12, 13, 14, 15, 16] (by decide) rfl) (va_recv hK hP (ci := 2) (q0 := 0) rfl rfl)) rfl rfl hl.1 rfl (lv_room (Nat.le_of_ble_eq_true rfl)) d_W_law_417 ⟨Nat.le_of_ble_eq_true rfl, Nat.le_of_ble_eq_true rfl⟩) hP hD hS (va_free (wc := (cL cI cJ cZ ad) (u.1)) hD hS hA [0, 1, 2, 3, 4, 5, 6, 7, 8, 9, 10, 11, 12, 13, 14, 15, 16] rfl) [0, 1, 2, 3, 4, 5, 6, 7, 8, 9, 10, 11, 12, 13, 14, 15, 16] [17, 18, 19, 20, 21, 22, 23, 24, 25, 26, 27, 28, 29, 30, 31, 32, 33] rfl rfl (by decide) (by decide) (fun H locs hP hD hS => ?_)
      replace hP := hP.sub (ws' := ((cW cI cJ cZ ad bd) (v58.2, u.2))) [17, 18, 19, 20, 21, 22, 23, 24, 25, 26, 27, 28, 29, 30, 31, 32, 33, 0, 1, 2, 3, 4, 5, 6, 7, 8, 9, 10, 11, 12, 13, 14, 15, 16] (yW_L cI cJ cZ ad bd u v58.2)
      replace hD := hD.sub (ws' := ((cW cI cJ cZ ad bd) (v58.2, u.2))) [17, 18, 19, 20, 21, 22, 23, 24, 25, 26, 27, 28, 29, 30, 31, 32, 33, 0, 1, 2, 3, 4, 5, 6, 7, 8, 9, 10, 11, 12, 13, 14, 15, 16] (by decide) (xW_L cI cJ cZ ad bd u v58.2)
      refine lv_aload_n hx hb d_W_law_420 rfl (lv_at hl 2 rfl) ?_
      refine lv_aload_n hx hb d_W_law_421 rfl (lv_at hl 0 rfl) ?_
      refine lv_iload_n hx hb d_W_law_422 rfl (lv_at hl 3 rfl) ?_
      refine lv_iconst (v := (1 : Int32)) hx hb d_W_law_423 (by decide) ?_
      refine lv_iadd hx hb d_W_law_424 ?_
      obtain ⟨h59, hM⟩ := gd_some hM
      refine va_sld hx hb hX hbl hbA hS (vp_in_iff.mpr h59) d_W_law_425 ?_
      refine lv_aload_n hx hb d_W_law_426 rfl (lv_at hl 0 rfl) ?_
      refine lv_iload_n hx hb d_W_law_427 rfl (lv_at hl 3 rfl) ?_
      refine lv_iconst (v := (2 : Int32)) hx hb d_W_law_428 (by decide) ?_
      refine lv_iadd hx hb d_W_law_429 ?_
      obtain ⟨h60, hM⟩ := gd_some hM
      refine va_sld hx hb hX hbl hbA hS (vp_in_iff.mpr h60) d_W_law_430 ?_
      obtain ⟨v61, hq61, hM⟩ := bd_some hM
      refine fj_i (F := (cM cI cJ cZ bd)) (u := (v58.2, u.2).2) (res := v61) (ws := ((cW cI cJ cZ ad bd) (v58.2, u.2))) (wr := ((cL cI cJ cZ ad) (v58.2, u.2).1)) (va_runV (As := [.int (xs (x3 + (1 : Int32)).toNatClampNeg), .int (xs (x3 + (2 : Int32)).toNatClampNeg)]) (rest := [.int v58.1]) ⟨hx, hb, hml, hown, hts⟩ (c_M_question l D cI cJ cZ bd H.size (xs (x3 + (1 : Int32)).toNatClampNeg) (xs (x3 + (2 : Int32)).toNatClampNeg) ((v58.2, u.2).2) v61 hq61) (cwV 2 hts (gV mm_494 mm_495 mm_496 mm_30 mm_497) rfl rfl rfl hd_M_question ⟨Nat.le_of_ble_eq_true rfl, Nat.le_of_ble_eq_true rfl⟩) (pv_ (F := (cM cI cJ cZ bd)) (u := (v58.2, u.2).2) hK (hP.sub (ws' := (cM cI cJ cZ bd) ((v58.2, u.2).2)) [17, 18, 19, 20, 21, 22, 23, 24, 25, 26, 27, 28, 29, 30, 31, 32, 33] rfl) (hD.sub (ws' := (cM cI cJ cZ bd) ((v58.2, u.2).2)) [17, 18, 19, 20, 21, 22, 23, 24, 25, 26, 27, 28, 29, 30, 31, 32, 33] (by decide) rfl) (va_recv hK hP (ci := 3) (q0 := 17) rfl rfl)) rfl rfl hl.1 rfl (lv_room (Nat.le_of_ble_eq_true rfl)) d_W_law_431 ⟨Nat.le_of_ble_eq_true rfl, Nat.le_of_ble_eq_true rfl⟩) hP hD hS (va_free (wc := (cM cI cJ cZ bd) ((v58.2, u.2).2)) hD hS hA [17, 18, 19, 20, 21, 22, 23, 24, 25, 26, 27, 28, 29, 30, 31, 32, 33] rfl) [17, 18, 19, 20, 21, 22, 23, 24, 25, 26, 27, 28, 29, 30, 31, 32, 33] [0, 1, 2, 3, 4, 5, 6, 7, 8, 9, 10, 11, 12, 13, 14, 15, 16] rfl rfl (by decide) (by decide) (fun H locs hP hD hS => ?_)
      replace hP := hP.sub (ws' := ((cW cI cJ cZ ad bd) ((v58.2, u.2).1, v61.2))) [0, 1, 2, 3, 4, 5, 6, 7, 8, 9, 10, 11, 12, 13, 14, 15, 16, 17, 18, 19, 20, 21, 22, 23, 24, 25, 26, 27, 28, 29, 30, 31, 32, 33] (yW_M cI cJ cZ ad bd (v58.2, u.2) v61.2)
      replace hD := hD.sub (ws' := ((cW cI cJ cZ ad bd) ((v58.2, u.2).1, v61.2))) [0, 1, 2, 3, 4, 5, 6, 7, 8, 9, 10, 11, 12, 13, 14, 15, 16, 17, 18, 19, 20, 21, 22, 23, 24, 25, 26, 27, 28, 29, 30, 31, 32, 33] (by decide) (xW_M cI cJ cZ ad bd (v58.2, u.2) v61.2)
      refine lv_icmp_eq (tgt := 661) hx hb d_W_law_434 (by decide) (fun c62 => ?_) (fun c62 => ?_)
      · replace hM := it_t c62 hM
        exact w_W_law_661 C hX hbl hAl hk18 x3 ((v58.2, u.2).1, v61.2) H locs ls hP hD hS (lv_sub hl [0, 1, 2, 3] rfl) hM
      · replace hM := it_f c62 hM
        refine lv_iconst (v := (0 : Int32)) hx hb d_W_law_437 (by decide) ?_
        have e9 := Option.some.inj hM
        rw [e9]
        refine va_forget (fun q hq => hAl _ (hS.2.2 q hq)) ?_
        refine W.widen (k := 34) (n := 5543) (Nat.le_of_ble_eq_true rfl) (Nat.le_of_ble_eq_true rfl) ?_
        exact lw_ret hx hb hr hlocks d_W_law_438
    replace hM := it_f c55 hM
    by_cases c63 : ((xs x3.toNatClampNeg) &&& (15 : Int32)) = (7 : Int32)
    · replace hM := it_t c63 hM
      refine lv_tableIn (off := 406) (tgt := 439) hx hb d_W_law_33 (by rw [c63]; decide) (by rw [c63]; decide) (by rw [c63]; rfl) (by decide) ?_
      refine lv_aload_n hx hb d_W_law_439 rfl (lv_at hl 1 rfl) ?_
      refine lv_aload_n hx hb d_W_law_440 rfl (lv_at hl 0 rfl) ?_
      refine lv_iload_n hx hb d_W_law_441 rfl (lv_at hl 3 rfl) ?_
      refine lv_iconst (v := (1 : Int32)) hx hb d_W_law_442 (by decide) ?_
      refine lv_iadd hx hb d_W_law_443 ?_
      obtain ⟨h64, hM⟩ := gd_some hM
      refine va_sld hx hb hX hbl hbA hS (vp_in_iff.mpr h64) d_W_law_444 ?_
      obtain ⟨v65, hq65, hM⟩ := bd_some hM
      refine fr_i (res := v65) (va_runV (As := [.int (xs (x3 + (1 : Int32)).toNatClampNeg)]) (rest := []) ⟨hx, hb, hml, hown, hts⟩ (c_L_hit l D cI cJ cZ ad H.size (xs (x3 + (1 : Int32)).toNatClampNeg) (u.1) v65 hq65) (cwV 1 hts (gV mm_278 mm_279 mm_280 mm_27 mm_281) rfl rfl rfl hd_L_hit ⟨Nat.le_of_ble_eq_true rfl, Nat.le_of_ble_eq_true rfl⟩) (pv_ (F := (cL cI cJ cZ ad)) (u := u.1) hK (hP.sub (ws' := (cL cI cJ cZ ad) (u.1)) [0, 1, 2, 3, 4, 5, 6, 7, 8, 9, 10, 11, 12, 13, 14, 15, 16] rfl) (hD.sub (ws' := (cL cI cJ cZ ad) (u.1)) [0, 1, 2, 3, 4, 5, 6, 7, 8, 9, 10, 11, 12, 13, 14, 15, 16] (by decide) rfl) (va_recv hK hP (ci := 2) (q0 := 0) rfl rfl)) rfl rfl hl.1 rfl (lv_room (Nat.le_of_ble_eq_true rfl)) d_W_law_445 ⟨Nat.le_of_ble_eq_true rfl, Nat.le_of_ble_eq_true rfl⟩) hP hS hA (fun H locs hP hS => ?_)
      refine lv_aload_n hx hb d_W_law_448 rfl (lv_at hl 2 rfl) ?_
      refine lv_aload_n hx hb d_W_law_449 rfl (lv_at hl 0 rfl) ?_
      refine lv_iload_n hx hb d_W_law_450 rfl (lv_at hl 3 rfl) ?_
      refine lv_iconst (v := (1 : Int32)) hx hb d_W_law_451 (by decide) ?_
      refine lv_iadd hx hb d_W_law_452 ?_
      obtain ⟨h66, hM⟩ := gd_some hM
      refine va_sld hx hb hX hbl hbA hS (vp_in_iff.mpr h66) d_W_law_453 ?_
      obtain ⟨v67, hq67, hM⟩ := bd_some hM
      refine fj_i (F := (cM cI cJ cZ bd)) (u := u.2) (res := v67) (ws := ((cW cI cJ cZ ad bd) u)) (wr := ((cL cI cJ cZ ad) u.1)) (va_runV (As := [.int (xs (x3 + (1 : Int32)).toNatClampNeg)]) (rest := [.int v65]) ⟨hx, hb, hml, hown, hts⟩ (c_M_hit l D cI cJ cZ bd H.size (xs (x3 + (1 : Int32)).toNatClampNeg) (u.2) v67 hq67) (cwV 1 hts (gV mm_498 mm_499 mm_500 mm_30 mm_501) rfl rfl rfl hd_M_hit ⟨Nat.le_of_ble_eq_true rfl, Nat.le_of_ble_eq_true rfl⟩) (pv_ (F := (cM cI cJ cZ bd)) (u := u.2) hK (hP.sub (ws' := (cM cI cJ cZ bd) (u.2)) [17, 18, 19, 20, 21, 22, 23, 24, 25, 26, 27, 28, 29, 30, 31, 32, 33] rfl) (hD.sub (ws' := (cM cI cJ cZ bd) (u.2)) [17, 18, 19, 20, 21, 22, 23, 24, 25, 26, 27, 28, 29, 30, 31, 32, 33] (by decide) rfl) (va_recv hK hP (ci := 3) (q0 := 17) rfl rfl)) rfl rfl hl.1 rfl (lv_room (Nat.le_of_ble_eq_true rfl)) d_W_law_454 ⟨Nat.le_of_ble_eq_true rfl, Nat.le_of_ble_eq_true rfl⟩) hP hD hS (va_free (wc := (cM cI cJ cZ bd) (u.2)) hD hS hA [17, 18, 19, 20, 21, 22, 23, 24, 25, 26, 27, 28, 29, 30, 31, 32, 33] rfl) [17, 18, 19, 20, 21, 22, 23, 24, 25, 26, 27, 28, 29, 30, 31, 32, 33] [0, 1, 2, 3, 4, 5, 6, 7, 8, 9, 10, 11, 12, 13, 14, 15, 16] rfl rfl (by decide) (by decide) (fun H locs hP hD hS => ?_)
      replace hP := hP.sub (ws' := ((cW cI cJ cZ ad bd) (u.1, v67.2))) [0, 1, 2, 3, 4, 5, 6, 7, 8, 9, 10, 11, 12, 13, 14, 15, 16, 17, 18, 19, 20, 21, 22, 23, 24, 25, 26, 27, 28, 29, 30, 31, 32, 33] (yW_M cI cJ cZ ad bd u v67.2)
      replace hD := hD.sub (ws' := ((cW cI cJ cZ ad bd) (u.1, v67.2))) [0, 1, 2, 3, 4, 5, 6, 7, 8, 9, 10, 11, 12, 13, 14, 15, 16, 17, 18, 19, 20, 21, 22, 23, 24, 25, 26, 27, 28, 29, 30, 31, 32, 33] (by decide) (xW_M cI cJ cZ ad bd u v67.2)
      refine lv_icmp_eq (tgt := 661) hx hb d_W_law_457 (by decide) (fun c68 => ?_) (fun c68 => ?_)
      · replace hM := it_t c68 hM
        exact w_W_law_661 C hX hbl hAl hk18 x3 (u.1, v67.2) H locs ls hP hD hS (lv_sub hl [0, 1, 2, 3] rfl) hM
      · replace hM := it_f c68 hM
        refine lv_iconst (v := (0 : Int32)) hx hb d_W_law_460 (by decide) ?_
        have e9 := Option.some.inj hM
        rw [e9]
        refine va_forget (fun q hq => hAl _ (hS.2.2 q hq)) ?_
        refine W.widen (k := 34) (n := 5543) (Nat.le_of_ble_eq_true rfl) (Nat.le_of_ble_eq_true rfl) ?_
        exact lw_ret hx hb hr hlocks d_W_law_461
    replace hM := it_f c63 hM
    by_cases c69 : ((xs x3.toNatClampNeg) &&& (15 : Int32)) = (8 : Int32)
    · replace hM := it_t c69 hM
      refine lv_tableIn (off := 429) (tgt := 462) hx hb d_W_law_33 (by rw [c69]; decide) (by rw [c69]; decide) (by rw [c69]; rfl) (by decide) ?_
      refine lv_aload_n hx hb d_W_law_462 rfl (lv_at hl 1 rfl) ?_
      refine lv_aload_n hx hb d_W_law_463 rfl (lv_at hl 0 rfl) ?_
      refine lv_iload_n hx hb d_W_law_464 rfl (lv_at hl 3 rfl) ?_
      refine lv_iconst (v := (1 : Int32)) hx hb d_W_law_465 (by decide) ?_
      refine lv_iadd hx hb d_W_law_466 ?_
      obtain ⟨h70, hM⟩ := gd_some hM
      refine va_sld hx hb hX hbl hbA hS (vp_in_iff.mpr h70) d_W_law_467 ?_
      obtain ⟨v71, hq71, hM⟩ := bd_some hM
      refine fj_l (F := (cL cI cJ cZ ad)) (u := u.1) (res := v71) (ws := ((cW cI cJ cZ ad bd) u)) (wr := ((cM cI cJ cZ bd) u.2)) (va_runV (As := [.int (xs (x3 + (1 : Int32)).toNatClampNeg)]) (rest := []) ⟨hx, hb, hml, hown, hts⟩ (c_L_due l D cI cJ cZ ad H.size (xs (x3 + (1 : Int32)).toNatClampNeg) (u.1) v71 hq71) (cwV 1 hts (gV mm_282 mm_283 mm_284 mm_27 mm_285) rfl rfl rfl hd_L_due ⟨Nat.le_of_ble_eq_true rfl, Nat.le_of_ble_eq_true rfl⟩) (pv_ (F := (cL cI cJ cZ ad)) (u := u.1) hK (hP.sub (ws' := (cL cI cJ cZ ad) (u.1)) [0, 1, 2, 3, 4, 5, 6, 7, 8, 9, 10, 11, 12, 13, 14, 15, 16] rfl) (hD.sub (ws' := (cL cI cJ cZ ad) (u.1)) [0, 1, 2, 3, 4, 5, 6, 7, 8, 9, 10, 11, 12, 13, 14, 15, 16] (by decide) rfl) (va_recv hK hP (ci := 2) (q0 := 0) rfl rfl)) rfl rfl hl.1 rfl (lv_room (Nat.le_of_ble_eq_true rfl)) d_W_law_468 ⟨Nat.le_of_ble_eq_true rfl, Nat.le_of_ble_eq_true rfl⟩) hP hD hS (va_free (wc := (cL cI cJ cZ ad) (u.1)) hD hS hA [0, 1, 2, 3, 4, 5, 6, 7, 8, 9, 10, 11, 12, 13, 14, 15, 16] rfl) [0, 1, 2, 3, 4, 5, 6, 7, 8, 9, 10, 11, 12, 13, 14, 15, 16] [17, 18, 19, 20, 21, 22, 23, 24, 25, 26, 27, 28, 29, 30, 31, 32, 33] rfl rfl (by decide) (by decide) (fun H locs hP hD hS => ?_)
      replace hP := hP.sub (ws' := ((cW cI cJ cZ ad bd) (v71.2, u.2))) [17, 18, 19, 20, 21, 22, 23, 24, 25, 26, 27, 28, 29, 30, 31, 32, 33, 0, 1, 2, 3, 4, 5, 6, 7, 8, 9, 10, 11, 12, 13, 14, 15, 16] (yW_L cI cJ cZ ad bd u v71.2)
      replace hD := hD.sub (ws' := ((cW cI cJ cZ ad bd) (v71.2, u.2))) [17, 18, 19, 20, 21, 22, 23, 24, 25, 26, 27, 28, 29, 30, 31, 32, 33, 0, 1, 2, 3, 4, 5, 6, 7, 8, 9, 10, 11, 12, 13, 14, 15, 16] (by decide) (xW_L cI cJ cZ ad bd u v71.2)
      refine lv_aload_n hx hb d_W_law_471 rfl (lv_at hl 2 rfl) ?_
      refine lv_aload_n hx hb d_W_law_472 rfl (lv_at hl 0 rfl) ?_
      refine lv_iload_n hx hb d_W_law_473 rfl (lv_at hl 3 rfl) ?_
      refine lv_iconst (v := (1 : Int32)) hx hb d_W_law_474 (by decide) ?_
      refine lv_iadd hx hb d_W_law_475 ?_
      obtain ⟨h72, hM⟩ := gd_some hM
      refine va_sld hx hb hX hbl hbA hS (vp_in_iff.mpr h72) d_W_law_476 ?_
      obtain ⟨v73, hq73, hM⟩ := bd_some hM
      refine fj_l (F := (cM cI cJ cZ bd)) (u := (v71.2, u.2).2) (res := v73) (ws := ((cW cI cJ cZ ad bd) (v71.2, u.2))) (wr := ((cL cI cJ cZ ad) (v71.2, u.2).1)) (va_runV (As := [.int (xs (x3 + (1 : Int32)).toNatClampNeg)]) (rest := [.long v71.1]) ⟨hx, hb, hml, hown, hts⟩ (c_M_due l D cI cJ cZ bd H.size (xs (x3 + (1 : Int32)).toNatClampNeg) ((v71.2, u.2).2) v73 hq73) (cwV 1 hts (gV mm_502 mm_503 mm_504 mm_30 mm_505) rfl rfl rfl hd_M_due ⟨Nat.le_of_ble_eq_true rfl, Nat.le_of_ble_eq_true rfl⟩) (pv_ (F := (cM cI cJ cZ bd)) (u := (v71.2, u.2).2) hK (hP.sub (ws' := (cM cI cJ cZ bd) ((v71.2, u.2).2)) [17, 18, 19, 20, 21, 22, 23, 24, 25, 26, 27, 28, 29, 30, 31, 32, 33] rfl) (hD.sub (ws' := (cM cI cJ cZ bd) ((v71.2, u.2).2)) [17, 18, 19, 20, 21, 22, 23, 24, 25, 26, 27, 28, 29, 30, 31, 32, 33] (by decide) rfl) (va_recv hK hP (ci := 3) (q0 := 17) rfl rfl)) rfl rfl hl.1 rfl (lv_room (Nat.le_of_ble_eq_true rfl)) d_W_law_477 ⟨Nat.le_of_ble_eq_true rfl, Nat.le_of_ble_eq_true rfl⟩) hP hD hS (va_free (wc := (cM cI cJ cZ bd) ((v71.2, u.2).2)) hD hS hA [17, 18, 19, 20, 21, 22, 23, 24, 25, 26, 27, 28, 29, 30, 31, 32, 33] rfl) [17, 18, 19, 20, 21, 22, 23, 24, 25, 26, 27, 28, 29, 30, 31, 32, 33] [0, 1, 2, 3, 4, 5, 6, 7, 8, 9, 10, 11, 12, 13, 14, 15, 16] rfl rfl (by decide) (by decide) (fun H locs hP hD hS => ?_)
      replace hP := hP.sub (ws' := ((cW cI cJ cZ ad bd) ((v71.2, u.2).1, v73.2))) [0, 1, 2, 3, 4, 5, 6, 7, 8, 9, 10, 11, 12, 13, 14, 15, 16, 17, 18, 19, 20, 21, 22, 23, 24, 25, 26, 27, 28, 29, 30, 31, 32, 33] (yW_M cI cJ cZ ad bd (v71.2, u.2) v73.2)
      replace hD := hD.sub (ws' := ((cW cI cJ cZ ad bd) ((v71.2, u.2).1, v73.2))) [0, 1, 2, 3, 4, 5, 6, 7, 8, 9, 10, 11, 12, 13, 14, 15, 16, 17, 18, 19, 20, 21, 22, 23, 24, 25, 26, 27, 28, 29, 30, 31, 32, 33] (by decide) (xW_M cI cJ cZ ad bd (v71.2, u.2) v73.2)
      refine W.lcmp hx hb d_W_law_480 ?_
      refine lv_if_eq (tgt := 661) hx hb d_W_law_481 (by decide) (fun c74 => ?_) (fun c74 => ?_)
      · replace hM := it_t c74 hM
        exact w_W_law_661 C hX hbl hAl hk18 x3 ((v71.2, u.2).1, v73.2) H locs ls hP hD hS (lv_sub hl [0, 1, 2, 3] rfl) hM
      · replace hM := it_f c74 hM
        refine lv_iconst (v := (0 : Int32)) hx hb d_W_law_484 (by decide) ?_
        have e9 := Option.some.inj hM
        rw [e9]
        refine va_forget (fun q hq => hAl _ (hS.2.2 q hq)) ?_
        refine W.widen (k := 34) (n := 5543) (Nat.le_of_ble_eq_true rfl) (Nat.le_of_ble_eq_true rfl) ?_
        exact lw_ret hx hb hr hlocks d_W_law_485
    replace hM := it_f c69 hM
    by_cases c75 : ((xs x3.toNatClampNeg) &&& (15 : Int32)) = (9 : Int32)
    · replace hM := it_t c75 hM
      refine lv_tableIn (off := 453) (tgt := 486) hx hb d_W_law_33 (by rw [c75]; decide) (by rw [c75]; decide) (by rw [c75]; rfl) (by decide) ?_
      refine lv_aload_n hx hb d_W_law_486 rfl (lv_at hl 1 rfl) ?_
      refine lv_aload_n hx hb d_W_law_487 rfl (lv_at hl 0 rfl) ?_
      refine lv_iload_n hx hb d_W_law_488 rfl (lv_at hl 3 rfl) ?_
      refine lv_iconst (v := (1 : Int32)) hx hb d_W_law_489 (by decide) ?_
      refine lv_iadd hx hb d_W_law_490 ?_
      obtain ⟨h76, hM⟩ := gd_some hM
      refine va_sld hx hb hX hbl hbA hS (vp_in_iff.mpr h76) d_W_law_491 ?_
      refine lv_aload_n hx hb d_W_law_492 rfl (lv_at hl 0 rfl) ?_
      refine lv_iload_n hx hb d_W_law_493 rfl (lv_at hl 3 rfl) ?_
      refine lv_iconst (v := (2 : Int32)) hx hb d_W_law_494 (by decide) ?_
      refine lv_iadd hx hb d_W_law_495 ?_
      obtain ⟨h77, hM⟩ := gd_some hM
      refine va_sld hx hb hX hbl hbA hS (vp_in_iff.mpr h77) d_W_law_496 ?_
      obtain ⟨v78, hq78, hM⟩ := bd_some hM
      refine fj_i (F := (cL cI cJ cZ ad)) (u := u.1) (res := v78) (ws := ((cW cI cJ cZ ad bd) u)) (wr := ((cM cI cJ cZ bd) u.2)) (va_runV (As := [.int (xs (x3 + (1 : Int32)).toNatClampNeg), .int (xs (x3 + (2 : Int32)).toNatClampNeg)]) (rest := []) ⟨hx, hb, hml, hown, hts⟩ (c_L_queue l D cI cJ cZ ad H.size (xs (x3 + (1 : Int32)).toNatClampNeg) (xs (x3 + (2 : Int32)).toNatClampNeg) (u.1) v78 hq78) (cwV 2 hts (gV mm_291 mm_292 mm_293 mm_27 mm_294) rfl rfl rfl hd_L_queue ⟨Nat.le_of_ble_eq_true rfl, Nat.le_of_ble_eq_true rfl⟩) (pv_ (F := (cL cI cJ cZ ad)) (u := u.1) hK (hP.sub (ws' := (cL cI cJ cZ ad) (u.1)) [0, 1, 2, 3, 4, 5, 6, 7, 8, 9, 10, 11, 12, 13, 14, 15, 16] rfl) (hD.sub (ws' := (cL cI cJ cZ ad) (u.1)) [0, 1, 2, 3, 4, 5, 6, 7, 8, 9, 10, 11, 12, 13, 14, 15, 16] (by decide) rfl) (va_recv hK hP (ci := 2) (q0 := 0) rfl rfl)) rfl rfl hl.1 rfl (lv_room (Nat.le_of_ble_eq_true rfl)) d_W_law_497 ⟨Nat.le_of_ble_eq_true rfl, Nat.le_of_ble_eq_true rfl⟩) hP hD hS (va_free (wc := (cL cI cJ cZ ad) (u.1)) hD hS hA [0, 1, 2, 3, 4, 5, 6, 7, 8, 9, 10, 11, 12, 13, 14, 15, 16] rfl) [0, 1, 2, 3, 4, 5, 6, 7, 8, 9, 10, 11, 12, 13, 14, 15, 16] [17, 18, 19, 20, 21, 22, 23, 24, 25, 26, 27, 28, 29, 30, 31, 32, 33] rfl rfl (by decide) (by decide) (fun H locs hP hD hS => ?_)
      replace hP := hP.sub (ws' := ((cW cI cJ cZ ad bd) (v78.2, u.2))) [17, 18, 19, 20, 21, 22, 23, 24, 25, 26, 27, 28, 29, 30, 31, 32, 33, 0, 1, 2, 3, 4, 5, 6, 7, 8, 9, 10, 11, 12, 13, 14, 15, 16] (yW_L cI cJ cZ ad bd u v78.2)
      replace hD := hD.sub (ws' := ((cW cI cJ cZ ad bd) (v78.2, u.2))) [17, 18, 19, 20, 21, 22, 23, 24, 25, 26, 27, 28, 29, 30, 31, 32, 33, 0, 1, 2, 3, 4, 5, 6, 7, 8, 9, 10, 11, 12, 13, 14, 15, 16] (by decide) (xW_L cI cJ cZ ad bd u v78.2)
      refine lv_aload_n hx hb d_W_law_500 rfl (lv_at hl 2 rfl) ?_
      refine lv_aload_n hx hb d_W_law_501 rfl (lv_at hl 0 rfl) ?_
      refine lv_iload_n hx hb d_W_law_502 rfl (lv_at hl 3 rfl) ?_
      refine lv_iconst (v := (1 : Int32)) hx hb d_W_law_503 (by decide) ?_
      refine lv_iadd hx hb d_W_law_504 ?_
      obtain ⟨h79, hM⟩ := gd_some hM
      refine va_sld hx hb hX hbl hbA hS (vp_in_iff.mpr h79) d_W_law_505 ?_
      refine lv_aload_n hx hb d_W_law_506 rfl (lv_at hl 0 rfl) ?_
      refine lv_iload_n hx hb d_W_law_507 rfl (lv_at hl 3 rfl) ?_
      refine lv_iconst (v := (2 : Int32)) hx hb d_W_law_508 (by decide) ?_
      refine lv_iadd hx hb d_W_law_509 ?_
      obtain ⟨h80, hM⟩ := gd_some hM
      refine va_sld hx hb hX hbl hbA hS (vp_in_iff.mpr h80) d_W_law_510 ?_
      obtain ⟨v81, hq81, hM⟩ := bd_some hM
      refine fj_i (F := (cM cI cJ cZ bd)) (u := (v78.2, u.2).2) (res := v81) (ws := ((cW cI cJ cZ ad bd) (v78.2, u.2))) (wr := ((cL cI cJ cZ ad) (v78.2, u.2).1)) (va_runV (As := [.int (xs (x3 + (1 : Int32)).toNatClampNeg), .int (xs (x3 + (2 : Int32)).toNatClampNeg)]) (rest := [.int v78.1]) ⟨hx, hb, hml, hown, hts⟩ (c_M_queue l D cI cJ cZ bd H.size (xs (x3 + (1 : Int32)).toNatClampNeg) (xs (x3 + (2 : Int32)).toNatClampNeg) ((v78.2, u.2).2) v81 hq81) (cwV 2 hts (gV mm_507 mm_508 mm_509 mm_30 mm_510) rfl rfl rfl hd_M_queue ⟨Nat.le_of_ble_eq_true rfl, Nat.le_of_ble_eq_true rfl⟩) (pv_ (F := (cM cI cJ cZ bd)) (u := (v78.2, u.2).2) hK (hP.sub (ws' := (cM cI cJ cZ bd) ((v78.2, u.2).2)) [17, 18, 19, 20, 21, 22, 23, 24, 25, 26, 27, 28, 29, 30, 31, 32, 33] rfl) (hD.sub (ws' := (cM cI cJ cZ bd) ((v78.2, u.2).2)) [17, 18, 19, 20, 21, 22, 23, 24, 25, 26, 27, 28, 29, 30, 31, 32, 33] (by decide) rfl) (va_recv hK hP (ci := 3) (q0 := 17) rfl rfl)) rfl rfl hl.1 rfl (lv_room (Nat.le_of_ble_eq_true rfl)) d_W_law_511 ⟨Nat.le_of_ble_eq_true rfl, Nat.le_of_ble_eq_true rfl⟩) hP hD hS (va_free (wc := (cM cI cJ cZ bd) ((v78.2, u.2).2)) hD hS hA [17, 18, 19, 20, 21, 22, 23, 24, 25, 26, 27, 28, 29, 30, 31, 32, 33] rfl) [17, 18, 19, 20, 21, 22, 23, 24, 25, 26, 27, 28, 29, 30, 31, 32, 33] [0, 1, 2, 3, 4, 5, 6, 7, 8, 9, 10, 11, 12, 13, 14, 15, 16] rfl rfl (by decide) (by decide) (fun H locs hP hD hS => ?_)
      replace hP := hP.sub (ws' := ((cW cI cJ cZ ad bd) ((v78.2, u.2).1, v81.2))) [0, 1, 2, 3, 4, 5, 6, 7, 8, 9, 10, 11, 12, 13, 14, 15, 16, 17, 18, 19, 20, 21, 22, 23, 24, 25, 26, 27, 28, 29, 30, 31, 32, 33] (yW_M cI cJ cZ ad bd (v78.2, u.2) v81.2)
      replace hD := hD.sub (ws' := ((cW cI cJ cZ ad bd) ((v78.2, u.2).1, v81.2))) [0, 1, 2, 3, 4, 5, 6, 7, 8, 9, 10, 11, 12, 13, 14, 15, 16, 17, 18, 19, 20, 21, 22, 23, 24, 25, 26, 27, 28, 29, 30, 31, 32, 33] (by decide) (xW_M cI cJ cZ ad bd (v78.2, u.2) v81.2)
      refine lv_icmp_eq (tgt := 661) hx hb d_W_law_514 (by decide) (fun c82 => ?_) (fun c82 => ?_)
      · replace hM := it_t c82 hM
        exact w_W_law_661 C hX hbl hAl hk18 x3 ((v78.2, u.2).1, v81.2) H locs ls hP hD hS (lv_sub hl [0, 1, 2, 3] rfl) hM
      · replace hM := it_f c82 hM
        refine lv_iconst (v := (0 : Int32)) hx hb d_W_law_517 (by decide) ?_
        have e9 := Option.some.inj hM
        rw [e9]
        refine va_forget (fun q hq => hAl _ (hS.2.2 q hq)) ?_
        refine W.widen (k := 34) (n := 5543) (Nat.le_of_ble_eq_true rfl) (Nat.le_of_ble_eq_true rfl) ?_
        exact lw_ret hx hb hr hlocks d_W_law_518
    replace hM := it_f c75 hM
    by_cases c83 : ((xs x3.toNatClampNeg) &&& (15 : Int32)) = (10 : Int32)
    · replace hM := it_t c83 hM
      refine lv_tableIn (off := 486) (tgt := 519) hx hb d_W_law_33 (by rw [c83]; decide) (by rw [c83]; decide) (by rw [c83]; rfl) (by decide) ?_
      refine lv_aload_n hx hb d_W_law_519 rfl (lv_at hl 1 rfl) ?_
      refine lv_aload_n hx hb d_W_law_520 rfl (lv_at hl 0 rfl) ?_
      refine lv_iload_n hx hb d_W_law_521 rfl (lv_at hl 3 rfl) ?_
      refine lv_iconst (v := (1 : Int32)) hx hb d_W_law_522 (by decide) ?_
      refine lv_iadd hx hb d_W_law_523 ?_
      obtain ⟨h84, hM⟩ := gd_some hM
      refine va_sld hx hb hX hbl hbA hS (vp_in_iff.mpr h84) d_W_law_524 ?_
      obtain ⟨v85, hq85, hM⟩ := bd_some hM
      refine fj_i (F := (cL cI cJ cZ ad)) (u := u.1) (res := v85) (ws := ((cW cI cJ cZ ad bd) u)) (wr := ((cM cI cJ cZ bd) u.2)) (va_runV (As := [.int (xs (x3 + (1 : Int32)).toNatClampNeg)]) (rest := []) ⟨hx, hb, hml, hown, hts⟩ (c_L_poll l D cI cJ cZ ad H.size (xs (x3 + (1 : Int32)).toNatClampNeg) (u.1) v85 hq85) (cwV 1 hts (gV mm_296 mm_297 mm_298 mm_27 mm_299) rfl rfl rfl hd_L_poll ⟨Nat.le_of_ble_eq_true rfl, Nat.le_of_ble_eq_true rfl⟩) (pv_ (F := (cL cI cJ cZ ad)) (u := u.1) hK (hP.sub (ws' := (cL cI cJ cZ ad) (u.1)) [0, 1, 2, 3, 4, 5, 6, 7, 8, 9, 10, 11, 12, 13, 14, 15, 16] rfl) (hD.sub (ws' := (cL cI cJ cZ ad) (u.1)) [0, 1, 2, 3, 4, 5, 6, 7, 8, 9, 10, 11, 12, 13, 14, 15, 16] (by decide) rfl) (va_recv hK hP (ci := 2) (q0 := 0) rfl rfl)) rfl rfl hl.1 rfl (lv_room (Nat.le_of_ble_eq_true rfl)) d_W_law_525 ⟨Nat.le_of_ble_eq_true rfl, Nat.le_of_ble_eq_true rfl⟩) hP hD hS (va_free (wc := (cL cI cJ cZ ad) (u.1)) hD hS hA [0, 1, 2, 3, 4, 5, 6, 7, 8, 9, 10, 11, 12, 13, 14, 15, 16] rfl) [0, 1, 2, 3, 4, 5, 6, 7, 8, 9, 10, 11, 12, 13, 14, 15, 16] [17, 18, 19, 20, 21, 22, 23, 24, 25, 26, 27, 28, 29, 30, 31, 32, 33] rfl rfl (by decide) (by decide) (fun H locs hP hD hS => ?_)
      replace hP := hP.sub (ws' := ((cW cI cJ cZ ad bd) (v85.2, u.2))) [17, 18, 19, 20, 21, 22, 23, 24, 25, 26, 27, 28, 29, 30, 31, 32, 33, 0, 1, 2, 3, 4, 5, 6, 7, 8, 9, 10, 11, 12, 13, 14, 15, 16] (yW_L cI cJ cZ ad bd u v85.2)
      replace hD := hD.sub (ws' := ((cW cI cJ cZ ad bd) (v85.2, u.2))) [17, 18, 19, 20, 21, 22, 23, 24, 25, 26, 27, 28, 29, 30, 31, 32, 33, 0, 1, 2, 3, 4, 5, 6, 7, 8, 9, 10, 11, 12, 13, 14, 15, 16] (by decide) (xW_L cI cJ cZ ad bd u v85.2)
      refine lv_aload_n hx hb d_W_law_528 rfl (lv_at hl 2 rfl) ?_
      refine lv_aload_n hx hb d_W_law_529 rfl (lv_at hl 0 rfl) ?_
      refine lv_iload_n hx hb d_W_law_530 rfl (lv_at hl 3 rfl) ?_
      refine lv_iconst (v := (1 : Int32)) hx hb d_W_law_531 (by decide) ?_
      refine lv_iadd hx hb d_W_law_532 ?_
      obtain ⟨h86, hM⟩ := gd_some hM
      refine va_sld hx hb hX hbl hbA hS (vp_in_iff.mpr h86) d_W_law_533 ?_
      obtain ⟨v87, hq87, hM⟩ := bd_some hM
      refine fj_i (F := (cM cI cJ cZ bd)) (u := (v85.2, u.2).2) (res := v87) (ws := ((cW cI cJ cZ ad bd) (v85.2, u.2))) (wr := ((cL cI cJ cZ ad) (v85.2, u.2).1)) (va_runV (As := [.int (xs (x3 + (1 : Int32)).toNatClampNeg)]) (rest := [.int v85.1]) ⟨hx, hb, hml, hown, hts⟩ (c_M_poll l D cI cJ cZ bd H.size (xs (x3 + (1 : Int32)).toNatClampNeg) ((v85.2, u.2).2) v87 hq87) (cwV 1 hts (gV mm_511 mm_512 mm_513 mm_30 mm_514) rfl rfl rfl hd_M_poll ⟨Nat.le_of_ble_eq_true rfl, Nat.le_of_ble_eq_true rfl⟩) (pv_ (F := (cM cI cJ cZ bd)) (u := (v85.2, u.2).2) hK (hP.sub (ws' := (cM cI cJ cZ bd) ((v85.2, u.2).2)) [17, 18, 19, 20, 21, 22, 23, 24, 25, 26, 27, 28, 29, 30, 31, 32, 33] rfl) (hD.sub (ws' := (cM cI cJ cZ bd) ((v85.2, u.2).2)) [17, 18, 19, 20, 21, 22, 23, 24, 25, 26, 27, 28, 29, 30, 31, 32, 33] (by decide) rfl) (va_recv hK hP (ci := 3) (q0 := 17) rfl rfl)) rfl rfl hl.1 rfl (lv_room (Nat.le_of_ble_eq_true rfl)) d_W_law_534 ⟨Nat.le_of_ble_eq_true rfl, Nat.le_of_ble_eq_true rfl⟩) hP hD hS (va_free (wc := (cM cI cJ cZ bd) ((v85.2, u.2).2)) hD hS hA [17, 18, 19, 20, 21, 22, 23, 24, 25, 26, 27, 28, 29, 30, 31, 32, 33] rfl) [17, 18, 19, 20, 21, 22, 23, 24, 25, 26, 27, 28, 29, 30, 31, 32, 33] [0, 1, 2, 3, 4, 5, 6, 7, 8, 9, 10, 11, 12, 13, 14, 15, 16] rfl rfl (by decide) (by decide) (fun H locs hP hD hS => ?_)
      replace hP := hP.sub (ws' := ((cW cI cJ cZ ad bd) ((v85.2, u.2).1, v87.2))) [0, 1, 2, 3, 4, 5, 6, 7, 8, 9, 10, 11, 12, 13, 14, 15, 16, 17, 18, 19, 20, 21, 22, 23, 24, 25, 26, 27, 28, 29, 30, 31, 32, 33] (yW_M cI cJ cZ ad bd (v85.2, u.2) v87.2)
      replace hD := hD.sub (ws' := ((cW cI cJ cZ ad bd) ((v85.2, u.2).1, v87.2))) [0, 1, 2, 3, 4, 5, 6, 7, 8, 9, 10, 11, 12, 13, 14, 15, 16, 17, 18, 19, 20, 21, 22, 23, 24, 25, 26, 27, 28, 29, 30, 31, 32, 33] (by decide) (xW_M cI cJ cZ ad bd (v85.2, u.2) v87.2)
      refine lv_icmp_eq (tgt := 661) hx hb d_W_law_537 (by decide) (fun c88 => ?_) (fun c88 => ?_)
      · replace hM := it_t c88 hM
        exact w_W_law_661 C hX hbl hAl hk18 x3 ((v85.2, u.2).1, v87.2) H locs ls hP hD hS (lv_sub hl [0, 1, 2, 3] rfl) hM
      · replace hM := it_f c88 hM
        refine lv_iconst (v := (0 : Int32)) hx hb d_W_law_540 (by decide) ?_
        have e9 := Option.some.inj hM
        rw [e9]
        refine va_forget (fun q hq => hAl _ (hS.2.2 q hq)) ?_
        refine W.widen (k := 34) (n := 5543) (Nat.le_of_ble_eq_true rfl) (Nat.le_of_ble_eq_true rfl) ?_
        exact lw_ret hx hb hr hlocks d_W_law_541
    replace hM := it_f c83 hM
    by_cases c89 : ((xs x3.toNatClampNeg) &&& (15 : Int32)) = (11 : Int32)
    · replace hM := it_t c89 hM
      refine lv_tableIn (off := 509) (tgt := 542) hx hb d_W_law_33 (by rw [c89]; decide) (by rw [c89]; decide) (by rw [c89]; rfl) (by decide) ?_
      refine lv_aload_n hx hb d_W_law_542 rfl (lv_at hl 1 rfl) ?_
      refine lv_aload_n hx hb d_W_law_543 rfl (lv_at hl 0 rfl) ?_
      refine lv_iload_n hx hb d_W_law_544 rfl (lv_at hl 3 rfl) ?_
      refine lv_iconst (v := (1 : Int32)) hx hb d_W_law_545 (by decide) ?_
      refine lv_iadd hx hb d_W_law_546 ?_
      obtain ⟨h90, hM⟩ := gd_some hM
      refine va_sld hx hb hX hbl hbA hS (vp_in_iff.mpr h90) d_W_law_547 ?_
      refine lv_aload_n hx hb d_W_law_548 rfl (lv_at hl 0 rfl) ?_
      refine lv_iload_n hx hb d_W_law_549 rfl (lv_at hl 3 rfl) ?_
      refine lv_iconst (v := (2 : Int32)) hx hb d_W_law_550 (by decide) ?_
      refine lv_iadd hx hb d_W_law_551 ?_
      obtain ⟨h91, hM⟩ := gd_some hM
      refine va_sld hx hb hX hbl hbA hS (vp_in_iff.mpr h91) d_W_law_552 ?_
      refine lv_aload_n hx hb d_W_law_553 rfl (lv_at hl 0 rfl) ?_
      refine lv_iload_n hx hb d_W_law_554 rfl (lv_at hl 3 rfl) ?_
      refine lv_iconst (v := (3 : Int32)) hx hb d_W_law_555 (by decide) ?_
      refine lv_iadd hx hb d_W_law_556 ?_
      obtain ⟨h92, hM⟩ := gd_some hM
      refine va_sld hx hb hX hbl hbA hS (vp_in_iff.mpr h92) d_W_law_557 ?_
      refine lv_i2l (v := (xs (x3 + (3 : Int32)).toNatClampNeg).toInt64) hx hb d_W_law_558 rfl ?_
      refine lv_bipush (v := (32 : Int32)) hx hb d_W_law_559 (by decide) ?_
      refine lv_lshl (v := ((xs (x3 + (3 : Int32)).toNatClampNeg).toInt64) <<< ((32 : Int32).toInt64 &&& 63)) hx hb d_W_law_561 rfl ?_
      refine lv_aload_n hx hb d_W_law_562 rfl (lv_at hl 0 rfl) ?_
      refine lv_iload_n hx hb d_W_law_563 rfl (lv_at hl 3 rfl) ?_
      refine lv_iconst (v := (4 : Int32)) hx hb d_W_law_564 (by decide) ?_
      refine lv_iadd hx hb d_W_law_565 ?_
      obtain ⟨h93, hM⟩ := gd_some hM
      refine va_sld hx hb hX hbl hbA hS (vp_in_iff.mpr h93) d_W_law_566 ?_
      refine lv_i2l (v := (xs (x3 + (4 : Int32)).toNatClampNeg).toInt64) hx hb d_W_law_567 rfl ?_
      refine lv_ldc2 (v := (4294967295 : Int64)) hx hb hown (hts _ mm_527) d_W_law_568 ?_
      refine lv_land hx hb d_W_law_571 ?_
      refine lv_lor hx hb d_W_law_572 ?_
      refine lv_aload_n hx hb d_W_law_573 rfl (lv_at hl 0 rfl) ?_
      refine lv_iload_n hx hb d_W_law_574 rfl (lv_at hl 3 rfl) ?_
      refine lv_iconst (v := (5 : Int32)) hx hb d_W_law_575 (by decide) ?_
      refine lv_iadd hx hb d_W_law_576 ?_
      obtain ⟨h94, hM⟩ := gd_some hM
      refine va_sld hx hb hX hbl hbA hS (vp_in_iff.mpr h94) d_W_law_577 ?_
      obtain ⟨v95, hq95, hM⟩ := bd_some hM
      refine fj_i (F := (cL cI cJ cZ ad)) (u := u.1) (res := v95) (ws := ((cW cI cJ cZ ad bd) u)) (wr := ((cM cI cJ cZ bd) u.2)) (va_runV (As := [.int (xs (x3 + (1 : Int32)).toNatClampNeg), .int (xs (x3 + (2 : Int32)).toNatClampNeg), .long ((((xs (x3 + (3 : Int32)).toNatClampNeg).toInt64) <<< ((32 : Int32).toInt64 &&& 63)) ||| (((xs (x3 + (4 : Int32)).toNatClampNeg).toInt64) &&& (4294967295 : Int64))), .int (xs (x3 + (5 : Int32)).toNatClampNeg)]) (rest := []) ⟨hx, hb, hml, hown, hts⟩ (c_L_kept l D cI cJ cZ ad H.size (xs (x3 + (1 : Int32)).toNatClampNeg) (xs (x3 + (2 : Int32)).toNatClampNeg) ((((xs (x3 + (3 : Int32)).toNatClampNeg).toInt64) <<< ((32 : Int32).toInt64 &&& 63)) ||| (((xs (x3 + (4 : Int32)).toNatClampNeg).toInt64) &&& (4294967295 : Int64))) (xs (x3 + (5 : Int32)).toNatClampNeg) (u.1) v95 hq95) (cwV 4 hts (gV mm_308 mm_309 mm_310 mm_27 mm_311) rfl rfl rfl hd_L_kept ⟨Nat.le_of_ble_eq_true rfl, Nat.le_of_ble_eq_true rfl⟩) (pv_ (F := (cL cI cJ cZ ad)) (u := u.1) hK (hP.sub (ws' := (cL cI cJ cZ ad) (u.1)) [0, 1, 2, 3, 4, 5, 6, 7, 8, 9, 10, 11, 12, 13, 14, 15, 16] rfl) (hD.sub (ws' := (cL cI cJ cZ ad) (u.1)) [0, 1, 2, 3, 4, 5, 6, 7, 8, 9, 10, 11, 12, 13, 14, 15, 16] (by decide) rfl) (va_recv hK hP (ci := 2) (q0 := 0) rfl rfl)) rfl rfl hl.1 rfl (lv_room (Nat.le_of_ble_eq_true rfl)) d_W_law_578 ⟨Nat.le_of_ble_eq_true rfl, Nat.le_of_ble_eq_true rfl⟩) hP hD hS (va_free (wc := (cL cI cJ cZ ad) (u.1)) hD hS hA [0, 1, 2, 3, 4, 5, 6, 7, 8, 9, 10, 11, 12, 13, 14, 15, 16] rfl) [0, 1, 2, 3, 4, 5, 6, 7, 8, 9, 10, 11, 12, 13, 14, 15, 16] [17, 18, 19, 20, 21, 22, 23, 24, 25, 26, 27, 28, 29, 30, 31, 32, 33] rfl rfl (by decide) (by decide) (fun H locs hP hD hS => ?_)
      replace hP := hP.sub (ws' := ((cW cI cJ cZ ad bd) (v95.2, u.2))) [17, 18, 19, 20, 21, 22, 23, 24, 25, 26, 27, 28, 29, 30, 31, 32, 33, 0, 1, 2, 3, 4, 5, 6, 7, 8, 9, 10, 11, 12, 13, 14, 15, 16] (yW_L cI cJ cZ ad bd u v95.2)
      replace hD := hD.sub (ws' := ((cW cI cJ cZ ad bd) (v95.2, u.2))) [17, 18, 19, 20, 21, 22, 23, 24, 25, 26, 27, 28, 29, 30, 31, 32, 33, 0, 1, 2, 3, 4, 5, 6, 7, 8, 9, 10, 11, 12, 13, 14, 15, 16] (by decide) (xW_L cI cJ cZ ad bd u v95.2)
      refine lv_aload_n hx hb d_W_law_581 rfl (lv_at hl 2 rfl) ?_
      refine lv_aload_n hx hb d_W_law_582 rfl (lv_at hl 0 rfl) ?_
      refine lv_iload_n hx hb d_W_law_583 rfl (lv_at hl 3 rfl) ?_
      refine lv_iconst (v := (1 : Int32)) hx hb d_W_law_584 (by decide) ?_
      refine lv_iadd hx hb d_W_law_585 ?_
      obtain ⟨h96, hM⟩ := gd_some hM
      refine va_sld hx hb hX hbl hbA hS (vp_in_iff.mpr h96) d_W_law_586 ?_
      refine lv_aload_n hx hb d_W_law_587 rfl (lv_at hl 0 rfl) ?_
      refine lv_iload_n hx hb d_W_law_588 rfl (lv_at hl 3 rfl) ?_
      refine lv_iconst (v := (2 : Int32)) hx hb d_W_law_589 (by decide) ?_
      refine lv_iadd hx hb d_W_law_590 ?_
      obtain ⟨h97, hM⟩ := gd_some hM
      refine va_sld hx hb hX hbl hbA hS (vp_in_iff.mpr h97) d_W_law_591 ?_
      refine lv_aload_n hx hb d_W_law_592 rfl (lv_at hl 0 rfl) ?_
      refine lv_iload_n hx hb d_W_law_593 rfl (lv_at hl 3 rfl) ?_
      refine lv_iconst (v := (3 : Int32)) hx hb d_W_law_594 (by decide) ?_
      refine lv_iadd hx hb d_W_law_595 ?_
      obtain ⟨h98, hM⟩ := gd_some hM
      refine va_sld hx hb hX hbl hbA hS (vp_in_iff.mpr h98) d_W_law_596 ?_
      refine lv_i2l (v := (xs (x3 + (3 : Int32)).toNatClampNeg).toInt64) hx hb d_W_law_597 rfl ?_
      refine lv_bipush (v := (32 : Int32)) hx hb d_W_law_598 (by decide) ?_
      refine lv_lshl (v := ((xs (x3 + (3 : Int32)).toNatClampNeg).toInt64) <<< ((32 : Int32).toInt64 &&& 63)) hx hb d_W_law_600 rfl ?_
      refine lv_aload_n hx hb d_W_law_601 rfl (lv_at hl 0 rfl) ?_
      refine lv_iload_n hx hb d_W_law_602 rfl (lv_at hl 3 rfl) ?_
      refine lv_iconst (v := (4 : Int32)) hx hb d_W_law_603 (by decide) ?_
      refine lv_iadd hx hb d_W_law_604 ?_
      obtain ⟨h99, hM⟩ := gd_some hM
      refine va_sld hx hb hX hbl hbA hS (vp_in_iff.mpr h99) d_W_law_605 ?_
      refine lv_i2l (v := (xs (x3 + (4 : Int32)).toNatClampNeg).toInt64) hx hb d_W_law_606 rfl ?_
      refine lv_ldc2 (v := (4294967295 : Int64)) hx hb hown (hts _ mm_527) d_W_law_607 ?_
      refine lv_land hx hb d_W_law_610 ?_
      refine lv_lor hx hb d_W_law_611 ?_
      refine lv_aload_n hx hb d_W_law_612 rfl (lv_at hl 0 rfl) ?_
      refine lv_iload_n hx hb d_W_law_613 rfl (lv_at hl 3 rfl) ?_
      refine lv_iconst (v := (5 : Int32)) hx hb d_W_law_614 (by decide) ?_
      refine lv_iadd hx hb d_W_law_615 ?_
      obtain ⟨h100, hM⟩ := gd_some hM
      refine va_sld hx hb hX hbl hbA hS (vp_in_iff.mpr h100) d_W_law_616 ?_
      obtain ⟨v101, hq101, hM⟩ := bd_some hM
      refine fj_i (F := (cM cI cJ cZ bd)) (u := (v95.2, u.2).2) (res := v101) (ws := ((cW cI cJ cZ ad bd) (v95.2, u.2))) (wr := ((cL cI cJ cZ ad) (v95.2, u.2).1)) (va_runV (As := [.int (xs (x3 + (1 : Int32)).toNatClampNeg), .int (xs (x3 + (2 : Int32)).toNatClampNeg), .long ((((xs (x3 + (3 : Int32)).toNatClampNeg).toInt64) <<< ((32 : Int32).toInt64 &&& 63)) ||| (((xs (x3 + (4 : Int32)).toNatClampNeg).toInt64) &&& (4294967295 : Int64))), .int (xs (x3 + (5 : Int32)).toNatClampNeg)]) (rest := [.int v95.1]) ⟨hx, hb, hml, hown, hts⟩ (c_M_kept l D cI cJ cZ bd H.size (xs (x3 + (1 : Int32)).toNatClampNeg) (xs (x3 + (2 : Int32)).toNatClampNeg) ((((xs (x3 + (3 : Int32)).toNatClampNeg).toInt64) <<< ((32 : Int32).toInt64 &&& 63)) ||| (((xs (x3 + (4 : Int32)).toNatClampNeg).toInt64) &&& (4294967295 : Int64))) (xs (x3 + (5 : Int32)).toNatClampNeg) ((v95.2, u.2).2) v101 hq101) (cwV 4 hts (gV mm_515 mm_516 mm_517 mm_30 mm_518) rfl rfl rfl hd_M_kept ⟨Nat.le_of_ble_eq_true rfl, Nat.le_of_ble_eq_true rfl⟩) (pv_ (F := (cM cI cJ cZ bd)) (u := (v95.2, u.2).2) hK (hP.sub (ws' := (cM cI cJ cZ bd) ((v95.2, u.2).2)) [17, 18, 19, 20, 21, 22, 23, 24, 25, 26, 27, 28, 29, 30, 31, 32, 33] rfl) (hD.sub (ws' := (cM cI cJ cZ bd) ((v95.2, u.2).2)) [17, 18, 19, 20, 21, 22, 23, 24, 25, 26, 27, 28, 29, 30, 31, 32, 33] (by decide) rfl) (va_recv hK hP (ci := 3) (q0 := 17) rfl rfl)) rfl rfl hl.1 rfl (lv_room (Nat.le_of_ble_eq_true rfl)) d_W_law_617 ⟨Nat.le_of_ble_eq_true rfl, Nat.le_of_ble_eq_true rfl⟩) hP hD hS (va_free (wc := (cM cI cJ cZ bd) ((v95.2, u.2).2)) hD hS hA [17, 18, 19, 20, 21, 22, 23, 24, 25, 26, 27, 28, 29, 30, 31, 32, 33] rfl) [17, 18, 19, 20, 21, 22, 23, 24, 25, 26, 27, 28, 29, 30, 31, 32, 33] [0, 1, 2, 3, 4, 5, 6, 7, 8, 9, 10, 11, 12, 13, 14, 15, 16] rfl rfl (by decide) (by decide) (fun H locs hP hD hS => ?_)
      replace hP := hP.sub (ws' := ((cW cI cJ cZ ad bd) ((v95.2, u.2).1, v101.2))) [0, 1, 2, 3, 4, 5, 6, 7, 8, 9, 10, 11, 12, 13, 14, 15, 16, 17, 18, 19, 20, 21, 22, 23, 24, 25, 26, 27, 28, 29, 30, 31, 32, 33] (yW_M cI cJ cZ ad bd (v95.2, u.2) v101.2)
      replace hD := hD.sub (ws' := ((cW cI cJ cZ ad bd) ((v95.2, u.2).1, v101.2))) [0, 1, 2, 3, 4, 5, 6, 7, 8, 9, 10, 11, 12, 13, 14, 15, 16, 17, 18, 19, 20, 21, 22, 23, 24, 25, 26, 27, 28, 29, 30, 31, 32, 33] (by decide) (xW_M cI cJ cZ ad bd (v95.2, u.2) v101.2)
      refine lv_icmp_eq (tgt := 661) hx hb d_W_law_620 (by decide) (fun c102 => ?_) (fun c102 => ?_)
      · replace hM := it_t c102 hM
        exact w_W_law_661 C hX hbl hAl hk18 x3 ((v95.2, u.2).1, v101.2) H locs ls hP hD hS (lv_sub hl [0, 1, 2, 3] rfl) hM
      · replace hM := it_f c102 hM
        refine lv_iconst (v := (0 : Int32)) hx hb d_W_law_623 (by decide) ?_
        have e9 := Option.some.inj hM
        rw [e9]
        refine va_forget (fun q hq => hAl _ (hS.2.2 q hq)) ?_
        refine W.widen (k := 34) (n := 5543) (Nat.le_of_ble_eq_true rfl) (Nat.le_of_ble_eq_true rfl) ?_
        exact lw_ret hx hb hr hlocks d_W_law_624
    replace hM := it_f c89 hM
    by_cases c103 : ((xs x3.toNatClampNeg) &&& (15 : Int32)) = (12 : Int32)
    · replace hM := it_t c103 hM
      refine lv_tableIn (off := 592) (tgt := 625) hx hb d_W_law_33 (by rw [c103]; decide) (by rw [c103]; decide) (by rw [c103]; rfl) (by decide) ?_
      refine lv_aload_n hx hb d_W_law_625 rfl (lv_at hl 1 rfl) ?_
      refine lv_aload_n hx hb d_W_law_626 rfl (lv_at hl 0 rfl) ?_
      refine lv_iload_n hx hb d_W_law_627 rfl (lv_at hl 3 rfl) ?_
      refine lv_iconst (v := (1 : Int32)) hx hb d_W_law_628 (by decide) ?_
      refine lv_iadd hx hb d_W_law_629 ?_
      obtain ⟨h104, hM⟩ := gd_some hM
      refine va_sld hx hb hX hbl hbA hS (vp_in_iff.mpr h104) d_W_law_630 ?_
      obtain ⟨v105, hq105, hM⟩ := bd_some hM
      refine fj_i (F := (cL cI cJ cZ ad)) (u := u.1) (res := v105) (ws := ((cW cI cJ cZ ad bd) u)) (wr := ((cM cI cJ cZ bd) u.2)) (va_runV (As := [.int (xs (x3 + (1 : Int32)).toNatClampNeg)]) (rest := []) ⟨hx, hb, hml, hown, hts⟩ (c_L_most l D cI cJ cZ ad H.size (xs (x3 + (1 : Int32)).toNatClampNeg) (u.1) v105 hq105) (cwV 1 hts (gV mm_316 mm_317 mm_318 mm_27 mm_319) rfl rfl rfl hd_L_most ⟨Nat.le_of_ble_eq_true rfl, Nat.le_of_ble_eq_true rfl⟩) (pv_ (F := (cL cI cJ cZ ad)) (u := u.1) hK (hP.sub (ws' := (cL cI cJ cZ ad) (u.1)) [0, 1, 2, 3, 4, 5, 6, 7, 8, 9, 10, 11, 12, 13, 14, 15, 16] rfl) (hD.sub (ws' := (cL cI cJ cZ ad) (u.1)) [0, 1, 2, 3, 4, 5, 6, 7, 8, 9, 10, 11, 12, 13, 14, 15, 16] (by decide) rfl) (va_recv hK hP (ci := 2) (q0 := 0) rfl rfl)) rfl rfl hl.1 rfl (lv_room (Nat.le_of_ble_eq_true rfl)) d_W_law_631 ⟨Nat.le_of_ble_eq_true rfl, Nat.le_of_ble_eq_true rfl⟩) hP hD hS (va_free (wc := (cL cI cJ cZ ad) (u.1)) hD hS hA [0, 1, 2, 3, 4, 5, 6, 7, 8, 9, 10, 11, 12, 13, 14, 15, 16] rfl) [0, 1, 2, 3, 4, 5, 6, 7, 8, 9, 10, 11, 12, 13, 14, 15, 16] [17, 18, 19, 20, 21, 22, 23, 24, 25, 26, 27, 28, 29, 30, 31, 32, 33] rfl rfl (by decide) (by decide) (fun H locs hP hD hS => ?_)
      replace hP := hP.sub (ws' := ((cW cI cJ cZ ad bd) (v105.2, u.2))) [17, 18, 19, 20, 21, 22, 23, 24, 25, 26, 27, 28, 29, 30, 31, 32, 33, 0, 1, 2, 3, 4, 5, 6, 7, 8, 9, 10, 11, 12, 13, 14, 15, 16] (yW_L cI cJ cZ ad bd u v105.2)
      replace hD := hD.sub (ws' := ((cW cI cJ cZ ad bd) (v105.2, u.2))) [17, 18, 19, 20, 21, 22, 23, 24, 25, 26, 27, 28, 29, 30, 31, 32, 33, 0, 1, 2, 3, 4, 5, 6, 7, 8, 9, 10, 11, 12, 13, 14, 15, 16] (by decide) (xW_L cI cJ cZ ad bd u v105.2)
      refine lv_aload_n hx hb d_W_law_634 rfl (lv_at hl 2 rfl) ?_
      refine lv_aload_n hx hb d_W_law_635 rfl (lv_at hl 0 rfl) ?_
      refine lv_iload_n hx hb d_W_law_636 rfl (lv_at hl 3 rfl) ?_
      refine lv_iconst (v := (1 : Int32)) hx hb d_W_law_637 (by decide) ?_
      refine lv_iadd hx hb d_W_law_638 ?_
      obtain ⟨h106, hM⟩ := gd_some hM
      refine va_sld hx hb hX hbl hbA hS (vp_in_iff.mpr h106) d_W_law_639 ?_
      obtain ⟨v107, hq107, hM⟩ := bd_some hM
      refine fj_i (F := (cM cI cJ cZ bd)) (u := (v105.2, u.2).2) (res := v107) (ws := ((cW cI cJ cZ ad bd) (v105.2, u.2))) (wr := ((cL cI cJ cZ ad) (v105.2, u.2).1)) (va_runV (As := [.int (xs (x3 + (1 : Int32)).toNatClampNeg)]) (rest := [.int v105.1]) ⟨hx, hb, hml, hown, hts⟩ (c_M_most l D cI cJ cZ bd H.size (xs (x3 + (1 : Int32)).toNatClampNeg) ((v105.2, u.2).2) v107 hq107) (cwV 1 hts (gV mm_519 mm_520 mm_521 mm_30 mm_522) rfl rfl rfl hd_M_most ⟨Nat.le_of_ble_eq_true rfl, Nat.le_of_ble_eq_true rfl⟩) (pv_ (F := (cM cI cJ cZ bd)) (u := (v105.2, u.2).2) hK (hP.sub (ws' := (cM cI cJ cZ bd) ((v105.2, u.2).2)) [17, 18, 19, 20, 21, 22, 23, 24, 25, 26, 27, 28, 29, 30, 31, 32, 33] rfl) (hD.sub (ws' := (cM cI cJ cZ bd) ((v105.2, u.2).2)) [17, 18, 19, 20, 21, 22, 23, 24, 25, 26, 27, 28, 29, 30, 31, 32, 33] (by decide) rfl) (va_recv hK hP (ci := 3) (q0 := 17) rfl rfl)) rfl rfl hl.1 rfl (lv_room (Nat.le_of_ble_eq_true rfl)) d_W_law_640 ⟨Nat.le_of_ble_eq_true rfl, Nat.le_of_ble_eq_true rfl⟩) hP hD hS (va_free (wc := (cM cI cJ cZ bd) ((v105.2, u.2).2)) hD hS hA [17, 18, 19, 20, 21, 22, 23, 24, 25, 26, 27, 28, 29, 30, 31, 32, 33] rfl) [17, 18, 19, 20, 21, 22, 23, 24, 25, 26, 27, 28, 29, 30, 31, 32, 33] [0, 1, 2, 3, 4, 5, 6, 7, 8, 9, 10, 11, 12, 13, 14, 15, 16] rfl rfl (by decide) (by decide) (fun H locs hP hD hS => ?_)
      replace hP := hP.sub (ws' := ((cW cI cJ cZ ad bd) ((v105.2, u.2).1, v107.2))) [0, 1, 2, 3, 4, 5, 6, 7, 8, 9, 10, 11, 12, 13, 14, 15, 16, 17, 18, 19, 20, 21, 22, 23, 24, 25, 26, 27, 28, 29, 30, 31, 32, 33] (yW_M cI cJ cZ ad bd (v105.2, u.2) v107.2)
      replace hD := hD.sub (ws' := ((cW cI cJ cZ ad bd) ((v105.2, u.2).1, v107.2))) [0, 1, 2, 3, 4, 5, 6, 7, 8, 9, 10, 11, 12, 13, 14, 15, 16, 17, 18, 19, 20, 21, 22, 23, 24, 25, 26, 27, 28, 29, 30, 31, 32, 33] (by decide) (xW_M cI cJ cZ ad bd (v105.2, u.2) v107.2)
      refine lv_icmp_eq (tgt := 661) hx hb d_W_law_643 (by decide) (fun c108 => ?_) (fun c108 => ?_)
      · replace hM := it_t c108 hM
        exact w_W_law_661 C hX hbl hAl hk18 x3 ((v105.2, u.2).1, v107.2) H locs ls hP hD hS (lv_sub hl [0, 1, 2, 3] rfl) hM
      · replace hM := it_f c108 hM
        refine lv_iconst (v := (0 : Int32)) hx hb d_W_law_646 (by decide) ?_
        have e9 := Option.some.inj hM
        rw [e9]
        refine va_forget (fun q hq => hAl _ (hS.2.2 q hq)) ?_
        refine W.widen (k := 34) (n := 5543) (Nat.le_of_ble_eq_true rfl) (Nat.le_of_ble_eq_true rfl) ?_
        exact lw_ret hx hb hr hlocks d_W_law_647
    replace hM := it_f c103 hM
    by_cases c109 : ((xs x3.toNatClampNeg) &&& (15 : Int32)) = (13 : Int32)
    · replace hM := it_t c109 hM
      refine lv_tableIn (off := 615) (tgt := 648) hx hb d_W_law_33 (by rw [c109]; decide) (by rw [c109]; decide) (by rw [c109]; rfl) (by decide) ?_
      refine lv_aload_n hx hb d_W_law_648 rfl (lv_at hl 1 rfl) ?_
      obtain ⟨v110, hq110, hM⟩ := bd_some hM
      refine fj_i (F := (cL cI cJ cZ ad)) (u := u.1) (res := v110) (ws := ((cW cI cJ cZ ad bd) u)) (wr := ((cM cI cJ cZ bd) u.2)) (va_runV (As := []) (rest := []) ⟨hx, hb, hml, hown, hts⟩ (c_L_least l D cI cJ cZ ad H.size (u.1) v110 hq110) (cwV 0 hts (gV mm_327 mm_328 mm_329 mm_27 mm_330) rfl rfl rfl hd_L_least ⟨Nat.le_of_ble_eq_true rfl, Nat.le_of_ble_eq_true rfl⟩) (pv_ (F := (cL cI cJ cZ ad)) (u := u.1) hK (hP.sub (ws' := (cL cI cJ cZ ad) (u.1)) [0, 1, 2, 3, 4, 5, 6, 7, 8, 9, 10, 11, 12, 13, 14, 15, 16] rfl) (hD.sub (ws' := (cL cI cJ cZ ad) (u.1)) [0, 1, 2, 3, 4, 5, 6, 7, 8, 9, 10, 11, 12, 13, 14, 15, 16] (by decide) rfl) (va_recv hK hP (ci := 2) (q0 := 0) rfl rfl)) rfl rfl hl.1 rfl (lv_room (Nat.le_of_ble_eq_true rfl)) d_W_law_649 ⟨Nat.le_of_ble_eq_true rfl, Nat.le_of_ble_eq_true rfl⟩) hP hD hS (va_free (wc := (cL cI cJ cZ ad) (u.1)) hD hS hA [0, 1, 2, 3, 4, 5, 6, 7, 8, 9, 10, 11, 12, 13, 14, 15, 16] rfl) [0, 1, 2, 3, 4, 5, 6, 7, 8, 9, 10, 11, 12, 13, 14, 15, 16] [17, 18, 19, 20, 21, 22, 23, 24, 25, 26, 27, 28, 29, 30, 31, 32, 33] rfl rfl (by decide) (by decide) (fun H locs hP hD hS => ?_)
      replace hP := hP.sub (ws' := ((cW cI cJ cZ ad bd) (v110.2, u.2))) [17, 18, 19, 20, 21, 22, 23, 24, 25, 26, 27, 28, 29, 30, 31, 32, 33, 0, 1, 2, 3, 4, 5, 6, 7, 8, 9, 10, 11, 12, 13, 14, 15, 16] (yW_L cI cJ cZ ad bd u v110.2)
      replace hD := hD.sub (ws' := ((cW cI cJ cZ ad bd) (v110.2, u.2))) [17, 18, 19, 20, 21, 22, 23, 24, 25, 26, 27, 28, 29, 30, 31, 32, 33, 0, 1, 2, 3, 4, 5, 6, 7, 8, 9, 10, 11, 12, 13, 14, 15, 16] (by decide) (xW_L cI cJ cZ ad bd u v110.2)
      refine lv_aload_n hx hb d_W_law_652 rfl (lv_at hl 2 rfl) ?_
      obtain ⟨v111, hq111, hM⟩ := bd_some hM
      refine fj_i (F := (cM cI cJ cZ bd)) (u := (v110.2, u.2).2) (res := v111) (ws := ((cW cI cJ cZ ad bd) (v110.2, u.2))) (wr := ((cL cI cJ cZ ad) (v110.2, u.2).1)) (va_runV (As := []) (rest := [.int v110.1]) ⟨hx, hb, hml, hown, hts⟩ (c_M_least l D cI cJ cZ bd H.size ((v110.2, u.2).2) v111 hq111) (cwV 0 hts (gV mm_523 mm_524 mm_525 mm_30 mm_526) rfl rfl rfl hd_M_least ⟨Nat.le_of_ble_eq_true rfl, Nat.le_of_ble_eq_true rfl⟩) (pv_ (F := (cM cI cJ cZ bd)) (u := (v110.2, u.2).2) hK (hP.sub (ws' := (cM cI cJ cZ bd) ((v110.2, u.2).2)) [17, 18, 19, 20, 21, 22, 23, 24, 25, 26, 27, 28, 29, 30, 31, 32, 33] rfl) (hD.sub (ws' := (cM cI cJ cZ bd) ((v110.2, u.2).2)) [17, 18, 19, 20, 21, 22, 23, 24, 25, 26, 27, 28, 29, 30, 31, 32, 33] (by decide) rfl) (va_recv hK hP (ci := 3) (q0 := 17) rfl rfl)) rfl rfl hl.1 rfl (lv_room (Nat.le_of_ble_eq_true rfl)) d_W_law_653 ⟨Nat.le_of_ble_eq_true rfl, Nat.le_of_ble_eq_true rfl⟩) hP hD hS (va_free (wc := (cM cI cJ cZ bd) ((v110.2, u.2).2)) hD hS hA [17, 18, 19, 20, 21, 22, 23, 24, 25, 26, 27, 28, 29, 30, 31, 32, 33] rfl) [17, 18, 19, 20, 21, 22, 23, 24, 25, 26, 27, 28, 29, 30, 31, 32, 33] [0, 1, 2, 3, 4, 5, 6, 7, 8, 9, 10, 11, 12, 13, 14, 15, 16] rfl rfl (by decide) (by decide) (fun H locs hP hD hS => ?_)
      replace hP := hP.sub (ws' := ((cW cI cJ cZ ad bd) ((v110.2, u.2).1, v111.2))) [0, 1, 2, 3, 4, 5, 6, 7, 8, 9, 10, 11, 12, 13, 14, 15, 16, 17, 18, 19, 20, 21, 22, 23, 24, 25, 26, 27, 28, 29, 30, 31, 32, 33] (yW_M cI cJ cZ ad bd (v110.2, u.2) v111.2)
      replace hD := hD.sub (ws' := ((cW cI cJ cZ ad bd) ((v110.2, u.2).1, v111.2))) [0, 1, 2, 3, 4, 5, 6, 7, 8, 9, 10, 11, 12, 13, 14, 15, 16, 17, 18, 19, 20, 21, 22, 23, 24, 25, 26, 27, 28, 29, 30, 31, 32, 33] (by decide) (xW_M cI cJ cZ ad bd (v110.2, u.2) v111.2)
      refine lv_icmp_eq (tgt := 661) hx hb d_W_law_656 (by decide) (fun c112 => ?_) (fun c112 => ?_)
      · replace hM := it_t c112 hM
        exact w_W_law_661 C hX hbl hAl hk18 x3 ((v110.2, u.2).1, v111.2) H locs ls hP hD hS (lv_sub hl [0, 1, 2, 3] rfl) hM
      · replace hM := it_f c112 hM
        refine lv_iconst (v := (0 : Int32)) hx hb d_W_law_659 (by decide) ?_
        have e9 := Option.some.inj hM
        rw [e9]
        refine va_forget (fun q hq => hAl _ (hS.2.2 q hq)) ?_
        refine W.widen (k := 34) (n := 5543) (Nat.le_of_ble_eq_true rfl) (Nat.le_of_ble_eq_true rfl) ?_
        exact lw_ret hx hb hr hlocks d_W_law_660
    replace hM := it_f c109 hM
    have nc3 := lv_neT c3 (a := 0) (by decide)
    have nc21 := lv_neT c21 (a := 1) (by decide)
    have nc27 := lv_neT c27 (a := 2) (by decide)
    have nc31 := lv_neT c31 (a := 3) (by decide)
    have nc35 := lv_neT c35 (a := 4) (by decide)
    have nc47 := lv_neT c47 (a := 5) (by decide)
    have nc55 := lv_neT c55 (a := 6) (by decide)
    have nc63 := lv_neT c63 (a := 7) (by decide)
    have nc69 := lv_neT c69 (a := 8) (by decide)
    have nc75 := lv_neT c75 (a := 9) (by decide)
    have nc83 := lv_neT c83 (a := 10) (by decide)
    have nc89 := lv_neT c89 (a := 11) (by decide)
    have nc103 := lv_neT c103 (a := 12) (by decide)
    have nc109 := lv_neT c109 (a := 13) (by decide)
    refine lv_tableOut (tgt := 661) hx hb d_W_law_33 (by omega) (by decide) ?_
    exact w_W_law_661 C hX hbl hAl hk18 x3 u H locs ls hP hD hS (lv_sub hl [0, 1, 2, 3] rfl) hM
theorem w_W_law_18 (C : Cx p s m #[Value.ref b] meth c code 4 ret "PlainLibraryLaw" tb D cl9 (tyy cI cJ cZ) A) (hX : va_X b L xs s s.heap) (hbl : b < s.heap.size) (hAl : ∀ q : Nat, A q → s.heap.size ≤ q) : ∀ (fu : Nat) (x3 : Int32) (u : (Lib × Mod)) (H : Heap) (locs : List Loc) (ls : Array Slot), va_P D cl9 ((cW cI cJ cZ ad bd) u) H → va_D A ((cW cI cJ cZ ad bd) u) → va_S A s.heap H locs → lv_has ls 4 [(0, .ref b), (1, .ref (ad 0)), (2, .ref (bd 0)), (3, .int x3)] → B_W_law_18 L xs fu x3 u = some 1 → W p l e room_1 s m #[Value.ref b] below meth c H locs 34 5543 (lw_Z below #[Value.ref b] s) (F0 m 18 ls []) := by
  intro fu
  induction fu with
  | zero =>
    intro x3 u H locs ls hP hD hS hl hM
    have hM : (none : Option Int32) = some 1 := hM
    cases hM
  | succ fu ih =>
    intro x3 u H locs ls hP hD hS hl hM
    exact w_W_law_18s C hX hbl hAl ih x3 u H locs ls hP hD hS hl hM
end
