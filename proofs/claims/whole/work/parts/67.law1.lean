set_option maxHeartbeats 4000000 in
set_option maxRecDepth 100000 in
theorem law_0 {p : Program} {e : Env} {s : State} {m : MethodId} {below : List Frame} {meth : Method} {c : Code} (l : Launch) {b N : Nat} {xs : Nat → Int32} {G : GG} {ad ma : Nat → Nat} {ls : Array Slot} {H : Heap} {locs : List Loc} {Q : State → Prop} (hx : p.tables.exec = Jvm.exec) (hb : c.code = cL_law) (hml : c.maxLocals = 4) (hown : s.vm.findClass RL = some m.cls) (hts : ∀ w ∈ wsL_law, w.before #[Value.ref b] s = true) (hE : en G (fun q => s.heap.size ≤ q) s) (hX : va_X b N xs s s.heap) (hbl : b < s.heap.size) (hN : N ≤ 3072) {i : Nat} (hi : i + 6 ≤ N) {rg : Nat → Q4} {kd : Nat → Int32} {z : Nat → Nat} {pl : Nat → Nat → Int64} {cnt : Nat} (hinv : inv (rg, kd, z, pl, cnt)) (hw : LWS G s ad ma (rg, kd, z, pl, cnt) (rg, kd, z, pl, cnt) H locs) (hl : lv_has ls 4 [(0, .ref b), (1, .ref (ad 51)), (2, .ref (ma 0)), (3, .int (nI i))]) (kk : ∀ (H1 : Heap) (locs1 : List Loc), LWS G s ad ma (sp_sheet (rg, kd, z, pl, cnt) (xs (i + 1)) (xs (i + 2)) (xs (i + 3))).2 (sp_sheet (rg, kd, z, pl, cnt) (xs (i + 1)) (xs (i + 2)) (xs (i + 3))).2 H1 locs1 → W p l e room_1 s m #[Value.ref b] below meth c H1 locs1 600000 7302250 Q (F0 m 1015 ls [])) : W p l e room_1 s m #[Value.ref b] below meth c H locs 600000 7302250 Q (F0 m 120 ls []) := by
  obtain ⟨hz, hkd, hc12, hq, -⟩ := hinv
  refine lv_aload_n hx hb dL_law_120 rfl (lv_at hl 1 rfl) ?_
  refine lv_aload_n hx hb dL_law_121 rfl (lv_at hl 0 rfl) ?_
  refine lv_iload_n hx hb dL_law_122 rfl (lv_at hl 3 rfl) ?_
  refine lv_iconst (v := 1) hx hb dL_law_123 (by decide) ?_
  refine h_iaddN hx hb i 1 dL_law_124 ?_
  refine h_sld hx hb hX hbl hw.2.2.1 (i := i + 1) (by omega) hN dL_law_125 ?_
  refine lv_aload_n hx hb dL_law_126 rfl (lv_at hl 0 rfl) ?_
  refine lv_iload_n hx hb dL_law_127 rfl (lv_at hl 3 rfl) ?_
  refine lv_iconst (v := 2) hx hb dL_law_128 (by decide) ?_
  refine h_iaddN hx hb i 2 dL_law_129 ?_
  refine h_sld hx hb hX hbl hw.2.2.1 (i := i + 2) (by omega) hN dL_law_130 ?_
  refine lv_aload_n hx hb dL_law_131 rfl (lv_at hl 0 rfl) ?_
  refine lv_iload_n hx hb dL_law_132 rfl (lv_at hl 3 rfl) ?_
  refine lv_iconst (v := 3) hx hb dL_law_133 (by decide) ?_
  refine h_iaddN hx hb i 3 dL_law_134 ?_
  refine h_sld hx hb hX hbl hw.2.2.1 (i := i + 3) (by omega) hN dL_law_135 ?_
  refine h_lawC (S2 := (sp_sheet (rg, kd, z, pl, cnt) (xs (i + 1)) (xs (i + 2)) (xs (i + 3))).2) (st1 := [.int ((sp_sheet (rg, kd, z, pl, cnt) (xs (i + 1)) (xs (i + 2)) (xs (i + 3))).1)]) [.int (xs (i + 1)), .int (xs (i + 2)), .int (xs (i + 3))] [] ⟨hx, hb, hml, hown, hts⟩ hE hw (fun Fc hR => c_X5_sheet l G _ ad Fc rg kd z pl cnt hR hz (xs (i + 1)) (xs (i + 2)) (xs (i + 3))) (cwV 3 hts gL_law_X5_sheet rfl rfl rfl (by decide +kernel) ⟨Nat.le_of_ble_eq_true rfl, Nat.le_of_ble_eq_true rfl⟩) rfl hl.1 rfl (Nat.le_of_ble_eq_true rfl) dL_law_136 ⟨Nat.le_refl _, Nat.le_refl _⟩ rfl (fun H locs hw => ?_)
  refine lv_aload_n hx hb dL_law_139 rfl (lv_at hl 2 rfl) ?_
  refine lv_aload_n hx hb dL_law_140 rfl (lv_at hl 0 rfl) ?_
  refine lv_iload_n hx hb dL_law_141 rfl (lv_at hl 3 rfl) ?_
  refine lv_iconst (v := 1) hx hb dL_law_142 (by decide) ?_
  refine h_iaddN hx hb i 1 dL_law_143 ?_
  refine h_sld hx hb hX hbl hw.2.2.1 (i := i + 1) (by omega) hN dL_law_144 ?_
  refine lv_aload_n hx hb dL_law_145 rfl (lv_at hl 0 rfl) ?_
  refine lv_iload_n hx hb dL_law_146 rfl (lv_at hl 3 rfl) ?_
  refine lv_iconst (v := 2) hx hb dL_law_147 (by decide) ?_
  refine h_iaddN hx hb i 2 dL_law_148 ?_
  refine h_sld hx hb hX hbl hw.2.2.1 (i := i + 2) (by omega) hN dL_law_149 ?_
  refine lv_aload_n hx hb dL_law_150 rfl (lv_at hl 0 rfl) ?_
  refine lv_iload_n hx hb dL_law_151 rfl (lv_at hl 3 rfl) ?_
  refine lv_iconst (v := 3) hx hb dL_law_152 (by decide) ?_
  refine h_iaddN hx hb i 3 dL_law_153 ?_
  refine h_sld hx hb hX hbl hw.2.2.1 (i := i + 3) (by omega) hN dL_law_154 ?_
  refine h_lawM (S2 := (sp_sheet (rg, kd, z, pl, cnt) (xs (i + 1)) (xs (i + 2)) (xs (i + 3))).2) (st1 := [.int ((sp_sheet (rg, kd, z, pl, cnt) (xs (i + 1)) (xs (i + 2)) (xs (i + 3))).1), .int ((sp_sheet (rg, kd, z, pl, cnt) (xs (i + 1)) (xs (i + 2)) (xs (i + 3))).1)]) [.int (xs (i + 1)), .int (xs (i + 2)), .int (xs (i + 3))] [.int ((sp_sheet (rg, kd, z, pl, cnt) (xs (i + 1)) (xs (i + 2)) (xs (i + 3))).1)] ⟨hx, hb, hml, hown, hts⟩ hE hw (fun Fm hR => c_X6_sheet l G _ ma Fm rg kd z pl cnt hR hz hkd hc12 (xs (i + 1)) (xs (i + 2)) (xs (i + 3))) (cwV 3 hts gL_law_X6_sheet rfl rfl rfl (by decide +kernel) ⟨Nat.le_of_ble_eq_true rfl, Nat.le_of_ble_eq_true rfl⟩) rfl hl.1 rfl (Nat.le_of_ble_eq_true rfl) dL_law_155 ⟨Nat.le_refl _, Nat.le_refl _⟩ rfl (fun H locs hw => ?_)
  exact lv_icmp_eq (tgt := 1015) hx hb dL_law_158 (by decide) (fun _ => kk _ _ hw) (fun c9 => absurd rfl c9)

set_option maxHeartbeats 4000000 in
set_option maxRecDepth 100000 in
theorem law_1 {p : Program} {e : Env} {s : State} {m : MethodId} {below : List Frame} {meth : Method} {c : Code} (l : Launch) {b N : Nat} {xs : Nat → Int32} {G : GG} {ad ma : Nat → Nat} {ls : Array Slot} {H : Heap} {locs : List Loc} {Q : State → Prop} (hx : p.tables.exec = Jvm.exec) (hb : c.code = cL_law) (hml : c.maxLocals = 4) (hown : s.vm.findClass RL = some m.cls) (hts : ∀ w ∈ wsL_law, w.before #[Value.ref b] s = true) (hE : en G (fun q => s.heap.size ≤ q) s) (hX : va_X b N xs s s.heap) (hbl : b < s.heap.size) (hN : N ≤ 3072) {i : Nat} (hi : i + 6 ≤ N) {rg : Nat → Q4} {kd : Nat → Int32} {z : Nat → Nat} {pl : Nat → Nat → Int64} {cnt : Nat} (hinv : inv (rg, kd, z, pl, cnt)) (hw : LWS G s ad ma (rg, kd, z, pl, cnt) (rg, kd, z, pl, cnt) H locs) (hl : lv_has ls 4 [(0, .ref b), (1, .ref (ad 51)), (2, .ref (ma 0)), (3, .int (nI i))]) (kk : ∀ (H1 : Heap) (locs1 : List Loc), LWS G s ad ma (sp_put (rg, kd, z, pl, cnt) (xs (i + 1)) (xs (i + 2)) ((((xs (i + 3)).toInt64) <<< ((32 : Int32).toInt64 &&& 63)) ||| (((xs (i + 4)).toInt64) &&& 4294967295))).2 (sp_put (rg, kd, z, pl, cnt) (xs (i + 1)) (xs (i + 2)) ((((xs (i + 3)).toInt64) <<< ((32 : Int32).toInt64 &&& 63)) ||| (((xs (i + 4)).toInt64) &&& 4294967295))).2 H1 locs1 → W p l e room_1 s m #[Value.ref b] below meth c H1 locs1 600000 7302250 Q (F0 m 1015 ls [])) : W p l e room_1 s m #[Value.ref b] below meth c H locs 600000 7302250 Q (F0 m 163 ls []) := by
  obtain ⟨hz, hkd, hc12, hq, -⟩ := hinv
  refine lv_aload_n hx hb dL_law_163 rfl (lv_at hl 1 rfl) ?_
  refine lv_aload_n hx hb dL_law_164 rfl (lv_at hl 0 rfl) ?_
  refine lv_iload_n hx hb dL_law_165 rfl (lv_at hl 3 rfl) ?_
  refine lv_iconst (v := 1) hx hb dL_law_166 (by decide) ?_
  refine h_iaddN hx hb i 1 dL_law_167 ?_
  refine h_sld hx hb hX hbl hw.2.2.1 (i := i + 1) (by omega) hN dL_law_168 ?_
  refine lv_aload_n hx hb dL_law_169 rfl (lv_at hl 0 rfl) ?_
  refine lv_iload_n hx hb dL_law_170 rfl (lv_at hl 3 rfl) ?_
  refine lv_iconst (v := 2) hx hb dL_law_171 (by decide) ?_
  refine h_iaddN hx hb i 2 dL_law_172 ?_
  refine h_sld hx hb hX hbl hw.2.2.1 (i := i + 2) (by omega) hN dL_law_173 ?_
  refine lv_aload_n hx hb dL_law_174 rfl (lv_at hl 0 rfl) ?_
  refine lv_iload_n hx hb dL_law_175 rfl (lv_at hl 3 rfl) ?_
  refine lv_iconst (v := 3) hx hb dL_law_176 (by decide) ?_
  refine h_iaddN hx hb i 3 dL_law_177 ?_
  refine h_sld hx hb hX hbl hw.2.2.1 (i := i + 3) (by omega) hN dL_law_178 ?_
  refine lv_i2l hx hb dL_law_179 rfl ?_
  refine lv_bipush (v := 32) hx hb dL_law_180 (by decide) ?_
  refine lv_lshl hx hb dL_law_182 rfl ?_
  refine lv_aload_n hx hb dL_law_183 rfl (lv_at hl 0 rfl) ?_
  refine lv_iload_n hx hb dL_law_184 rfl (lv_at hl 3 rfl) ?_
  refine lv_iconst (v := 4) hx hb dL_law_185 (by decide) ?_
  refine h_iaddN hx hb i 4 dL_law_186 ?_
  refine h_sld hx hb hX hbl hw.2.2.1 (i := i + 4) (by omega) hN dL_law_187 ?_
  refine lv_i2l hx hb dL_law_188 rfl ?_
  refine lv_ldc2 hx hb (v := 4294967295) hown (hts (.constantLong RL 18 (4294967295)) (by decide +kernel)) dL_law_189 ?_
  refine lv_land hx hb dL_law_192 ?_
  refine lv_lor hx hb dL_law_193 ?_
  refine h_lawC (S2 := (sp_put (rg, kd, z, pl, cnt) (xs (i + 1)) (xs (i + 2)) ((((xs (i + 3)).toInt64) <<< ((32 : Int32).toInt64 &&& 63)) ||| (((xs (i + 4)).toInt64) &&& 4294967295))).2) (st1 := [.int ((sp_put (rg, kd, z, pl, cnt) (xs (i + 1)) (xs (i + 2)) ((((xs (i + 3)).toInt64) <<< ((32 : Int32).toInt64 &&& 63)) ||| (((xs (i + 4)).toInt64) &&& 4294967295))).1)]) [.int (xs (i + 1)), .int (xs (i + 2)), .long ((((xs (i + 3)).toInt64) <<< ((32 : Int32).toInt64 &&& 63)) ||| (((xs (i + 4)).toInt64) &&& 4294967295))] [] ⟨hx, hb, hml, hown, hts⟩ hE hw (fun Fc hR => c_X5_put l G _ ad Fc rg kd z pl cnt hR hz (xs (i + 1)) (xs (i + 2)) ((((xs (i + 3)).toInt64) <<< ((32 : Int32).toInt64 &&& 63)) ||| (((xs (i + 4)).toInt64) &&& 4294967295))) (cwV 3 hts gL_law_X5_put rfl rfl rfl (by decide +kernel) ⟨Nat.le_of_ble_eq_true rfl, Nat.le_of_ble_eq_true rfl⟩) rfl hl.1 rfl (Nat.le_of_ble_eq_true rfl) dL_law_194 ⟨Nat.le_refl _, Nat.le_refl _⟩ rfl (fun H locs hw => ?_)
  refine lv_aload_n hx hb dL_law_197 rfl (lv_at hl 2 rfl) ?_
  refine lv_aload_n hx hb dL_law_198 rfl (lv_at hl 0 rfl) ?_
  refine lv_iload_n hx hb dL_law_199 rfl (lv_at hl 3 rfl) ?_
  refine lv_iconst (v := 1) hx hb dL_law_200 (by decide) ?_
  refine h_iaddN hx hb i 1 dL_law_201 ?_
  refine h_sld hx hb hX hbl hw.2.2.1 (i := i + 1) (by omega) hN dL_law_202 ?_
  refine lv_aload_n hx hb dL_law_203 rfl (lv_at hl 0 rfl) ?_
  refine lv_iload_n hx hb dL_law_204 rfl (lv_at hl 3 rfl) ?_
  refine lv_iconst (v := 2) hx hb dL_law_205 (by decide) ?_
  refine h_iaddN hx hb i 2 dL_law_206 ?_
  refine h_sld hx hb hX hbl hw.2.2.1 (i := i + 2) (by omega) hN dL_law_207 ?_
  refine lv_aload_n hx hb dL_law_208 rfl (lv_at hl 0 rfl) ?_
  refine lv_iload_n hx hb dL_law_209 rfl (lv_at hl 3 rfl) ?_
  refine lv_iconst (v := 3) hx hb dL_law_210 (by decide) ?_
  refine h_iaddN hx hb i 3 dL_law_211 ?_
  refine h_sld hx hb hX hbl hw.2.2.1 (i := i + 3) (by omega) hN dL_law_212 ?_
  refine lv_i2l hx hb dL_law_213 rfl ?_
  refine lv_bipush (v := 32) hx hb dL_law_214 (by decide) ?_
  refine lv_lshl hx hb dL_law_216 rfl ?_
  refine lv_aload_n hx hb dL_law_217 rfl (lv_at hl 0 rfl) ?_
  refine lv_iload_n hx hb dL_law_218 rfl (lv_at hl 3 rfl) ?_
  refine lv_iconst (v := 4) hx hb dL_law_219 (by decide) ?_
  refine h_iaddN hx hb i 4 dL_law_220 ?_
  refine h_sld hx hb hX hbl hw.2.2.1 (i := i + 4) (by omega) hN dL_law_221 ?_
  refine lv_i2l hx hb dL_law_222 rfl ?_
  refine lv_ldc2 hx hb (v := 4294967295) hown (hts (.constantLong RL 18 (4294967295)) (by decide +kernel)) dL_law_223 ?_
  refine lv_land hx hb dL_law_226 ?_
  refine lv_lor hx hb dL_law_227 ?_
  refine h_lawM (S2 := (sp_put (rg, kd, z, pl, cnt) (xs (i + 1)) (xs (i + 2)) ((((xs (i + 3)).toInt64) <<< ((32 : Int32).toInt64 &&& 63)) ||| (((xs (i + 4)).toInt64) &&& 4294967295))).2) (st1 := [.int ((sp_put (rg, kd, z, pl, cnt) (xs (i + 1)) (xs (i + 2)) ((((xs (i + 3)).toInt64) <<< ((32 : Int32).toInt64 &&& 63)) ||| (((xs (i + 4)).toInt64) &&& 4294967295))).1), .int ((sp_put (rg, kd, z, pl, cnt) (xs (i + 1)) (xs (i + 2)) ((((xs (i + 3)).toInt64) <<< ((32 : Int32).toInt64 &&& 63)) ||| (((xs (i + 4)).toInt64) &&& 4294967295))).1)]) [.int (xs (i + 1)), .int (xs (i + 2)), .long ((((xs (i + 3)).toInt64) <<< ((32 : Int32).toInt64 &&& 63)) ||| (((xs (i + 4)).toInt64) &&& 4294967295))] [.int ((sp_put (rg, kd, z, pl, cnt) (xs (i + 1)) (xs (i + 2)) ((((xs (i + 3)).toInt64) <<< ((32 : Int32).toInt64 &&& 63)) ||| (((xs (i + 4)).toInt64) &&& 4294967295))).1)] ⟨hx, hb, hml, hown, hts⟩ hE hw (fun Fm hR => c_X6_put l G _ ma Fm rg kd z pl cnt hR hz hkd hc12 (xs (i + 1)) (xs (i + 2)) ((((xs (i + 3)).toInt64) <<< ((32 : Int32).toInt64 &&& 63)) ||| (((xs (i + 4)).toInt64) &&& 4294967295))) (cwV 3 hts gL_law_X6_put rfl rfl rfl (by decide +kernel) ⟨Nat.le_of_ble_eq_true rfl, Nat.le_of_ble_eq_true rfl⟩) rfl hl.1 rfl (Nat.le_of_ble_eq_true rfl) dL_law_228 ⟨Nat.le_refl _, Nat.le_refl _⟩ rfl (fun H locs hw => ?_)
  exact lv_icmp_eq (tgt := 1015) hx hb dL_law_231 (by decide) (fun _ => kk _ _ hw) (fun c9 => absurd rfl c9)

set_option maxHeartbeats 4000000 in
set_option maxRecDepth 100000 in
theorem law_2 {p : Program} {e : Env} {s : State} {m : MethodId} {below : List Frame} {meth : Method} {c : Code} (l : Launch) {b N : Nat} {xs : Nat → Int32} {G : GG} {ad ma : Nat → Nat} {ls : Array Slot} {H : Heap} {locs : List Loc} {Q : State → Prop} (hx : p.tables.exec = Jvm.exec) (hb : c.code = cL_law) (hml : c.maxLocals = 4) (hown : s.vm.findClass RL = some m.cls) (hts : ∀ w ∈ wsL_law, w.before #[Value.ref b] s = true) (hE : en G (fun q => s.heap.size ≤ q) s) (hX : va_X b N xs s s.heap) (hbl : b < s.heap.size) (hN : N ≤ 3072) {i : Nat} (hi : i + 6 ≤ N) {rg : Nat → Q4} {kd : Nat → Int32} {z : Nat → Nat} {pl : Nat → Nat → Int64} {cnt : Nat} (hinv : inv (rg, kd, z, pl, cnt)) (hw : LWS G s ad ma (rg, kd, z, pl, cnt) (rg, kd, z, pl, cnt) H locs) (hl : lv_has ls 4 [(0, .ref b), (1, .ref (ad 51)), (2, .ref (ma 0)), (3, .int (nI i))]) (kk : ∀ (H1 : Heap) (locs1 : List Loc), LWS G s ad ma (sp_copy (rg, kd, z, pl, cnt) (xs (i + 1)) (xs (i + 2)) (xs (i + 3)) (xs (i + 4)) (xs (i + 5))).2 (sp_copy (rg, kd, z, pl, cnt) (xs (i + 1)) (xs (i + 2)) (xs (i + 3)) (xs (i + 4)) (xs (i + 5))).2 H1 locs1 → W p l e room_1 s m #[Value.ref b] below meth c H1 locs1 600000 7302250 Q (F0 m 1015 ls [])) : W p l e room_1 s m #[Value.ref b] below meth c H locs 600000 7302250 Q (F0 m 236 ls []) := by
  obtain ⟨hz, hkd, hc12, hq, -⟩ := hinv
  refine lv_aload_n hx hb dL_law_236 rfl (lv_at hl 1 rfl) ?_
  refine lv_aload_n hx hb dL_law_237 rfl (lv_at hl 0 rfl) ?_
  refine lv_iload_n hx hb dL_law_238 rfl (lv_at hl 3 rfl) ?_
  refine lv_iconst (v := 1) hx hb dL_law_239 (by decide) ?_
  refine h_iaddN hx hb i 1 dL_law_240 ?_
  refine h_sld hx hb hX hbl hw.2.2.1 (i := i + 1) (by omega) hN dL_law_241 ?_
  refine lv_aload_n hx hb dL_law_242 rfl (lv_at hl 0 rfl) ?_
  refine lv_iload_n hx hb dL_law_243 rfl (lv_at hl 3 rfl) ?_
  refine lv_iconst (v := 2) hx hb dL_law_244 (by decide) ?_
  refine h_iaddN hx hb i 2 dL_law_245 ?_
  refine h_sld hx hb hX hbl hw.2.2.1 (i := i + 2) (by omega) hN dL_law_246 ?_
  refine lv_aload_n hx hb dL_law_247 rfl (lv_at hl 0 rfl) ?_
  refine lv_iload_n hx hb dL_law_248 rfl (lv_at hl 3 rfl) ?_
  refine lv_iconst (v := 3) hx hb dL_law_249 (by decide) ?_
  refine h_iaddN hx hb i 3 dL_law_250 ?_
  refine h_sld hx hb hX hbl hw.2.2.1 (i := i + 3) (by omega) hN dL_law_251 ?_
  refine lv_aload_n hx hb dL_law_252 rfl (lv_at hl 0 rfl) ?_
  refine lv_iload_n hx hb dL_law_253 rfl (lv_at hl 3 rfl) ?_
  refine lv_iconst (v := 4) hx hb dL_law_254 (by decide) ?_
  refine h_iaddN hx hb i 4 dL_law_255 ?_
  refine h_sld hx hb hX hbl hw.2.2.1 (i := i + 4) (by omega) hN dL_law_256 ?_
  refine lv_aload_n hx hb dL_law_257 rfl (lv_at hl 0 rfl) ?_
  refine lv_iload_n hx hb dL_law_258 rfl (lv_at hl 3 rfl) ?_
  refine lv_iconst (v := 5) hx hb dL_law_259 (by decide) ?_
  refine h_iaddN hx hb i 5 dL_law_260 ?_
  refine h_sld hx hb hX hbl hw.2.2.1 (i := i + 5) (by omega) hN dL_law_261 ?_
  refine h_lawC (S2 := (sp_copy (rg, kd, z, pl, cnt) (xs (i + 1)) (xs (i + 2)) (xs (i + 3)) (xs (i + 4)) (xs (i + 5))).2) (st1 := [.int ((sp_copy (rg, kd, z, pl, cnt) (xs (i + 1)) (xs (i + 2)) (xs (i + 3)) (xs (i + 4)) (xs (i + 5))).1)]) [.int (xs (i + 1)), .int (xs (i + 2)), .int (xs (i + 3)), .int (xs (i + 4)), .int (xs (i + 5))] [] ⟨hx, hb, hml, hown, hts⟩ hE hw (fun Fc hR => c_X5_copy l G _ ad Fc rg kd z pl cnt hR hz (xs (i + 1)) (xs (i + 2)) (xs (i + 3)) (xs (i + 4)) (xs (i + 5))) (cwV 5 hts gL_law_X5_copy rfl rfl rfl (by decide +kernel) ⟨Nat.le_of_ble_eq_true rfl, Nat.le_of_ble_eq_true rfl⟩) rfl hl.1 rfl (Nat.le_of_ble_eq_true rfl) dL_law_262 ⟨Nat.le_refl _, Nat.le_refl _⟩ rfl (fun H locs hw => ?_)
  refine lv_aload_n hx hb dL_law_265 rfl (lv_at hl 2 rfl) ?_
  refine lv_aload_n hx hb dL_law_266 rfl (lv_at hl 0 rfl) ?_
  refine lv_iload_n hx hb dL_law_267 rfl (lv_at hl 3 rfl) ?_
  refine lv_iconst (v := 1) hx hb dL_law_268 (by decide) ?_
  refine h_iaddN hx hb i 1 dL_law_269 ?_
  refine h_sld hx hb hX hbl hw.2.2.1 (i := i + 1) (by omega) hN dL_law_270 ?_
  refine lv_aload_n hx hb dL_law_271 rfl (lv_at hl 0 rfl) ?_
  refine lv_iload_n hx hb dL_law_272 rfl (lv_at hl 3 rfl) ?_
  refine lv_iconst (v := 2) hx hb dL_law_273 (by decide) ?_
  refine h_iaddN hx hb i 2 dL_law_274 ?_
  refine h_sld hx hb hX hbl hw.2.2.1 (i := i + 2) (by omega) hN dL_law_275 ?_
  refine lv_aload_n hx hb dL_law_276 rfl (lv_at hl 0 rfl) ?_
  refine lv_iload_n hx hb dL_law_277 rfl (lv_at hl 3 rfl) ?_
  refine lv_iconst (v := 3) hx hb dL_law_278 (by decide) ?_
  refine h_iaddN hx hb i 3 dL_law_279 ?_
  refine h_sld hx hb hX hbl hw.2.2.1 (i := i + 3) (by omega) hN dL_law_280 ?_
  refine lv_aload_n hx hb dL_law_281 rfl (lv_at hl 0 rfl) ?_
  refine lv_iload_n hx hb dL_law_282 rfl (lv_at hl 3 rfl) ?_
  refine lv_iconst (v := 4) hx hb dL_law_283 (by decide) ?_
  refine h_iaddN hx hb i 4 dL_law_284 ?_
  refine h_sld hx hb hX hbl hw.2.2.1 (i := i + 4) (by omega) hN dL_law_285 ?_
  refine lv_aload_n hx hb dL_law_286 rfl (lv_at hl 0 rfl) ?_
  refine lv_iload_n hx hb dL_law_287 rfl (lv_at hl 3 rfl) ?_
  refine lv_iconst (v := 5) hx hb dL_law_288 (by decide) ?_
  refine h_iaddN hx hb i 5 dL_law_289 ?_
  refine h_sld hx hb hX hbl hw.2.2.1 (i := i + 5) (by omega) hN dL_law_290 ?_
  refine h_lawM (S2 := (sp_copy (rg, kd, z, pl, cnt) (xs (i + 1)) (xs (i + 2)) (xs (i + 3)) (xs (i + 4)) (xs (i + 5))).2) (st1 := [.int ((sp_copy (rg, kd, z, pl, cnt) (xs (i + 1)) (xs (i + 2)) (xs (i + 3)) (xs (i + 4)) (xs (i + 5))).1), .int ((sp_copy (rg, kd, z, pl, cnt) (xs (i + 1)) (xs (i + 2)) (xs (i + 3)) (xs (i + 4)) (xs (i + 5))).1)]) [.int (xs (i + 1)), .int (xs (i + 2)), .int (xs (i + 3)), .int (xs (i + 4)), .int (xs (i + 5))] [.int ((sp_copy (rg, kd, z, pl, cnt) (xs (i + 1)) (xs (i + 2)) (xs (i + 3)) (xs (i + 4)) (xs (i + 5))).1)] ⟨hx, hb, hml, hown, hts⟩ hE hw (fun Fm hR => c_X6_copy l G _ ma Fm rg kd z pl cnt hR hz hkd hc12 (xs (i + 1)) (xs (i + 2)) (xs (i + 3)) (xs (i + 4)) (xs (i + 5))) (cwV 5 hts gL_law_X6_copy rfl rfl rfl (by decide +kernel) ⟨Nat.le_of_ble_eq_true rfl, Nat.le_of_ble_eq_true rfl⟩) rfl hl.1 rfl (Nat.le_of_ble_eq_true rfl) dL_law_291 ⟨Nat.le_refl _, Nat.le_refl _⟩ rfl (fun H locs hw => ?_)
  exact lv_icmp_eq (tgt := 1015) hx hb dL_law_294 (by decide) (fun _ => kk _ _ hw) (fun c9 => absurd rfl c9)

set_option maxHeartbeats 4000000 in
set_option maxRecDepth 100000 in
theorem law_3 {p : Program} {e : Env} {s : State} {m : MethodId} {below : List Frame} {meth : Method} {c : Code} (l : Launch) {b N : Nat} {xs : Nat → Int32} {G : GG} {ad ma : Nat → Nat} {ls : Array Slot} {H : Heap} {locs : List Loc} {Q : State → Prop} (hx : p.tables.exec = Jvm.exec) (hb : c.code = cL_law) (hml : c.maxLocals = 4) (hown : s.vm.findClass RL = some m.cls) (hts : ∀ w ∈ wsL_law, w.before #[Value.ref b] s = true) (hE : en G (fun q => s.heap.size ≤ q) s) (hX : va_X b N xs s s.heap) (hbl : b < s.heap.size) (hN : N ≤ 3072) {i : Nat} (hi : i + 6 ≤ N) {rg : Nat → Q4} {kd : Nat → Int32} {z : Nat → Nat} {pl : Nat → Nat → Int64} {cnt : Nat} (hinv : inv (rg, kd, z, pl, cnt)) (hw : LWS G s ad ma (rg, kd, z, pl, cnt) (rg, kd, z, pl, cnt) H locs) (hl : lv_has ls 4 [(0, .ref b), (1, .ref (ad 51)), (2, .ref (ma 0)), (3, .int (nI i))]) (kk : ∀ (H1 : Heap) (locs1 : List Loc), LWS G s ad ma (sp_read (rg, kd, z, pl, cnt) (xs (i + 1)) (xs (i + 2)) (xs (i + 3))).2 (sp_read (rg, kd, z, pl, cnt) (xs (i + 1)) (xs (i + 2)) (xs (i + 3))).2 H1 locs1 → W p l e room_1 s m #[Value.ref b] below meth c H1 locs1 600000 7302250 Q (F0 m 1015 ls [])) : W p l e room_1 s m #[Value.ref b] below meth c H locs 600000 7302250 Q (F0 m 299 ls []) := by
  obtain ⟨hz, hkd, hc12, hq, -⟩ := hinv
  refine lv_aload_n hx hb dL_law_299 rfl (lv_at hl 1 rfl) ?_
  refine lv_aload_n hx hb dL_law_300 rfl (lv_at hl 0 rfl) ?_
  refine lv_iload_n hx hb dL_law_301 rfl (lv_at hl 3 rfl) ?_
  refine lv_iconst (v := 1) hx hb dL_law_302 (by decide) ?_
  refine h_iaddN hx hb i 1 dL_law_303 ?_
  refine h_sld hx hb hX hbl hw.2.2.1 (i := i + 1) (by omega) hN dL_law_304 ?_
  refine lv_aload_n hx hb dL_law_305 rfl (lv_at hl 0 rfl) ?_
  refine lv_iload_n hx hb dL_law_306 rfl (lv_at hl 3 rfl) ?_
  refine lv_iconst (v := 2) hx hb dL_law_307 (by decide) ?_
  refine h_iaddN hx hb i 2 dL_law_308 ?_
  refine h_sld hx hb hX hbl hw.2.2.1 (i := i + 2) (by omega) hN dL_law_309 ?_
  refine lv_aload_n hx hb dL_law_310 rfl (lv_at hl 0 rfl) ?_
  refine lv_iload_n hx hb dL_law_311 rfl (lv_at hl 3 rfl) ?_
  refine lv_iconst (v := 3) hx hb dL_law_312 (by decide) ?_
  refine h_iaddN hx hb i 3 dL_law_313 ?_
  refine h_sld hx hb hX hbl hw.2.2.1 (i := i + 3) (by omega) hN dL_law_314 ?_
  refine h_lawC (S2 := (sp_read (rg, kd, z, pl, cnt) (xs (i + 1)) (xs (i + 2)) (xs (i + 3))).2) (st1 := [.int ((sp_read (rg, kd, z, pl, cnt) (xs (i + 1)) (xs (i + 2)) (xs (i + 3))).1)]) [.int (xs (i + 1)), .int (xs (i + 2)), .int (xs (i + 3))] [] ⟨hx, hb, hml, hown, hts⟩ hE hw (fun Fc hR => c_X5_read l G _ ad Fc rg kd z pl cnt hR hz (xs (i + 1)) (xs (i + 2)) (xs (i + 3))) (cwV 3 hts gL_law_X5_read rfl rfl rfl (by decide +kernel) ⟨Nat.le_of_ble_eq_true rfl, Nat.le_of_ble_eq_true rfl⟩) rfl hl.1 rfl (Nat.le_of_ble_eq_true rfl) dL_law_315 ⟨Nat.le_refl _, Nat.le_refl _⟩ rfl (fun H locs hw => ?_)
  refine lv_aload_n hx hb dL_law_318 rfl (lv_at hl 2 rfl) ?_
  refine lv_aload_n hx hb dL_law_319 rfl (lv_at hl 0 rfl) ?_
  refine lv_iload_n hx hb dL_law_320 rfl (lv_at hl 3 rfl) ?_
  refine lv_iconst (v := 1) hx hb dL_law_321 (by decide) ?_
  refine h_iaddN hx hb i 1 dL_law_322 ?_
  refine h_sld hx hb hX hbl hw.2.2.1 (i := i + 1) (by omega) hN dL_law_323 ?_
  refine lv_aload_n hx hb dL_law_324 rfl (lv_at hl 0 rfl) ?_
  refine lv_iload_n hx hb dL_law_325 rfl (lv_at hl 3 rfl) ?_
  refine lv_iconst (v := 2) hx hb dL_law_326 (by decide) ?_
  refine h_iaddN hx hb i 2 dL_law_327 ?_
  refine h_sld hx hb hX hbl hw.2.2.1 (i := i + 2) (by omega) hN dL_law_328 ?_
  refine lv_aload_n hx hb dL_law_329 rfl (lv_at hl 0 rfl) ?_
  refine lv_iload_n hx hb dL_law_330 rfl (lv_at hl 3 rfl) ?_
  refine lv_iconst (v := 3) hx hb dL_law_331 (by decide) ?_
  refine h_iaddN hx hb i 3 dL_law_332 ?_
  refine h_sld hx hb hX hbl hw.2.2.1 (i := i + 3) (by omega) hN dL_law_333 ?_
  refine h_lawM (S2 := (sp_read (rg, kd, z, pl, cnt) (xs (i + 1)) (xs (i + 2)) (xs (i + 3))).2) (st1 := [.int ((sp_read (rg, kd, z, pl, cnt) (xs (i + 1)) (xs (i + 2)) (xs (i + 3))).1), .int ((sp_read (rg, kd, z, pl, cnt) (xs (i + 1)) (xs (i + 2)) (xs (i + 3))).1)]) [.int (xs (i + 1)), .int (xs (i + 2)), .int (xs (i + 3))] [.int ((sp_read (rg, kd, z, pl, cnt) (xs (i + 1)) (xs (i + 2)) (xs (i + 3))).1)] ⟨hx, hb, hml, hown, hts⟩ hE hw (fun Fm hR => c_X6_read l G _ ma Fm rg kd z pl cnt hR hz hkd hc12 (xs (i + 1)) (xs (i + 2)) (xs (i + 3))) (cwV 3 hts gL_law_X6_read rfl rfl rfl (by decide +kernel) ⟨Nat.le_of_ble_eq_true rfl, Nat.le_of_ble_eq_true rfl⟩) rfl hl.1 rfl (Nat.le_of_ble_eq_true rfl) dL_law_334 ⟨Nat.le_refl _, Nat.le_refl _⟩ rfl (fun H locs hw => ?_)
  exact lv_icmp_eq (tgt := 1015) hx hb dL_law_337 (by decide) (fun _ => kk _ _ hw) (fun c9 => absurd rfl c9)

set_option maxHeartbeats 4000000 in
set_option maxRecDepth 100000 in
theorem law_4 {p : Program} {e : Env} {s : State} {m : MethodId} {below : List Frame} {meth : Method} {c : Code} (l : Launch) {b N : Nat} {xs : Nat → Int32} {G : GG} {ad ma : Nat → Nat} {ls : Array Slot} {H : Heap} {locs : List Loc} {Q : State → Prop} (hx : p.tables.exec = Jvm.exec) (hb : c.code = cL_law) (hml : c.maxLocals = 4) (hown : s.vm.findClass RL = some m.cls) (hts : ∀ w ∈ wsL_law, w.before #[Value.ref b] s = true) (hE : en G (fun q => s.heap.size ≤ q) s) (hX : va_X b N xs s s.heap) (hbl : b < s.heap.size) (hN : N ≤ 3072) {i : Nat} (hi : i + 6 ≤ N) {rg : Nat → Q4} {kd : Nat → Int32} {z : Nat → Nat} {pl : Nat → Nat → Int64} {cnt : Nat} (hinv : inv (rg, kd, z, pl, cnt)) (hw : LWS G s ad ma (rg, kd, z, pl, cnt) (rg, kd, z, pl, cnt) H locs) (hl : lv_has ls 4 [(0, .ref b), (1, .ref (ad 51)), (2, .ref (ma 0)), (3, .int (nI i))]) (kk : ∀ (H1 : Heap) (locs1 : List Loc), LWS G s ad ma (sp_write (rg, kd, z, pl, cnt) (xs (i + 1)) (xs (i + 2)) (xs (i + 3))).2 (sp_write (rg, kd, z, pl, cnt) (xs (i + 1)) (xs (i + 2)) (xs (i + 3))).2 H1 locs1 → W p l e room_1 s m #[Value.ref b] below meth c H1 locs1 600000 7302250 Q (F0 m 1015 ls [])) : W p l e room_1 s m #[Value.ref b] below meth c H locs 600000 7302250 Q (F0 m 342 ls []) := by
  obtain ⟨hz, hkd, hc12, hq, -⟩ := hinv
  refine lv_aload_n hx hb dL_law_342 rfl (lv_at hl 1 rfl) ?_
  refine lv_aload_n hx hb dL_law_343 rfl (lv_at hl 0 rfl) ?_
  refine lv_iload_n hx hb dL_law_344 rfl (lv_at hl 3 rfl) ?_
  refine lv_iconst (v := 1) hx hb dL_law_345 (by decide) ?_
  refine h_iaddN hx hb i 1 dL_law_346 ?_
  refine h_sld hx hb hX hbl hw.2.2.1 (i := i + 1) (by omega) hN dL_law_347 ?_
  refine lv_aload_n hx hb dL_law_348 rfl (lv_at hl 0 rfl) ?_
  refine lv_iload_n hx hb dL_law_349 rfl (lv_at hl 3 rfl) ?_
  refine lv_iconst (v := 2) hx hb dL_law_350 (by decide) ?_
  refine h_iaddN hx hb i 2 dL_law_351 ?_
  refine h_sld hx hb hX hbl hw.2.2.1 (i := i + 2) (by omega) hN dL_law_352 ?_
  refine lv_aload_n hx hb dL_law_353 rfl (lv_at hl 0 rfl) ?_
  refine lv_iload_n hx hb dL_law_354 rfl (lv_at hl 3 rfl) ?_
  refine lv_iconst (v := 3) hx hb dL_law_355 (by decide) ?_
  refine h_iaddN hx hb i 3 dL_law_356 ?_
  refine h_sld hx hb hX hbl hw.2.2.1 (i := i + 3) (by omega) hN dL_law_357 ?_
  refine h_lawC (S2 := (sp_write (rg, kd, z, pl, cnt) (xs (i + 1)) (xs (i + 2)) (xs (i + 3))).2) (st1 := [.int ((sp_write (rg, kd, z, pl, cnt) (xs (i + 1)) (xs (i + 2)) (xs (i + 3))).1)]) [.int (xs (i + 1)), .int (xs (i + 2)), .int (xs (i + 3))] [] ⟨hx, hb, hml, hown, hts⟩ hE hw (fun Fc hR => c_X5_write l G _ ad Fc rg kd z pl cnt hR hz (xs (i + 1)) (xs (i + 2)) (xs (i + 3))) (cwV 3 hts gL_law_X5_write rfl rfl rfl (by decide +kernel) ⟨Nat.le_of_ble_eq_true rfl, Nat.le_of_ble_eq_true rfl⟩) rfl hl.1 rfl (Nat.le_of_ble_eq_true rfl) dL_law_358 ⟨Nat.le_refl _, Nat.le_refl _⟩ rfl (fun H locs hw => ?_)
  refine lv_aload_n hx hb dL_law_361 rfl (lv_at hl 2 rfl) ?_
  refine lv_aload_n hx hb dL_law_362 rfl (lv_at hl 0 rfl) ?_
  refine lv_iload_n hx hb dL_law_363 rfl (lv_at hl 3 rfl) ?_
  refine lv_iconst (v := 1) hx hb dL_law_364 (by decide) ?_
  refine h_iaddN hx hb i 1 dL_law_365 ?_
  refine h_sld hx hb hX hbl hw.2.2.1 (i := i + 1) (by omega) hN dL_law_366 ?_
  refine lv_aload_n hx hb dL_law_367 rfl (lv_at hl 0 rfl) ?_
  refine lv_iload_n hx hb dL_law_368 rfl (lv_at hl 3 rfl) ?_
  refine lv_iconst (v := 2) hx hb dL_law_369 (by decide) ?_
  refine h_iaddN hx hb i 2 dL_law_370 ?_
  refine h_sld hx hb hX hbl hw.2.2.1 (i := i + 2) (by omega) hN dL_law_371 ?_
  refine lv_aload_n hx hb dL_law_372 rfl (lv_at hl 0 rfl) ?_
  refine lv_iload_n hx hb dL_law_373 rfl (lv_at hl 3 rfl) ?_
  refine lv_iconst (v := 3) hx hb dL_law_374 (by decide) ?_
  refine h_iaddN hx hb i 3 dL_law_375 ?_
  refine h_sld hx hb hX hbl hw.2.2.1 (i := i + 3) (by omega) hN dL_law_376 ?_
  refine h_lawM (S2 := (sp_write (rg, kd, z, pl, cnt) (xs (i + 1)) (xs (i + 2)) (xs (i + 3))).2) (st1 := [.int ((sp_write (rg, kd, z, pl, cnt) (xs (i + 1)) (xs (i + 2)) (xs (i + 3))).1), .int ((sp_write (rg, kd, z, pl, cnt) (xs (i + 1)) (xs (i + 2)) (xs (i + 3))).1)]) [.int (xs (i + 1)), .int (xs (i + 2)), .int (xs (i + 3))] [.int ((sp_write (rg, kd, z, pl, cnt) (xs (i + 1)) (xs (i + 2)) (xs (i + 3))).1)] ⟨hx, hb, hml, hown, hts⟩ hE hw (fun Fm hR => c_X6_write l G _ ma Fm rg kd z pl cnt hR hz hkd hc12 (xs (i + 1)) (xs (i + 2)) (xs (i + 3))) (cwV 3 hts gL_law_X6_write rfl rfl rfl (by decide +kernel) ⟨Nat.le_of_ble_eq_true rfl, Nat.le_of_ble_eq_true rfl⟩) rfl hl.1 rfl (Nat.le_of_ble_eq_true rfl) dL_law_377 ⟨Nat.le_refl _, Nat.le_refl _⟩ rfl (fun H locs hw => ?_)
  exact lv_icmp_eq (tgt := 1015) hx hb dL_law_380 (by decide) (fun _ => kk _ _ hw) (fun c9 => absurd rfl c9)

set_option maxHeartbeats 4000000 in
set_option maxRecDepth 100000 in
theorem law_5 {p : Program} {e : Env} {s : State} {m : MethodId} {below : List Frame} {meth : Method} {c : Code} (l : Launch) {b N : Nat} {xs : Nat → Int32} {G : GG} {ad ma : Nat → Nat} {ls : Array Slot} {H : Heap} {locs : List Loc} {Q : State → Prop} (hx : p.tables.exec = Jvm.exec) (hb : c.code = cL_law) (hml : c.maxLocals = 4) (hown : s.vm.findClass RL = some m.cls) (hts : ∀ w ∈ wsL_law, w.before #[Value.ref b] s = true) (hE : en G (fun q => s.heap.size ≤ q) s) (hX : va_X b N xs s s.heap) (hbl : b < s.heap.size) (hN : N ≤ 3072) {i : Nat} (hi : i + 6 ≤ N) {rg : Nat → Q4} {kd : Nat → Int32} {z : Nat → Nat} {pl : Nat → Nat → Int64} {cnt : Nat} (hinv : inv (rg, kd, z, pl, cnt)) (hw : LWS G s ad ma (rg, kd, z, pl, cnt) (rg, kd, z, pl, cnt) H locs) (hl : lv_has ls 4 [(0, .ref b), (1, .ref (ad 51)), (2, .ref (ma 0)), (3, .int (nI i))]) (kk : ∀ (H1 : Heap) (locs1 : List Loc), LWS G s ad ma (sp_set (rg, kd, z, pl, cnt) (xs (i + 1)) (xs (i + 2)) (xs (i + 3)) (xs (i + 4)) (xs (i + 5))).2 (sp_set (rg, kd, z, pl, cnt) (xs (i + 1)) (xs (i + 2)) (xs (i + 3)) (xs (i + 4)) (xs (i + 5))).2 H1 locs1 → W p l e room_1 s m #[Value.ref b] below meth c H1 locs1 600000 7302250 Q (F0 m 1015 ls [])) : W p l e room_1 s m #[Value.ref b] below meth c H locs 600000 7302250 Q (F0 m 385 ls []) := by
  obtain ⟨hz, hkd, hc12, hq, -⟩ := hinv
  refine lv_aload_n hx hb dL_law_385 rfl (lv_at hl 1 rfl) ?_
  refine lv_aload_n hx hb dL_law_386 rfl (lv_at hl 0 rfl) ?_
  refine lv_iload_n hx hb dL_law_387 rfl (lv_at hl 3 rfl) ?_
  refine lv_iconst (v := 1) hx hb dL_law_388 (by decide) ?_
  refine h_iaddN hx hb i 1 dL_law_389 ?_
  refine h_sld hx hb hX hbl hw.2.2.1 (i := i + 1) (by omega) hN dL_law_390 ?_
  refine lv_aload_n hx hb dL_law_391 rfl (lv_at hl 0 rfl) ?_
  refine lv_iload_n hx hb dL_law_392 rfl (lv_at hl 3 rfl) ?_
  refine lv_iconst (v := 2) hx hb dL_law_393 (by decide) ?_
  refine h_iaddN hx hb i 2 dL_law_394 ?_
  refine h_sld hx hb hX hbl hw.2.2.1 (i := i + 2) (by omega) hN dL_law_395 ?_
  refine lv_aload_n hx hb dL_law_396 rfl (lv_at hl 0 rfl) ?_
  refine lv_iload_n hx hb dL_law_397 rfl (lv_at hl 3 rfl) ?_
  refine lv_iconst (v := 3) hx hb dL_law_398 (by decide) ?_
  refine h_iaddN hx hb i 3 dL_law_399 ?_
  refine h_sld hx hb hX hbl hw.2.2.1 (i := i + 3) (by omega) hN dL_law_400 ?_
  refine lv_aload_n hx hb dL_law_401 rfl (lv_at hl 0 rfl) ?_
  refine lv_iload_n hx hb dL_law_402 rfl (lv_at hl 3 rfl) ?_
  refine lv_iconst (v := 4) hx hb dL_law_403 (by decide) ?_
  refine h_iaddN hx hb i 4 dL_law_404 ?_
  refine h_sld hx hb hX hbl hw.2.2.1 (i := i + 4) (by omega) hN dL_law_405 ?_
  refine lv_aload_n hx hb dL_law_406 rfl (lv_at hl 0 rfl) ?_
  refine lv_iload_n hx hb dL_law_407 rfl (lv_at hl 3 rfl) ?_
  refine lv_iconst (v := 5) hx hb dL_law_408 (by decide) ?_
  refine h_iaddN hx hb i 5 dL_law_409 ?_
  refine h_sld hx hb hX hbl hw.2.2.1 (i := i + 5) (by omega) hN dL_law_410 ?_
  refine h_lawC (S2 := (sp_set (rg, kd, z, pl, cnt) (xs (i + 1)) (xs (i + 2)) (xs (i + 3)) (xs (i + 4)) (xs (i + 5))).2) (st1 := [.int ((sp_set (rg, kd, z, pl, cnt) (xs (i + 1)) (xs (i + 2)) (xs (i + 3)) (xs (i + 4)) (xs (i + 5))).1)]) [.int (xs (i + 1)), .int (xs (i + 2)), .int (xs (i + 3)), .int (xs (i + 4)), .int (xs (i + 5))] [] ⟨hx, hb, hml, hown, hts⟩ hE hw (fun Fc hR => c_X5_set l G _ ad Fc rg kd z pl cnt hR hz (xs (i + 1)) (xs (i + 2)) (xs (i + 3)) (xs (i + 4)) (xs (i + 5))) (cwV 5 hts gL_law_X5_set rfl rfl rfl (by decide +kernel) ⟨Nat.le_of_ble_eq_true rfl, Nat.le_of_ble_eq_true rfl⟩) rfl hl.1 rfl (Nat.le_of_ble_eq_true rfl) dL_law_411 ⟨Nat.le_refl _, Nat.le_refl _⟩ rfl (fun H locs hw => ?_)
  refine lv_aload_n hx hb dL_law_414 rfl (lv_at hl 2 rfl) ?_
  refine lv_aload_n hx hb dL_law_415 rfl (lv_at hl 0 rfl) ?_
  refine lv_iload_n hx hb dL_law_416 rfl (lv_at hl 3 rfl) ?_
  refine lv_iconst (v := 1) hx hb dL_law_417 (by decide) ?_
  refine h_iaddN hx hb i 1 dL_law_418 ?_
  refine h_sld hx hb hX hbl hw.2.2.1 (i := i + 1) (by omega) hN dL_law_419 ?_
  refine lv_aload_n hx hb dL_law_420 rfl (lv_at hl 0 rfl) ?_
  refine lv_iload_n hx hb dL_law_421 rfl (lv_at hl 3 rfl) ?_
  refine lv_iconst (v := 2) hx hb dL_law_422 (by decide) ?_
  refine h_iaddN hx hb i 2 dL_law_423 ?_
  refine h_sld hx hb hX hbl hw.2.2.1 (i := i + 2) (by omega) hN dL_law_424 ?_
  refine lv_aload_n hx hb dL_law_425 rfl (lv_at hl 0 rfl) ?_
  refine lv_iload_n hx hb dL_law_426 rfl (lv_at hl 3 rfl) ?_
  refine lv_iconst (v := 3) hx hb dL_law_427 (by decide) ?_
  refine h_iaddN hx hb i 3 dL_law_428 ?_
  refine h_sld hx hb hX hbl hw.2.2.1 (i := i + 3) (by omega) hN dL_law_429 ?_
  refine lv_aload_n hx hb dL_law_430 rfl (lv_at hl 0 rfl) ?_
  refine lv_iload_n hx hb dL_law_431 rfl (lv_at hl 3 rfl) ?_
  refine lv_iconst (v := 4) hx hb dL_law_432 (by decide) ?_
  refine h_iaddN hx hb i 4 dL_law_433 ?_
  refine h_sld hx hb hX hbl hw.2.2.1 (i := i + 4) (by omega) hN dL_law_434 ?_
  refine lv_aload_n hx hb dL_law_435 rfl (lv_at hl 0 rfl) ?_
  refine lv_iload_n hx hb dL_law_436 rfl (lv_at hl 3 rfl) ?_
  refine lv_iconst (v := 5) hx hb dL_law_437 (by decide) ?_
  refine h_iaddN hx hb i 5 dL_law_438 ?_
  refine h_sld hx hb hX hbl hw.2.2.1 (i := i + 5) (by omega) hN dL_law_439 ?_
  refine h_lawM (S2 := (sp_set (rg, kd, z, pl, cnt) (xs (i + 1)) (xs (i + 2)) (xs (i + 3)) (xs (i + 4)) (xs (i + 5))).2) (st1 := [.int ((sp_set (rg, kd, z, pl, cnt) (xs (i + 1)) (xs (i + 2)) (xs (i + 3)) (xs (i + 4)) (xs (i + 5))).1), .int ((sp_set (rg, kd, z, pl, cnt) (xs (i + 1)) (xs (i + 2)) (xs (i + 3)) (xs (i + 4)) (xs (i + 5))).1)]) [.int (xs (i + 1)), .int (xs (i + 2)), .int (xs (i + 3)), .int (xs (i + 4)), .int (xs (i + 5))] [.int ((sp_set (rg, kd, z, pl, cnt) (xs (i + 1)) (xs (i + 2)) (xs (i + 3)) (xs (i + 4)) (xs (i + 5))).1)] ⟨hx, hb, hml, hown, hts⟩ hE hw (fun Fm hR => c_X6_set l G _ ma Fm rg kd z pl cnt hR hz hkd hc12 (xs (i + 1)) (xs (i + 2)) (xs (i + 3)) (xs (i + 4)) (xs (i + 5))) (cwV 5 hts gL_law_X6_set rfl rfl rfl (by decide +kernel) ⟨Nat.le_of_ble_eq_true rfl, Nat.le_of_ble_eq_true rfl⟩) rfl hl.1 rfl (Nat.le_of_ble_eq_true rfl) dL_law_440 ⟨Nat.le_refl _, Nat.le_refl _⟩ rfl (fun H locs hw => ?_)
  exact lv_icmp_eq (tgt := 1015) hx hb dL_law_443 (by decide) (fun _ => kk _ _ hw) (fun c9 => absurd rfl c9)

set_option maxHeartbeats 4000000 in
set_option maxRecDepth 100000 in
theorem law_6 {p : Program} {e : Env} {s : State} {m : MethodId} {below : List Frame} {meth : Method} {c : Code} (l : Launch) {b N : Nat} {xs : Nat → Int32} {G : GG} {ad ma : Nat → Nat} {ls : Array Slot} {H : Heap} {locs : List Loc} {Q : State → Prop} (hx : p.tables.exec = Jvm.exec) (hb : c.code = cL_law) (hml : c.maxLocals = 4) (hown : s.vm.findClass RL = some m.cls) (hts : ∀ w ∈ wsL_law, w.before #[Value.ref b] s = true) (hE : en G (fun q => s.heap.size ≤ q) s) (hX : va_X b N xs s s.heap) (hbl : b < s.heap.size) (hN : N ≤ 3072) {i : Nat} (hi : i + 6 ≤ N) {rg : Nat → Q4} {kd : Nat → Int32} {z : Nat → Nat} {pl : Nat → Nat → Int64} {cnt : Nat} (hinv : inv (rg, kd, z, pl, cnt)) (hw : LWS G s ad ma (rg, kd, z, pl, cnt) (rg, kd, z, pl, cnt) H locs) (hl : lv_has ls 4 [(0, .ref b), (1, .ref (ad 51)), (2, .ref (ma 0)), (3, .int (nI i))]) (kk : ∀ (H1 : Heap) (locs1 : List Loc), LWS G s ad ma (sp_part (rg, kd, z, pl, cnt) (xs (i + 1)) (xs (i + 2))).2 (sp_part (rg, kd, z, pl, cnt) (xs (i + 1)) (xs (i + 2))).2 H1 locs1 → W p l e room_1 s m #[Value.ref b] below meth c H1 locs1 600000 7302250 Q (F0 m 1015 ls [])) : W p l e room_1 s m #[Value.ref b] below meth c H locs 600000 7302250 Q (F0 m 448 ls []) := by
  obtain ⟨hz, hkd, hc12, hq, -⟩ := hinv
  refine lv_aload_n hx hb dL_law_448 rfl (lv_at hl 1 rfl) ?_
  refine lv_aload_n hx hb dL_law_449 rfl (lv_at hl 0 rfl) ?_
  refine lv_iload_n hx hb dL_law_450 rfl (lv_at hl 3 rfl) ?_
  refine lv_iconst (v := 1) hx hb dL_law_451 (by decide) ?_
  refine h_iaddN hx hb i 1 dL_law_452 ?_
  refine h_sld hx hb hX hbl hw.2.2.1 (i := i + 1) (by omega) hN dL_law_453 ?_
  refine lv_aload_n hx hb dL_law_454 rfl (lv_at hl 0 rfl) ?_
  refine lv_iload_n hx hb dL_law_455 rfl (lv_at hl 3 rfl) ?_
  refine lv_iconst (v := 2) hx hb dL_law_456 (by decide) ?_
  refine h_iaddN hx hb i 2 dL_law_457 ?_
  refine h_sld hx hb hX hbl hw.2.2.1 (i := i + 2) (by omega) hN dL_law_458 ?_
  refine h_lawC (S2 := (sp_part (rg, kd, z, pl, cnt) (xs (i + 1)) (xs (i + 2))).2) (st1 := [.int ((sp_part (rg, kd, z, pl, cnt) (xs (i + 1)) (xs (i + 2))).1)]) [.int (xs (i + 1)), .int (xs (i + 2))] [] ⟨hx, hb, hml, hown, hts⟩ hE hw (fun Fc hR => c_X5_part l G _ ad Fc rg kd z pl cnt hR hz (xs (i + 1)) (xs (i + 2))) (cwV 2 hts gL_law_X5_part rfl rfl rfl (by decide +kernel) ⟨Nat.le_of_ble_eq_true rfl, Nat.le_of_ble_eq_true rfl⟩) rfl hl.1 rfl (Nat.le_of_ble_eq_true rfl) dL_law_459 ⟨Nat.le_refl _, Nat.le_refl _⟩ rfl (fun H locs hw => ?_)
  refine lv_aload_n hx hb dL_law_462 rfl (lv_at hl 2 rfl) ?_
  refine lv_aload_n hx hb dL_law_463 rfl (lv_at hl 0 rfl) ?_
  refine lv_iload_n hx hb dL_law_464 rfl (lv_at hl 3 rfl) ?_
  refine lv_iconst (v := 1) hx hb dL_law_465 (by decide) ?_
  refine h_iaddN hx hb i 1 dL_law_466 ?_
  refine h_sld hx hb hX hbl hw.2.2.1 (i := i + 1) (by omega) hN dL_law_467 ?_
  refine lv_aload_n hx hb dL_law_468 rfl (lv_at hl 0 rfl) ?_
  refine lv_iload_n hx hb dL_law_469 rfl (lv_at hl 3 rfl) ?_
  refine lv_iconst (v := 2) hx hb dL_law_470 (by decide) ?_
  refine h_iaddN hx hb i 2 dL_law_471 ?_
  refine h_sld hx hb hX hbl hw.2.2.1 (i := i + 2) (by omega) hN dL_law_472 ?_
  refine h_lawM (S2 := (sp_part (rg, kd, z, pl, cnt) (xs (i + 1)) (xs (i + 2))).2) (st1 := [.int ((sp_part (rg, kd, z, pl, cnt) (xs (i + 1)) (xs (i + 2))).1), .int ((sp_part (rg, kd, z, pl, cnt) (xs (i + 1)) (xs (i + 2))).1)]) [.int (xs (i + 1)), .int (xs (i + 2))] [.int ((sp_part (rg, kd, z, pl, cnt) (xs (i + 1)) (xs (i + 2))).1)] ⟨hx, hb, hml, hown, hts⟩ hE hw (fun Fm hR => c_X6_part l G _ ma Fm rg kd z pl cnt hR hz hkd hc12 hq (xs (i + 1)) (xs (i + 2))) (cwV 2 hts gL_law_X6_part rfl rfl rfl (by decide +kernel) ⟨Nat.le_of_ble_eq_true rfl, Nat.le_of_ble_eq_true rfl⟩) rfl hl.1 rfl (Nat.le_of_ble_eq_true rfl) dL_law_473 ⟨Nat.le_refl _, Nat.le_refl _⟩ rfl (fun H locs hw => ?_)
  exact lv_icmp_eq (tgt := 1015) hx hb dL_law_476 (by decide) (fun _ => kk _ _ hw) (fun c9 => absurd rfl c9)

set_option maxHeartbeats 4000000 in
set_option maxRecDepth 100000 in
theorem law_7 {p : Program} {e : Env} {s : State} {m : MethodId} {below : List Frame} {meth : Method} {c : Code} (l : Launch) {b N : Nat} {xs : Nat → Int32} {G : GG} {ad ma : Nat → Nat} {ls : Array Slot} {H : Heap} {locs : List Loc} {Q : State → Prop} (hx : p.tables.exec = Jvm.exec) (hb : c.code = cL_law) (hml : c.maxLocals = 4) (hown : s.vm.findClass RL = some m.cls) (hts : ∀ w ∈ wsL_law, w.before #[Value.ref b] s = true) (hE : en G (fun q => s.heap.size ≤ q) s) (hX : va_X b N xs s s.heap) (hbl : b < s.heap.size) (hN : N ≤ 3072) {i : Nat} (hi : i + 6 ≤ N) {rg : Nat → Q4} {kd : Nat → Int32} {z : Nat → Nat} {pl : Nat → Nat → Int64} {cnt : Nat} (hinv : inv (rg, kd, z, pl, cnt)) (hw : LWS G s ad ma (rg, kd, z, pl, cnt) (rg, kd, z, pl, cnt) H locs) (hl : lv_has ls 4 [(0, .ref b), (1, .ref (ad 51)), (2, .ref (ma 0)), (3, .int (nI i))]) (kk : ∀ (H1 : Heap) (locs1 : List Loc), LWS G s ad ma (sp_work (rg, kd, z, pl, cnt) (xs (i + 1)) (xs (i + 2)) (xs (i + 3)) (xs (i + 4))).2 (sp_work (rg, kd, z, pl, cnt) (xs (i + 1)) (xs (i + 2)) (xs (i + 3)) (xs (i + 4))).2 H1 locs1 → W p l e room_1 s m #[Value.ref b] below meth c H1 locs1 600000 7302250 Q (F0 m 1015 ls [])) : W p l e room_1 s m #[Value.ref b] below meth c H locs 600000 7302250 Q (F0 m 481 ls []) := by
  obtain ⟨hz, hkd, hc12, hq, -⟩ := hinv
  refine lv_aload_n hx hb dL_law_481 rfl (lv_at hl 1 rfl) ?_
  refine lv_aload_n hx hb dL_law_482 rfl (lv_at hl 0 rfl) ?_
  refine lv_iload_n hx hb dL_law_483 rfl (lv_at hl 3 rfl) ?_
  refine lv_iconst (v := 1) hx hb dL_law_484 (by decide) ?_
  refine h_iaddN hx hb i 1 dL_law_485 ?_
  refine h_sld hx hb hX hbl hw.2.2.1 (i := i + 1) (by omega) hN dL_law_486 ?_
  refine lv_aload_n hx hb dL_law_487 rfl (lv_at hl 0 rfl) ?_
  refine lv_iload_n hx hb dL_law_488 rfl (lv_at hl 3 rfl) ?_
  refine lv_iconst (v := 2) hx hb dL_law_489 (by decide) ?_
  refine h_iaddN hx hb i 2 dL_law_490 ?_
  refine h_sld hx hb hX hbl hw.2.2.1 (i := i + 2) (by omega) hN dL_law_491 ?_
  refine lv_aload_n hx hb dL_law_492 rfl (lv_at hl 0 rfl) ?_
  refine lv_iload_n hx hb dL_law_493 rfl (lv_at hl 3 rfl) ?_
  refine lv_iconst (v := 3) hx hb dL_law_494 (by decide) ?_
  refine h_iaddN hx hb i 3 dL_law_495 ?_
  refine h_sld hx hb hX hbl hw.2.2.1 (i := i + 3) (by omega) hN dL_law_496 ?_
  refine lv_aload_n hx hb dL_law_497 rfl (lv_at hl 0 rfl) ?_
  refine lv_iload_n hx hb dL_law_498 rfl (lv_at hl 3 rfl) ?_
  refine lv_iconst (v := 4) hx hb dL_law_499 (by decide) ?_
  refine h_iaddN hx hb i 4 dL_law_500 ?_
  refine h_sld hx hb hX hbl hw.2.2.1 (i := i + 4) (by omega) hN dL_law_501 ?_
  refine h_lawC (S2 := (sp_work (rg, kd, z, pl, cnt) (xs (i + 1)) (xs (i + 2)) (xs (i + 3)) (xs (i + 4))).2) (st1 := [.int ((sp_work (rg, kd, z, pl, cnt) (xs (i + 1)) (xs (i + 2)) (xs (i + 3)) (xs (i + 4))).1)]) [.int (xs (i + 1)), .int (xs (i + 2)), .int (xs (i + 3)), .int (xs (i + 4))] [] ⟨hx, hb, hml, hown, hts⟩ hE hw (fun Fc hR => c_X5_work l G _ ad Fc rg kd z pl cnt hR hz (xs (i + 1)) (xs (i + 2)) (xs (i + 3)) (xs (i + 4))) (cwV 4 hts gL_law_X5_work rfl rfl rfl (by decide +kernel) ⟨Nat.le_of_ble_eq_true rfl, Nat.le_of_ble_eq_true rfl⟩) rfl hl.1 rfl (Nat.le_of_ble_eq_true rfl) dL_law_502 ⟨Nat.le_refl _, Nat.le_refl _⟩ rfl (fun H locs hw => ?_)
  refine lv_aload_n hx hb dL_law_505 rfl (lv_at hl 2 rfl) ?_
  refine lv_aload_n hx hb dL_law_506 rfl (lv_at hl 0 rfl) ?_
  refine lv_iload_n hx hb dL_law_507 rfl (lv_at hl 3 rfl) ?_
  refine lv_iconst (v := 1) hx hb dL_law_508 (by decide) ?_
  refine h_iaddN hx hb i 1 dL_law_509 ?_
  refine h_sld hx hb hX hbl hw.2.2.1 (i := i + 1) (by omega) hN dL_law_510 ?_
  refine lv_aload_n hx hb dL_law_511 rfl (lv_at hl 0 rfl) ?_
  refine lv_iload_n hx hb dL_law_512 rfl (lv_at hl 3 rfl) ?_
  refine lv_iconst (v := 2) hx hb dL_law_513 (by decide) ?_
  refine h_iaddN hx hb i 2 dL_law_514 ?_
  refine h_sld hx hb hX hbl hw.2.2.1 (i := i + 2) (by omega) hN dL_law_515 ?_
  refine lv_aload_n hx hb dL_law_516 rfl (lv_at hl 0 rfl) ?_
  refine lv_iload_n hx hb dL_law_517 rfl (lv_at hl 3 rfl) ?_
  refine lv_iconst (v := 3) hx hb dL_law_518 (by decide) ?_
  refine h_iaddN hx hb i 3 dL_law_519 ?_
  refine h_sld hx hb hX hbl hw.2.2.1 (i := i + 3) (by omega) hN dL_law_520 ?_
  refine lv_aload_n hx hb dL_law_521 rfl (lv_at hl 0 rfl) ?_
  refine lv_iload_n hx hb dL_law_522 rfl (lv_at hl 3 rfl) ?_
  refine lv_iconst (v := 4) hx hb dL_law_523 (by decide) ?_
  refine h_iaddN hx hb i 4 dL_law_524 ?_
  refine h_sld hx hb hX hbl hw.2.2.1 (i := i + 4) (by omega) hN dL_law_525 ?_
  refine h_lawM (S2 := (sp_work (rg, kd, z, pl, cnt) (xs (i + 1)) (xs (i + 2)) (xs (i + 3)) (xs (i + 4))).2) (st1 := [.int ((sp_work (rg, kd, z, pl, cnt) (xs (i + 1)) (xs (i + 2)) (xs (i + 3)) (xs (i + 4))).1), .int ((sp_work (rg, kd, z, pl, cnt) (xs (i + 1)) (xs (i + 2)) (xs (i + 3)) (xs (i + 4))).1)]) [.int (xs (i + 1)), .int (xs (i + 2)), .int (xs (i + 3)), .int (xs (i + 4))] [.int ((sp_work (rg, kd, z, pl, cnt) (xs (i + 1)) (xs (i + 2)) (xs (i + 3)) (xs (i + 4))).1)] ⟨hx, hb, hml, hown, hts⟩ hE hw (fun Fm hR => c_X6_work l G _ ma Fm rg kd z pl cnt hR hz hkd hc12 (xs (i + 1)) (xs (i + 2)) (xs (i + 3)) (xs (i + 4))) (cwV 4 hts gL_law_X6_work rfl rfl rfl (by decide +kernel) ⟨Nat.le_of_ble_eq_true rfl, Nat.le_of_ble_eq_true rfl⟩) rfl hl.1 rfl (Nat.le_of_ble_eq_true rfl) dL_law_526 ⟨Nat.le_refl _, Nat.le_refl _⟩ rfl (fun H locs hw => ?_)
  exact lv_icmp_eq (tgt := 1015) hx hb dL_law_529 (by decide) (fun _ => kk _ _ hw) (fun c9 => absurd rfl c9)

set_option maxHeartbeats 4000000 in
set_option maxRecDepth 100000 in
theorem law_8 {p : Program} {e : Env} {s : State} {m : MethodId} {below : List Frame} {meth : Method} {c : Code} (l : Launch) {b N : Nat} {xs : Nat → Int32} {G : GG} {ad ma : Nat → Nat} {ls : Array Slot} {H : Heap} {locs : List Loc} {Q : State → Prop} (hx : p.tables.exec = Jvm.exec) (hb : c.code = cL_law) (hml : c.maxLocals = 4) (hown : s.vm.findClass RL = some m.cls) (hts : ∀ w ∈ wsL_law, w.before #[Value.ref b] s = true) (hE : en G (fun q => s.heap.size ≤ q) s) (hX : va_X b N xs s s.heap) (hbl : b < s.heap.size) (hN : N ≤ 3072) {i : Nat} (hi : i + 6 ≤ N) {rg : Nat → Q4} {kd : Nat → Int32} {z : Nat → Nat} {pl : Nat → Nat → Int64} {cnt : Nat} (hinv : inv (rg, kd, z, pl, cnt)) (hw : LWS G s ad ma (rg, kd, z, pl, cnt) (rg, kd, z, pl, cnt) H locs) (hl : lv_has ls 4 [(0, .ref b), (1, .ref (ad 51)), (2, .ref (ma 0)), (3, .int (nI i))]) (kk : ∀ (H1 : Heap) (locs1 : List Loc), LWS G s ad ma (sp_unit (rg, kd, z, pl, cnt) (xs (i + 1)) (xs (i + 2)) (xs (i + 3)) (xs (i + 4))).2 (sp_unit (rg, kd, z, pl, cnt) (xs (i + 1)) (xs (i + 2)) (xs (i + 3)) (xs (i + 4))).2 H1 locs1 → W p l e room_1 s m #[Value.ref b] below meth c H1 locs1 600000 7302250 Q (F0 m 1015 ls [])) : W p l e room_1 s m #[Value.ref b] below meth c H locs 600000 7302250 Q (F0 m 534 ls []) := by
  obtain ⟨hz, hkd, hc12, hq, -⟩ := hinv
  refine lv_aload_n hx hb dL_law_534 rfl (lv_at hl 1 rfl) ?_
  refine lv_aload_n hx hb dL_law_535 rfl (lv_at hl 0 rfl) ?_
  refine lv_iload_n hx hb dL_law_536 rfl (lv_at hl 3 rfl) ?_
  refine lv_iconst (v := 1) hx hb dL_law_537 (by decide) ?_
  refine h_iaddN hx hb i 1 dL_law_538 ?_
  refine h_sld hx hb hX hbl hw.2.2.1 (i := i + 1) (by omega) hN dL_law_539 ?_
  refine lv_aload_n hx hb dL_law_540 rfl (lv_at hl 0 rfl) ?_
  refine lv_iload_n hx hb dL_law_541 rfl (lv_at hl 3 rfl) ?_
  refine lv_iconst (v := 2) hx hb dL_law_542 (by decide) ?_
  refine h_iaddN hx hb i 2 dL_law_543 ?_
  refine h_sld hx hb hX hbl hw.2.2.1 (i := i + 2) (by omega) hN dL_law_544 ?_
  refine lv_aload_n hx hb dL_law_545 rfl (lv_at hl 0 rfl) ?_
  refine lv_iload_n hx hb dL_law_546 rfl (lv_at hl 3 rfl) ?_
  refine lv_iconst (v := 3) hx hb dL_law_547 (by decide) ?_
  refine h_iaddN hx hb i 3 dL_law_548 ?_
  refine h_sld hx hb hX hbl hw.2.2.1 (i := i + 3) (by omega) hN dL_law_549 ?_
  refine lv_aload_n hx hb dL_law_550 rfl (lv_at hl 0 rfl) ?_
  refine lv_iload_n hx hb dL_law_551 rfl (lv_at hl 3 rfl) ?_
  refine lv_iconst (v := 4) hx hb dL_law_552 (by decide) ?_
  refine h_iaddN hx hb i 4 dL_law_553 ?_
  refine h_sld hx hb hX hbl hw.2.2.1 (i := i + 4) (by omega) hN dL_law_554 ?_
  refine h_lawC (S2 := (sp_unit (rg, kd, z, pl, cnt) (xs (i + 1)) (xs (i + 2)) (xs (i + 3)) (xs (i + 4))).2) (st1 := [.int ((sp_unit (rg, kd, z, pl, cnt) (xs (i + 1)) (xs (i + 2)) (xs (i + 3)) (xs (i + 4))).1)]) [.int (xs (i + 1)), .int (xs (i + 2)), .int (xs (i + 3)), .int (xs (i + 4))] [] ⟨hx, hb, hml, hown, hts⟩ hE hw (fun Fc hR => c_X5_unit l G _ ad Fc rg kd z pl cnt hR hz (xs (i + 1)) (xs (i + 2)) (xs (i + 3)) (xs (i + 4))) (cwV 4 hts gL_law_X5_unit rfl rfl rfl (by decide +kernel) ⟨Nat.le_of_ble_eq_true rfl, Nat.le_of_ble_eq_true rfl⟩) rfl hl.1 rfl (Nat.le_of_ble_eq_true rfl) dL_law_555 ⟨Nat.le_refl _, Nat.le_refl _⟩ rfl (fun H locs hw => ?_)
  refine lv_aload_n hx hb dL_law_558 rfl (lv_at hl 2 rfl) ?_
  refine lv_aload_n hx hb dL_law_559 rfl (lv_at hl 0 rfl) ?_
  refine lv_iload_n hx hb dL_law_560 rfl (lv_at hl 3 rfl) ?_
  refine lv_iconst (v := 1) hx hb dL_law_561 (by decide) ?_
  refine h_iaddN hx hb i 1 dL_law_562 ?_
  refine h_sld hx hb hX hbl hw.2.2.1 (i := i + 1) (by omega) hN dL_law_563 ?_
  refine lv_aload_n hx hb dL_law_564 rfl (lv_at hl 0 rfl) ?_
  refine lv_iload_n hx hb dL_law_565 rfl (lv_at hl 3 rfl) ?_
  refine lv_iconst (v := 2) hx hb dL_law_566 (by decide) ?_
  refine h_iaddN hx hb i 2 dL_law_567 ?_
  refine h_sld hx hb hX hbl hw.2.2.1 (i := i + 2) (by omega) hN dL_law_568 ?_
  refine lv_aload_n hx hb dL_law_569 rfl (lv_at hl 0 rfl) ?_
  refine lv_iload_n hx hb dL_law_570 rfl (lv_at hl 3 rfl) ?_
  refine lv_iconst (v := 3) hx hb dL_law_571 (by decide) ?_
  refine h_iaddN hx hb i 3 dL_law_572 ?_
  refine h_sld hx hb hX hbl hw.2.2.1 (i := i + 3) (by omega) hN dL_law_573 ?_
  refine lv_aload_n hx hb dL_law_574 rfl (lv_at hl 0 rfl) ?_
  refine lv_iload_n hx hb dL_law_575 rfl (lv_at hl 3 rfl) ?_
  refine lv_iconst (v := 4) hx hb dL_law_576 (by decide) ?_
  refine h_iaddN hx hb i 4 dL_law_577 ?_
  refine h_sld hx hb hX hbl hw.2.2.1 (i := i + 4) (by omega) hN dL_law_578 ?_
  refine h_lawM (S2 := (sp_unit (rg, kd, z, pl, cnt) (xs (i + 1)) (xs (i + 2)) (xs (i + 3)) (xs (i + 4))).2) (st1 := [.int ((sp_unit (rg, kd, z, pl, cnt) (xs (i + 1)) (xs (i + 2)) (xs (i + 3)) (xs (i + 4))).1), .int ((sp_unit (rg, kd, z, pl, cnt) (xs (i + 1)) (xs (i + 2)) (xs (i + 3)) (xs (i + 4))).1)]) [.int (xs (i + 1)), .int (xs (i + 2)), .int (xs (i + 3)), .int (xs (i + 4))] [.int ((sp_unit (rg, kd, z, pl, cnt) (xs (i + 1)) (xs (i + 2)) (xs (i + 3)) (xs (i + 4))).1)] ⟨hx, hb, hml, hown, hts⟩ hE hw (fun Fm hR => c_X6_unit l G _ ma Fm rg kd z pl cnt hR hz hkd hc12 (xs (i + 1)) (xs (i + 2)) (xs (i + 3)) (xs (i + 4))) (cwV 4 hts gL_law_X6_unit rfl rfl rfl (by decide +kernel) ⟨Nat.le_of_ble_eq_true rfl, Nat.le_of_ble_eq_true rfl⟩) rfl hl.1 rfl (Nat.le_of_ble_eq_true rfl) dL_law_579 ⟨Nat.le_refl _, Nat.le_refl _⟩ rfl (fun H locs hw => ?_)
  exact lv_icmp_eq (tgt := 1015) hx hb dL_law_582 (by decide) (fun _ => kk _ _ hw) (fun c9 => absurd rfl c9)

set_option maxHeartbeats 4000000 in
set_option maxRecDepth 100000 in
theorem law_9 {p : Program} {e : Env} {s : State} {m : MethodId} {below : List Frame} {meth : Method} {c : Code} (l : Launch) {b N : Nat} {xs : Nat → Int32} {G : GG} {ad ma : Nat → Nat} {ls : Array Slot} {H : Heap} {locs : List Loc} {Q : State → Prop} (hx : p.tables.exec = Jvm.exec) (hb : c.code = cL_law) (hml : c.maxLocals = 4) (hown : s.vm.findClass RL = some m.cls) (hts : ∀ w ∈ wsL_law, w.before #[Value.ref b] s = true) (hE : en G (fun q => s.heap.size ≤ q) s) (hX : va_X b N xs s s.heap) (hbl : b < s.heap.size) (hN : N ≤ 3072) {i : Nat} (hi : i + 6 ≤ N) {rg : Nat → Q4} {kd : Nat → Int32} {z : Nat → Nat} {pl : Nat → Nat → Int64} {cnt : Nat} (hinv : inv (rg, kd, z, pl, cnt)) (hw : LWS G s ad ma (rg, kd, z, pl, cnt) (rg, kd, z, pl, cnt) H locs) (hl : lv_has ls 4 [(0, .ref b), (1, .ref (ad 51)), (2, .ref (ma 0)), (3, .int (nI i))]) (kk : ∀ (H1 : Heap) (locs1 : List Loc), LWS G s ad ma (sp_divide (rg, kd, z, pl, cnt) (xs (i + 1)) (xs (i + 2)) (xs (i + 3)) (xs (i + 4)) (xs (i + 5))).2 (sp_divide (rg, kd, z, pl, cnt) (xs (i + 1)) (xs (i + 2)) (xs (i + 3)) (xs (i + 4)) (xs (i + 5))).2 H1 locs1 → W p l e room_1 s m #[Value.ref b] below meth c H1 locs1 600000 7302250 Q (F0 m 1015 ls [])) : W p l e room_1 s m #[Value.ref b] below meth c H locs 600000 7302250 Q (F0 m 587 ls []) := by
  obtain ⟨hz, hkd, hc12, hq, -⟩ := hinv
  refine lv_aload_n hx hb dL_law_587 rfl (lv_at hl 1 rfl) ?_
  refine lv_aload_n hx hb dL_law_588 rfl (lv_at hl 0 rfl) ?_
  refine lv_iload_n hx hb dL_law_589 rfl (lv_at hl 3 rfl) ?_
  refine lv_iconst (v := 1) hx hb dL_law_590 (by decide) ?_
  refine h_iaddN hx hb i 1 dL_law_591 ?_
  refine h_sld hx hb hX hbl hw.2.2.1 (i := i + 1) (by omega) hN dL_law_592 ?_
  refine lv_aload_n hx hb dL_law_593 rfl (lv_at hl 0 rfl) ?_
  refine lv_iload_n hx hb dL_law_594 rfl (lv_at hl 3 rfl) ?_
  refine lv_iconst (v := 2) hx hb dL_law_595 (by decide) ?_
  refine h_iaddN hx hb i 2 dL_law_596 ?_
  refine h_sld hx hb hX hbl hw.2.2.1 (i := i + 2) (by omega) hN dL_law_597 ?_
  refine lv_aload_n hx hb dL_law_598 rfl (lv_at hl 0 rfl) ?_
  refine lv_iload_n hx hb dL_law_599 rfl (lv_at hl 3 rfl) ?_
  refine lv_iconst (v := 3) hx hb dL_law_600 (by decide) ?_
  refine h_iaddN hx hb i 3 dL_law_601 ?_
  refine h_sld hx hb hX hbl hw.2.2.1 (i := i + 3) (by omega) hN dL_law_602 ?_
  refine lv_aload_n hx hb dL_law_603 rfl (lv_at hl 0 rfl) ?_
  refine lv_iload_n hx hb dL_law_604 rfl (lv_at hl 3 rfl) ?_
  refine lv_iconst (v := 4) hx hb dL_law_605 (by decide) ?_
  refine h_iaddN hx hb i 4 dL_law_606 ?_
  refine h_sld hx hb hX hbl hw.2.2.1 (i := i + 4) (by omega) hN dL_law_607 ?_
  refine lv_aload_n hx hb dL_law_608 rfl (lv_at hl 0 rfl) ?_
  refine lv_iload_n hx hb dL_law_609 rfl (lv_at hl 3 rfl) ?_
  refine lv_iconst (v := 5) hx hb dL_law_610 (by decide) ?_
  refine h_iaddN hx hb i 5 dL_law_611 ?_
  refine h_sld hx hb hX hbl hw.2.2.1 (i := i + 5) (by omega) hN dL_law_612 ?_
  refine h_lawC (S2 := (sp_divide (rg, kd, z, pl, cnt) (xs (i + 1)) (xs (i + 2)) (xs (i + 3)) (xs (i + 4)) (xs (i + 5))).2) (st1 := [.int ((sp_divide (rg, kd, z, pl, cnt) (xs (i + 1)) (xs (i + 2)) (xs (i + 3)) (xs (i + 4)) (xs (i + 5))).1)]) [.int (xs (i + 1)), .int (xs (i + 2)), .int (xs (i + 3)), .int (xs (i + 4)), .int (xs (i + 5))] [] ⟨hx, hb, hml, hown, hts⟩ hE hw (fun Fc hR => c_X5_divide l G _ ad Fc rg kd z pl cnt hR hz hc12 (xs (i + 1)) (xs (i + 2)) (xs (i + 3)) (xs (i + 4)) (xs (i + 5))) (cwV 5 hts gL_law_X5_divide rfl rfl rfl (by decide +kernel) ⟨Nat.le_of_ble_eq_true rfl, Nat.le_of_ble_eq_true rfl⟩) rfl hl.1 rfl (Nat.le_of_ble_eq_true rfl) dL_law_613 ⟨Nat.le_refl _, Nat.le_refl _⟩ rfl (fun H locs hw => ?_)
  refine lv_aload_n hx hb dL_law_616 rfl (lv_at hl 2 rfl) ?_
  refine lv_aload_n hx hb dL_law_617 rfl (lv_at hl 0 rfl) ?_
  refine lv_iload_n hx hb dL_law_618 rfl (lv_at hl 3 rfl) ?_
  refine lv_iconst (v := 1) hx hb dL_law_619 (by decide) ?_
  refine h_iaddN hx hb i 1 dL_law_620 ?_
  refine h_sld hx hb hX hbl hw.2.2.1 (i := i + 1) (by omega) hN dL_law_621 ?_
  refine lv_aload_n hx hb dL_law_622 rfl (lv_at hl 0 rfl) ?_
  refine lv_iload_n hx hb dL_law_623 rfl (lv_at hl 3 rfl) ?_
  refine lv_iconst (v := 2) hx hb dL_law_624 (by decide) ?_
  refine h_iaddN hx hb i 2 dL_law_625 ?_
  refine h_sld hx hb hX hbl hw.2.2.1 (i := i + 2) (by omega) hN dL_law_626 ?_
  refine lv_aload_n hx hb dL_law_627 rfl (lv_at hl 0 rfl) ?_
  refine lv_iload_n hx hb dL_law_628 rfl (lv_at hl 3 rfl) ?_
  refine lv_iconst (v := 3) hx hb dL_law_629 (by decide) ?_
  refine h_iaddN hx hb i 3 dL_law_630 ?_
  refine h_sld hx hb hX hbl hw.2.2.1 (i := i + 3) (by omega) hN dL_law_631 ?_
  refine lv_aload_n hx hb dL_law_632 rfl (lv_at hl 0 rfl) ?_
  refine lv_iload_n hx hb dL_law_633 rfl (lv_at hl 3 rfl) ?_
  refine lv_iconst (v := 4) hx hb dL_law_634 (by decide) ?_
  refine h_iaddN hx hb i 4 dL_law_635 ?_
  refine h_sld hx hb hX hbl hw.2.2.1 (i := i + 4) (by omega) hN dL_law_636 ?_
  refine lv_aload_n hx hb dL_law_637 rfl (lv_at hl 0 rfl) ?_
  refine lv_iload_n hx hb dL_law_638 rfl (lv_at hl 3 rfl) ?_
  refine lv_iconst (v := 5) hx hb dL_law_639 (by decide) ?_
  refine h_iaddN hx hb i 5 dL_law_640 ?_
  refine h_sld hx hb hX hbl hw.2.2.1 (i := i + 5) (by omega) hN dL_law_641 ?_
  refine h_lawM (S2 := (sp_divide (rg, kd, z, pl, cnt) (xs (i + 1)) (xs (i + 2)) (xs (i + 3)) (xs (i + 4)) (xs (i + 5))).2) (st1 := [.int ((sp_divide (rg, kd, z, pl, cnt) (xs (i + 1)) (xs (i + 2)) (xs (i + 3)) (xs (i + 4)) (xs (i + 5))).1), .int ((sp_divide (rg, kd, z, pl, cnt) (xs (i + 1)) (xs (i + 2)) (xs (i + 3)) (xs (i + 4)) (xs (i + 5))).1)]) [.int (xs (i + 1)), .int (xs (i + 2)), .int (xs (i + 3)), .int (xs (i + 4)), .int (xs (i + 5))] [.int ((sp_divide (rg, kd, z, pl, cnt) (xs (i + 1)) (xs (i + 2)) (xs (i + 3)) (xs (i + 4)) (xs (i + 5))).1)] ⟨hx, hb, hml, hown, hts⟩ hE hw (fun Fm hR => c_X6_divide l G _ ma Fm rg kd z pl cnt hR hz hkd hc12 hq (xs (i + 1)) (xs (i + 2)) (xs (i + 3)) (xs (i + 4)) (xs (i + 5))) (cwV 5 hts gL_law_X6_divide rfl rfl rfl (by decide +kernel) ⟨Nat.le_of_ble_eq_true rfl, Nat.le_of_ble_eq_true rfl⟩) rfl hl.1 rfl (Nat.le_of_ble_eq_true rfl) dL_law_642 ⟨Nat.le_refl _, Nat.le_refl _⟩ rfl (fun H locs hw => ?_)
  exact lv_icmp_eq (tgt := 1015) hx hb dL_law_645 (by decide) (fun _ => kk _ _ hw) (fun c9 => absurd rfl c9)

set_option maxHeartbeats 4000000 in
set_option maxRecDepth 100000 in
theorem law_10 {p : Program} {e : Env} {s : State} {m : MethodId} {below : List Frame} {meth : Method} {c : Code} (l : Launch) {b N : Nat} {xs : Nat → Int32} {G : GG} {ad ma : Nat → Nat} {ls : Array Slot} {H : Heap} {locs : List Loc} {Q : State → Prop} (hx : p.tables.exec = Jvm.exec) (hb : c.code = cL_law) (hml : c.maxLocals = 4) (hown : s.vm.findClass RL = some m.cls) (hts : ∀ w ∈ wsL_law, w.before #[Value.ref b] s = true) (hE : en G (fun q => s.heap.size ≤ q) s) (hX : va_X b N xs s s.heap) (hbl : b < s.heap.size) (hN : N ≤ 3072) {i : Nat} (hi : i + 6 ≤ N) {rg : Nat → Q4} {kd : Nat → Int32} {z : Nat → Nat} {pl : Nat → Nat → Int64} {cnt : Nat} (hinv : inv (rg, kd, z, pl, cnt)) (hw : LWS G s ad ma (rg, kd, z, pl, cnt) (rg, kd, z, pl, cnt) H locs) (hl : lv_has ls 4 [(0, .ref b), (1, .ref (ad 51)), (2, .ref (ma 0)), (3, .int (nI i))]) (kk : ∀ (H1 : Heap) (locs1 : List Loc), LWS G s ad ma (sp_divisor (rg, kd, z, pl, cnt) (xs (i + 1)) (xs (i + 2)) (xs (i + 3)) (xs (i + 4))).2 (sp_divisor (rg, kd, z, pl, cnt) (xs (i + 1)) (xs (i + 2)) (xs (i + 3)) (xs (i + 4))).2 H1 locs1 → W p l e room_1 s m #[Value.ref b] below meth c H1 locs1 600000 7302250 Q (F0 m 1015 ls [])) : W p l e room_1 s m #[Value.ref b] below meth c H locs 600000 7302250 Q (F0 m 650 ls []) := by
  obtain ⟨hz, hkd, hc12, hq, -⟩ := hinv
  refine lv_aload_n hx hb dL_law_650 rfl (lv_at hl 1 rfl) ?_
  refine lv_aload_n hx hb dL_law_651 rfl (lv_at hl 0 rfl) ?_
  refine lv_iload_n hx hb dL_law_652 rfl (lv_at hl 3 rfl) ?_
  refine lv_iconst (v := 1) hx hb dL_law_653 (by decide) ?_
  refine h_iaddN hx hb i 1 dL_law_654 ?_
  refine h_sld hx hb hX hbl hw.2.2.1 (i := i + 1) (by omega) hN dL_law_655 ?_
  refine lv_aload_n hx hb dL_law_656 rfl (lv_at hl 0 rfl) ?_
  refine lv_iload_n hx hb dL_law_657 rfl (lv_at hl 3 rfl) ?_
  refine lv_iconst (v := 2) hx hb dL_law_658 (by decide) ?_
  refine h_iaddN hx hb i 2 dL_law_659 ?_
  refine h_sld hx hb hX hbl hw.2.2.1 (i := i + 2) (by omega) hN dL_law_660 ?_
  refine lv_aload_n hx hb dL_law_661 rfl (lv_at hl 0 rfl) ?_
  refine lv_iload_n hx hb dL_law_662 rfl (lv_at hl 3 rfl) ?_
  refine lv_iconst (v := 3) hx hb dL_law_663 (by decide) ?_
  refine h_iaddN hx hb i 3 dL_law_664 ?_
  refine h_sld hx hb hX hbl hw.2.2.1 (i := i + 3) (by omega) hN dL_law_665 ?_
  refine lv_aload_n hx hb dL_law_666 rfl (lv_at hl 0 rfl) ?_
  refine lv_iload_n hx hb dL_law_667 rfl (lv_at hl 3 rfl) ?_
  refine lv_iconst (v := 4) hx hb dL_law_668 (by decide) ?_
  refine h_iaddN hx hb i 4 dL_law_669 ?_
  refine h_sld hx hb hX hbl hw.2.2.1 (i := i + 4) (by omega) hN dL_law_670 ?_
  refine h_lawC (S2 := (sp_divisor (rg, kd, z, pl, cnt) (xs (i + 1)) (xs (i + 2)) (xs (i + 3)) (xs (i + 4))).2) (st1 := [.int ((sp_divisor (rg, kd, z, pl, cnt) (xs (i + 1)) (xs (i + 2)) (xs (i + 3)) (xs (i + 4))).1)]) [.int (xs (i + 1)), .int (xs (i + 2)), .int (xs (i + 3)), .int (xs (i + 4))] [] ⟨hx, hb, hml, hown, hts⟩ hE hw (fun Fc hR => c_X5_divisor l G _ ad Fc rg kd z pl cnt hR hz hc12 (xs (i + 1)) (xs (i + 2)) (xs (i + 3)) (xs (i + 4))) (cwV 4 hts gL_law_X5_divisor rfl rfl rfl (by decide +kernel) ⟨Nat.le_of_ble_eq_true rfl, Nat.le_of_ble_eq_true rfl⟩) rfl hl.1 rfl (Nat.le_of_ble_eq_true rfl) dL_law_671 ⟨Nat.le_refl _, Nat.le_refl _⟩ rfl (fun H locs hw => ?_)
  refine lv_aload_n hx hb dL_law_674 rfl (lv_at hl 2 rfl) ?_
  refine lv_aload_n hx hb dL_law_675 rfl (lv_at hl 0 rfl) ?_
  refine lv_iload_n hx hb dL_law_676 rfl (lv_at hl 3 rfl) ?_
  refine lv_iconst (v := 1) hx hb dL_law_677 (by decide) ?_
  refine h_iaddN hx hb i 1 dL_law_678 ?_
  refine h_sld hx hb hX hbl hw.2.2.1 (i := i + 1) (by omega) hN dL_law_679 ?_
  refine lv_aload_n hx hb dL_law_680 rfl (lv_at hl 0 rfl) ?_
  refine lv_iload_n hx hb dL_law_681 rfl (lv_at hl 3 rfl) ?_
  refine lv_iconst (v := 2) hx hb dL_law_682 (by decide) ?_
  refine h_iaddN hx hb i 2 dL_law_683 ?_
  refine h_sld hx hb hX hbl hw.2.2.1 (i := i + 2) (by omega) hN dL_law_684 ?_
  refine lv_aload_n hx hb dL_law_685 rfl (lv_at hl 0 rfl) ?_
  refine lv_iload_n hx hb dL_law_686 rfl (lv_at hl 3 rfl) ?_
  refine lv_iconst (v := 3) hx hb dL_law_687 (by decide) ?_
  refine h_iaddN hx hb i 3 dL_law_688 ?_
  refine h_sld hx hb hX hbl hw.2.2.1 (i := i + 3) (by omega) hN dL_law_689 ?_
  refine lv_aload_n hx hb dL_law_690 rfl (lv_at hl 0 rfl) ?_
  refine lv_iload_n hx hb dL_law_691 rfl (lv_at hl 3 rfl) ?_
  refine lv_iconst (v := 4) hx hb dL_law_692 (by decide) ?_
  refine h_iaddN hx hb i 4 dL_law_693 ?_
  refine h_sld hx hb hX hbl hw.2.2.1 (i := i + 4) (by omega) hN dL_law_694 ?_
  refine h_lawM (S2 := (sp_divisor (rg, kd, z, pl, cnt) (xs (i + 1)) (xs (i + 2)) (xs (i + 3)) (xs (i + 4))).2) (st1 := [.int ((sp_divisor (rg, kd, z, pl, cnt) (xs (i + 1)) (xs (i + 2)) (xs (i + 3)) (xs (i + 4))).1), .int ((sp_divisor (rg, kd, z, pl, cnt) (xs (i + 1)) (xs (i + 2)) (xs (i + 3)) (xs (i + 4))).1)]) [.int (xs (i + 1)), .int (xs (i + 2)), .int (xs (i + 3)), .int (xs (i + 4))] [.int ((sp_divisor (rg, kd, z, pl, cnt) (xs (i + 1)) (xs (i + 2)) (xs (i + 3)) (xs (i + 4))).1)] ⟨hx, hb, hml, hown, hts⟩ hE hw (fun Fm hR => c_X6_divisor l G _ ma Fm rg kd z pl cnt hR hz hkd hc12 hq (xs (i + 1)) (xs (i + 2)) (xs (i + 3)) (xs (i + 4))) (cwV 4 hts gL_law_X6_divisor rfl rfl rfl (by decide +kernel) ⟨Nat.le_of_ble_eq_true rfl, Nat.le_of_ble_eq_true rfl⟩) rfl hl.1 rfl (Nat.le_of_ble_eq_true rfl) dL_law_695 ⟨Nat.le_refl _, Nat.le_refl _⟩ rfl (fun H locs hw => ?_)
  exact lv_icmp_eq (tgt := 1015) hx hb dL_law_698 (by decide) (fun _ => kk _ _ hw) (fun c9 => absurd rfl c9)

set_option maxHeartbeats 4000000 in
set_option maxRecDepth 100000 in
theorem law_11 {p : Program} {e : Env} {s : State} {m : MethodId} {below : List Frame} {meth : Method} {c : Code} (l : Launch) {b N : Nat} {xs : Nat → Int32} {G : GG} {ad ma : Nat → Nat} {ls : Array Slot} {H : Heap} {locs : List Loc} {Q : State → Prop} (hx : p.tables.exec = Jvm.exec) (hb : c.code = cL_law) (hml : c.maxLocals = 4) (hown : s.vm.findClass RL = some m.cls) (hts : ∀ w ∈ wsL_law, w.before #[Value.ref b] s = true) (hE : en G (fun q => s.heap.size ≤ q) s) (hX : va_X b N xs s s.heap) (hbl : b < s.heap.size) (hN : N ≤ 3072) {i : Nat} (hi : i + 6 ≤ N) {rg : Nat → Q4} {kd : Nat → Int32} {z : Nat → Nat} {pl : Nat → Nat → Int64} {cnt : Nat} (hinv : inv (rg, kd, z, pl, cnt)) (hw : LWS G s ad ma (rg, kd, z, pl, cnt) (rg, kd, z, pl, cnt) H locs) (hl : lv_has ls 4 [(0, .ref b), (1, .ref (ad 51)), (2, .ref (ma 0)), (3, .int (nI i))]) (kk : ∀ (H1 : Heap) (locs1 : List Loc), LWS G s ad ma (sp_like (rg, kd, z, pl, cnt) (xs (i + 1)) (xs (i + 2)) (xs (i + 3))).2 (sp_like (rg, kd, z, pl, cnt) (xs (i + 1)) (xs (i + 2)) (xs (i + 3))).2 H1 locs1 → W p l e room_1 s m #[Value.ref b] below meth c H1 locs1 600000 7302250 Q (F0 m 1015 ls [])) : W p l e room_1 s m #[Value.ref b] below meth c H locs 600000 7302250 Q (F0 m 703 ls []) := by
  obtain ⟨hz, hkd, hc12, hq, -⟩ := hinv
  refine lv_aload_n hx hb dL_law_703 rfl (lv_at hl 1 rfl) ?_
  refine lv_aload_n hx hb dL_law_704 rfl (lv_at hl 0 rfl) ?_
  refine lv_iload_n hx hb dL_law_705 rfl (lv_at hl 3 rfl) ?_
  refine lv_iconst (v := 1) hx hb dL_law_706 (by decide) ?_
  refine h_iaddN hx hb i 1 dL_law_707 ?_
  refine h_sld hx hb hX hbl hw.2.2.1 (i := i + 1) (by omega) hN dL_law_708 ?_
  refine lv_aload_n hx hb dL_law_709 rfl (lv_at hl 0 rfl) ?_
  refine lv_iload_n hx hb dL_law_710 rfl (lv_at hl 3 rfl) ?_
  refine lv_iconst (v := 2) hx hb dL_law_711 (by decide) ?_
  refine h_iaddN hx hb i 2 dL_law_712 ?_
  refine h_sld hx hb hX hbl hw.2.2.1 (i := i + 2) (by omega) hN dL_law_713 ?_
  refine lv_aload_n hx hb dL_law_714 rfl (lv_at hl 0 rfl) ?_
  refine lv_iload_n hx hb dL_law_715 rfl (lv_at hl 3 rfl) ?_
  refine lv_iconst (v := 3) hx hb dL_law_716 (by decide) ?_
  refine h_iaddN hx hb i 3 dL_law_717 ?_
  refine h_sld hx hb hX hbl hw.2.2.1 (i := i + 3) (by omega) hN dL_law_718 ?_
  refine h_lawC (S2 := (sp_like (rg, kd, z, pl, cnt) (xs (i + 1)) (xs (i + 2)) (xs (i + 3))).2) (st1 := [.int ((sp_like (rg, kd, z, pl, cnt) (xs (i + 1)) (xs (i + 2)) (xs (i + 3))).1)]) [.int (xs (i + 1)), .int (xs (i + 2)), .int (xs (i + 3))] [] ⟨hx, hb, hml, hown, hts⟩ hE hw (fun Fc hR => c_X5_like l G _ ad Fc rg kd z pl cnt hR hz hc12 (xs (i + 1)) (xs (i + 2)) (xs (i + 3))) (cwV 3 hts gL_law_X5_like rfl rfl rfl (by decide +kernel) ⟨Nat.le_of_ble_eq_true rfl, Nat.le_of_ble_eq_true rfl⟩) rfl hl.1 rfl (Nat.le_of_ble_eq_true rfl) dL_law_719 ⟨Nat.le_refl _, Nat.le_refl _⟩ rfl (fun H locs hw => ?_)
  refine lv_aload_n hx hb dL_law_722 rfl (lv_at hl 2 rfl) ?_
  refine lv_aload_n hx hb dL_law_723 rfl (lv_at hl 0 rfl) ?_
  refine lv_iload_n hx hb dL_law_724 rfl (lv_at hl 3 rfl) ?_
  refine lv_iconst (v := 1) hx hb dL_law_725 (by decide) ?_
  refine h_iaddN hx hb i 1 dL_law_726 ?_
  refine h_sld hx hb hX hbl hw.2.2.1 (i := i + 1) (by omega) hN dL_law_727 ?_
  refine lv_aload_n hx hb dL_law_728 rfl (lv_at hl 0 rfl) ?_
  refine lv_iload_n hx hb dL_law_729 rfl (lv_at hl 3 rfl) ?_
  refine lv_iconst (v := 2) hx hb dL_law_730 (by decide) ?_
  refine h_iaddN hx hb i 2 dL_law_731 ?_
  refine h_sld hx hb hX hbl hw.2.2.1 (i := i + 2) (by omega) hN dL_law_732 ?_
  refine lv_aload_n hx hb dL_law_733 rfl (lv_at hl 0 rfl) ?_
  refine lv_iload_n hx hb dL_law_734 rfl (lv_at hl 3 rfl) ?_
  refine lv_iconst (v := 3) hx hb dL_law_735 (by decide) ?_
  refine h_iaddN hx hb i 3 dL_law_736 ?_
  refine h_sld hx hb hX hbl hw.2.2.1 (i := i + 3) (by omega) hN dL_law_737 ?_
  refine h_lawM (S2 := (sp_like (rg, kd, z, pl, cnt) (xs (i + 1)) (xs (i + 2)) (xs (i + 3))).2) (st1 := [.int ((sp_like (rg, kd, z, pl, cnt) (xs (i + 1)) (xs (i + 2)) (xs (i + 3))).1), .int ((sp_like (rg, kd, z, pl, cnt) (xs (i + 1)) (xs (i + 2)) (xs (i + 3))).1)]) [.int (xs (i + 1)), .int (xs (i + 2)), .int (xs (i + 3))] [.int ((sp_like (rg, kd, z, pl, cnt) (xs (i + 1)) (xs (i + 2)) (xs (i + 3))).1)] ⟨hx, hb, hml, hown, hts⟩ hE hw (fun Fm hR => c_X6_like l G _ ma Fm rg kd z pl cnt hR hz hkd hc12 (xs (i + 1)) (xs (i + 2)) (xs (i + 3))) (cwV 3 hts gL_law_X6_like rfl rfl rfl (by decide +kernel) ⟨Nat.le_of_ble_eq_true rfl, Nat.le_of_ble_eq_true rfl⟩) rfl hl.1 rfl (Nat.le_of_ble_eq_true rfl) dL_law_738 ⟨Nat.le_refl _, Nat.le_refl _⟩ rfl (fun H locs hw => ?_)
  exact lv_icmp_eq (tgt := 1015) hx hb dL_law_741 (by decide) (fun _ => kk _ _ hw) (fun c9 => absurd rfl c9)

set_option maxHeartbeats 4000000 in
set_option maxRecDepth 100000 in
theorem law_12 {p : Program} {e : Env} {s : State} {m : MethodId} {below : List Frame} {meth : Method} {c : Code} (l : Launch) {b N : Nat} {xs : Nat → Int32} {G : GG} {ad ma : Nat → Nat} {ls : Array Slot} {H : Heap} {locs : List Loc} {Q : State → Prop} (hx : p.tables.exec = Jvm.exec) (hb : c.code = cL_law) (hml : c.maxLocals = 4) (hown : s.vm.findClass RL = some m.cls) (hts : ∀ w ∈ wsL_law, w.before #[Value.ref b] s = true) (hE : en G (fun q => s.heap.size ≤ q) s) (hX : va_X b N xs s s.heap) (hbl : b < s.heap.size) (hN : N ≤ 3072) {i : Nat} (hi : i + 6 ≤ N) {rg : Nat → Q4} {kd : Nat → Int32} {z : Nat → Nat} {pl : Nat → Nat → Int64} {cnt : Nat} (hinv : inv (rg, kd, z, pl, cnt)) (hw : LWS G s ad ma (rg, kd, z, pl, cnt) (rg, kd, z, pl, cnt) H locs) (hl : lv_has ls 4 [(0, .ref b), (1, .ref (ad 51)), (2, .ref (ma 0)), (3, .int (nI i))]) (kk : ∀ (H1 : Heap) (locs1 : List Loc), LWS G s ad ma (sp_way (rg, kd, z, pl, cnt) (xs (i + 1)) (xs (i + 2)) (xs (i + 3)) (xs (i + 4))).2 (sp_way (rg, kd, z, pl, cnt) (xs (i + 1)) (xs (i + 2)) (xs (i + 3)) (xs (i + 4))).2 H1 locs1 → W p l e room_1 s m #[Value.ref b] below meth c H1 locs1 600000 7302250 Q (F0 m 1015 ls [])) : W p l e room_1 s m #[Value.ref b] below meth c H locs 600000 7302250 Q (F0 m 746 ls []) := by
  obtain ⟨hz, hkd, hc12, hq, -⟩ := hinv
  refine lv_aload_n hx hb dL_law_746 rfl (lv_at hl 1 rfl) ?_
  refine lv_aload_n hx hb dL_law_747 rfl (lv_at hl 0 rfl) ?_
  refine lv_iload_n hx hb dL_law_748 rfl (lv_at hl 3 rfl) ?_
  refine lv_iconst (v := 1) hx hb dL_law_749 (by decide) ?_
  refine h_iaddN hx hb i 1 dL_law_750 ?_
  refine h_sld hx hb hX hbl hw.2.2.1 (i := i + 1) (by omega) hN dL_law_751 ?_
  refine lv_aload_n hx hb dL_law_752 rfl (lv_at hl 0 rfl) ?_
  refine lv_iload_n hx hb dL_law_753 rfl (lv_at hl 3 rfl) ?_
  refine lv_iconst (v := 2) hx hb dL_law_754 (by decide) ?_
  refine h_iaddN hx hb i 2 dL_law_755 ?_
  refine h_sld hx hb hX hbl hw.2.2.1 (i := i + 2) (by omega) hN dL_law_756 ?_
  refine lv_aload_n hx hb dL_law_757 rfl (lv_at hl 0 rfl) ?_
  refine lv_iload_n hx hb dL_law_758 rfl (lv_at hl 3 rfl) ?_
  refine lv_iconst (v := 3) hx hb dL_law_759 (by decide) ?_
  refine h_iaddN hx hb i 3 dL_law_760 ?_
  refine h_sld hx hb hX hbl hw.2.2.1 (i := i + 3) (by omega) hN dL_law_761 ?_
  refine lv_aload_n hx hb dL_law_762 rfl (lv_at hl 0 rfl) ?_
  refine lv_iload_n hx hb dL_law_763 rfl (lv_at hl 3 rfl) ?_
  refine lv_iconst (v := 4) hx hb dL_law_764 (by decide) ?_
  refine h_iaddN hx hb i 4 dL_law_765 ?_
  refine h_sld hx hb hX hbl hw.2.2.1 (i := i + 4) (by omega) hN dL_law_766 ?_
  refine h_lawC (S2 := (sp_way (rg, kd, z, pl, cnt) (xs (i + 1)) (xs (i + 2)) (xs (i + 3)) (xs (i + 4))).2) (st1 := [.int ((sp_way (rg, kd, z, pl, cnt) (xs (i + 1)) (xs (i + 2)) (xs (i + 3)) (xs (i + 4))).1)]) [.int (xs (i + 1)), .int (xs (i + 2)), .int (xs (i + 3)), .int (xs (i + 4))] [] ⟨hx, hb, hml, hown, hts⟩ hE hw (fun Fc hR => c_X5_way l G _ ad Fc rg kd z pl cnt hR hz hc12 (fun ks kr o n h1 h2 h3 h4 h5 hp ha k hk => (wf_ok (wok_of (hq ks h1) hp ha) (show k < n by omega)).2.1) (xs (i + 1)) (xs (i + 2)) (xs (i + 3)) (xs (i + 4))) (cwV 4 hts gL_law_X5_way rfl rfl rfl (by decide +kernel) ⟨Nat.le_of_ble_eq_true rfl, Nat.le_of_ble_eq_true rfl⟩) rfl hl.1 rfl (Nat.le_of_ble_eq_true rfl) dL_law_767 ⟨Nat.le_refl _, Nat.le_refl _⟩ rfl (fun H locs hw => ?_)
  refine lv_aload_n hx hb dL_law_770 rfl (lv_at hl 2 rfl) ?_
  refine lv_aload_n hx hb dL_law_771 rfl (lv_at hl 0 rfl) ?_
  refine lv_iload_n hx hb dL_law_772 rfl (lv_at hl 3 rfl) ?_
  refine lv_iconst (v := 1) hx hb dL_law_773 (by decide) ?_
  refine h_iaddN hx hb i 1 dL_law_774 ?_
  refine h_sld hx hb hX hbl hw.2.2.1 (i := i + 1) (by omega) hN dL_law_775 ?_
  refine lv_aload_n hx hb dL_law_776 rfl (lv_at hl 0 rfl) ?_
  refine lv_iload_n hx hb dL_law_777 rfl (lv_at hl 3 rfl) ?_
  refine lv_iconst (v := 2) hx hb dL_law_778 (by decide) ?_
  refine h_iaddN hx hb i 2 dL_law_779 ?_
  refine h_sld hx hb hX hbl hw.2.2.1 (i := i + 2) (by omega) hN dL_law_780 ?_
  refine lv_aload_n hx hb dL_law_781 rfl (lv_at hl 0 rfl) ?_
  refine lv_iload_n hx hb dL_law_782 rfl (lv_at hl 3 rfl) ?_
  refine lv_iconst (v := 3) hx hb dL_law_783 (by decide) ?_
  refine h_iaddN hx hb i 3 dL_law_784 ?_
  refine h_sld hx hb hX hbl hw.2.2.1 (i := i + 3) (by omega) hN dL_law_785 ?_
  refine lv_aload_n hx hb dL_law_786 rfl (lv_at hl 0 rfl) ?_
  refine lv_iload_n hx hb dL_law_787 rfl (lv_at hl 3 rfl) ?_
  refine lv_iconst (v := 4) hx hb dL_law_788 (by decide) ?_
  refine h_iaddN hx hb i 4 dL_law_789 ?_
  refine h_sld hx hb hX hbl hw.2.2.1 (i := i + 4) (by omega) hN dL_law_790 ?_
  refine h_lawM (S2 := (sp_way (rg, kd, z, pl, cnt) (xs (i + 1)) (xs (i + 2)) (xs (i + 3)) (xs (i + 4))).2) (st1 := [.int ((sp_way (rg, kd, z, pl, cnt) (xs (i + 1)) (xs (i + 2)) (xs (i + 3)) (xs (i + 4))).1), .int ((sp_way (rg, kd, z, pl, cnt) (xs (i + 1)) (xs (i + 2)) (xs (i + 3)) (xs (i + 4))).1)]) [.int (xs (i + 1)), .int (xs (i + 2)), .int (xs (i + 3)), .int (xs (i + 4))] [.int ((sp_way (rg, kd, z, pl, cnt) (xs (i + 1)) (xs (i + 2)) (xs (i + 3)) (xs (i + 4))).1)] ⟨hx, hb, hml, hown, hts⟩ hE hw (fun Fm hR => c_X6_way l G _ ma Fm rg kd z pl cnt hR hz hkd hc12 hq (xs (i + 1)) (xs (i + 2)) (xs (i + 3)) (xs (i + 4))) (cwV 4 hts gL_law_X6_way rfl rfl rfl (by decide +kernel) ⟨Nat.le_of_ble_eq_true rfl, Nat.le_of_ble_eq_true rfl⟩) rfl hl.1 rfl (Nat.le_of_ble_eq_true rfl) dL_law_791 ⟨Nat.le_refl _, Nat.le_refl _⟩ rfl (fun H locs hw => ?_)
  exact lv_icmp_eq (tgt := 1015) hx hb dL_law_794 (by decide) (fun _ => kk _ _ hw) (fun c9 => absurd rfl c9)

set_option maxHeartbeats 4000000 in
set_option maxRecDepth 100000 in
theorem law_13 {p : Program} {e : Env} {s : State} {m : MethodId} {below : List Frame} {meth : Method} {c : Code} (l : Launch) {b N : Nat} {xs : Nat → Int32} {G : GG} {ad ma : Nat → Nat} {ls : Array Slot} {H : Heap} {locs : List Loc} {Q : State → Prop} (hx : p.tables.exec = Jvm.exec) (hb : c.code = cL_law) (hml : c.maxLocals = 4) (hown : s.vm.findClass RL = some m.cls) (hts : ∀ w ∈ wsL_law, w.before #[Value.ref b] s = true) (hE : en G (fun q => s.heap.size ≤ q) s) (hX : va_X b N xs s s.heap) (hbl : b < s.heap.size) (hN : N ≤ 3072) {i : Nat} (hi : i + 6 ≤ N) {rg : Nat → Q4} {kd : Nat → Int32} {z : Nat → Nat} {pl : Nat → Nat → Int64} {cnt : Nat} (hinv : inv (rg, kd, z, pl, cnt)) (hw : LWS G s ad ma (rg, kd, z, pl, cnt) (rg, kd, z, pl, cnt) H locs) (hl : lv_has ls 4 [(0, .ref b), (1, .ref (ad 51)), (2, .ref (ma 0)), (3, .int (nI i))]) (kk : ∀ (H1 : Heap) (locs1 : List Loc), LWS G s ad ma (sp_factor (rg, kd, z, pl, cnt) (xs (i + 1)) (xs (i + 2))).2 (sp_factor (rg, kd, z, pl, cnt) (xs (i + 1)) (xs (i + 2))).2 H1 locs1 → W p l e room_1 s m #[Value.ref b] below meth c H1 locs1 600000 7302250 Q (F0 m 1015 ls [])) : W p l e room_1 s m #[Value.ref b] below meth c H locs 600000 7302250 Q (F0 m 799 ls []) := by
  obtain ⟨hz, hkd, hc12, hq, -⟩ := hinv
  refine lv_aload_n hx hb dL_law_799 rfl (lv_at hl 1 rfl) ?_
  refine lv_aload_n hx hb dL_law_800 rfl (lv_at hl 0 rfl) ?_
  refine lv_iload_n hx hb dL_law_801 rfl (lv_at hl 3 rfl) ?_
  refine lv_iconst (v := 1) hx hb dL_law_802 (by decide) ?_
  refine h_iaddN hx hb i 1 dL_law_803 ?_
  refine h_sld hx hb hX hbl hw.2.2.1 (i := i + 1) (by omega) hN dL_law_804 ?_
  refine lv_aload_n hx hb dL_law_805 rfl (lv_at hl 0 rfl) ?_
  refine lv_iload_n hx hb dL_law_806 rfl (lv_at hl 3 rfl) ?_
  refine lv_iconst (v := 2) hx hb dL_law_807 (by decide) ?_
  refine h_iaddN hx hb i 2 dL_law_808 ?_
  refine h_sld hx hb hX hbl hw.2.2.1 (i := i + 2) (by omega) hN dL_law_809 ?_
  refine h_lawC (S2 := (sp_factor (rg, kd, z, pl, cnt) (xs (i + 1)) (xs (i + 2))).2) (st1 := [.int ((sp_factor (rg, kd, z, pl, cnt) (xs (i + 1)) (xs (i + 2))).1)]) [.int (xs (i + 1)), .int (xs (i + 2))] [] ⟨hx, hb, hml, hown, hts⟩ hE hw (fun Fc hR => c_X5_factor l G _ ad Fc rg kd z pl cnt hR hz hc12 (xs (i + 1)) (xs (i + 2))) (cwV 2 hts gL_law_X5_factor rfl rfl rfl (by decide +kernel) ⟨Nat.le_of_ble_eq_true rfl, Nat.le_of_ble_eq_true rfl⟩) rfl hl.1 rfl (Nat.le_of_ble_eq_true rfl) dL_law_810 ⟨Nat.le_refl _, Nat.le_refl _⟩ rfl (fun H locs hw => ?_)
  refine lv_aload_n hx hb dL_law_813 rfl (lv_at hl 2 rfl) ?_
  refine lv_aload_n hx hb dL_law_814 rfl (lv_at hl 0 rfl) ?_
  refine lv_iload_n hx hb dL_law_815 rfl (lv_at hl 3 rfl) ?_
  refine lv_iconst (v := 1) hx hb dL_law_816 (by decide) ?_
  refine h_iaddN hx hb i 1 dL_law_817 ?_
  refine h_sld hx hb hX hbl hw.2.2.1 (i := i + 1) (by omega) hN dL_law_818 ?_
  refine lv_aload_n hx hb dL_law_819 rfl (lv_at hl 0 rfl) ?_
  refine lv_iload_n hx hb dL_law_820 rfl (lv_at hl 3 rfl) ?_
  refine lv_iconst (v := 2) hx hb dL_law_821 (by decide) ?_
  refine h_iaddN hx hb i 2 dL_law_822 ?_
  refine h_sld hx hb hX hbl hw.2.2.1 (i := i + 2) (by omega) hN dL_law_823 ?_
  refine h_lawM (S2 := (sp_factor (rg, kd, z, pl, cnt) (xs (i + 1)) (xs (i + 2))).2) (st1 := [.int ((sp_factor (rg, kd, z, pl, cnt) (xs (i + 1)) (xs (i + 2))).1), .int ((sp_factor (rg, kd, z, pl, cnt) (xs (i + 1)) (xs (i + 2))).1)]) [.int (xs (i + 1)), .int (xs (i + 2))] [.int ((sp_factor (rg, kd, z, pl, cnt) (xs (i + 1)) (xs (i + 2))).1)] ⟨hx, hb, hml, hown, hts⟩ hE hw (fun Fm hR => c_X6_factor l G _ ma Fm rg kd z pl cnt hR hz hkd hc12 (xs (i + 1)) (xs (i + 2))) (cwV 2 hts gL_law_X6_factor rfl rfl rfl (by decide +kernel) ⟨Nat.le_of_ble_eq_true rfl, Nat.le_of_ble_eq_true rfl⟩) rfl hl.1 rfl (Nat.le_of_ble_eq_true rfl) dL_law_824 ⟨Nat.le_refl _, Nat.le_refl _⟩ rfl (fun H locs hw => ?_)
  exact lv_icmp_eq (tgt := 1015) hx hb dL_law_827 (by decide) (fun _ => kk _ _ hw) (fun c9 => absurd rfl c9)

set_option maxHeartbeats 4000000 in
set_option maxRecDepth 100000 in
theorem law_14 {p : Program} {e : Env} {s : State} {m : MethodId} {below : List Frame} {meth : Method} {c : Code} (l : Launch) {b N : Nat} {xs : Nat → Int32} {G : GG} {ad ma : Nat → Nat} {ls : Array Slot} {H : Heap} {locs : List Loc} {Q : State → Prop} (hx : p.tables.exec = Jvm.exec) (hb : c.code = cL_law) (hml : c.maxLocals = 4) (hown : s.vm.findClass RL = some m.cls) (hts : ∀ w ∈ wsL_law, w.before #[Value.ref b] s = true) (hE : en G (fun q => s.heap.size ≤ q) s) (hX : va_X b N xs s s.heap) (hbl : b < s.heap.size) (hN : N ≤ 3072) {i : Nat} (hi : i + 6 ≤ N) {rg : Nat → Q4} {kd : Nat → Int32} {z : Nat → Nat} {pl : Nat → Nat → Int64} {cnt : Nat} (hinv : inv (rg, kd, z, pl, cnt)) (hw : LWS G s ad ma (rg, kd, z, pl, cnt) (rg, kd, z, pl, cnt) H locs) (hl : lv_has ls 4 [(0, .ref b), (1, .ref (ad 51)), (2, .ref (ma 0)), (3, .int (nI i))]) (kk : ∀ (H1 : Heap) (locs1 : List Loc), LWS G s ad ma (sp_many (rg, kd, z, pl, cnt) (xs (i + 1)) (xs (i + 2))).2 (sp_many (rg, kd, z, pl, cnt) (xs (i + 1)) (xs (i + 2))).2 H1 locs1 → W p l e room_1 s m #[Value.ref b] below meth c H1 locs1 600000 7302250 Q (F0 m 1015 ls [])) : W p l e room_1 s m #[Value.ref b] below meth c H locs 600000 7302250 Q (F0 m 832 ls []) := by
  obtain ⟨hz, hkd, hc12, hq, -⟩ := hinv
  refine lv_aload_n hx hb dL_law_832 rfl (lv_at hl 1 rfl) ?_
  refine lv_aload_n hx hb dL_law_833 rfl (lv_at hl 0 rfl) ?_
  refine lv_iload_n hx hb dL_law_834 rfl (lv_at hl 3 rfl) ?_
  refine lv_iconst (v := 1) hx hb dL_law_835 (by decide) ?_
  refine h_iaddN hx hb i 1 dL_law_836 ?_
  refine h_sld hx hb hX hbl hw.2.2.1 (i := i + 1) (by omega) hN dL_law_837 ?_
  refine lv_aload_n hx hb dL_law_838 rfl (lv_at hl 0 rfl) ?_
  refine lv_iload_n hx hb dL_law_839 rfl (lv_at hl 3 rfl) ?_
  refine lv_iconst (v := 2) hx hb dL_law_840 (by decide) ?_
  refine h_iaddN hx hb i 2 dL_law_841 ?_
  refine h_sld hx hb hX hbl hw.2.2.1 (i := i + 2) (by omega) hN dL_law_842 ?_
  refine h_lawC (S2 := (sp_many (rg, kd, z, pl, cnt) (xs (i + 1)) (xs (i + 2))).2) (st1 := [.int ((sp_many (rg, kd, z, pl, cnt) (xs (i + 1)) (xs (i + 2))).1)]) [.int (xs (i + 1)), .int (xs (i + 2))] [] ⟨hx, hb, hml, hown, hts⟩ hE hw (fun Fc hR => c_X5_many l G _ ad Fc rg kd z pl cnt hR hz hc12 (xs (i + 1)) (xs (i + 2))) (cwV 2 hts gL_law_X5_many rfl rfl rfl (by decide +kernel) ⟨Nat.le_of_ble_eq_true rfl, Nat.le_of_ble_eq_true rfl⟩) rfl hl.1 rfl (Nat.le_of_ble_eq_true rfl) dL_law_843 ⟨Nat.le_refl _, Nat.le_refl _⟩ rfl (fun H locs hw => ?_)
  refine lv_aload_n hx hb dL_law_846 rfl (lv_at hl 2 rfl) ?_
  refine lv_aload_n hx hb dL_law_847 rfl (lv_at hl 0 rfl) ?_
  refine lv_iload_n hx hb dL_law_848 rfl (lv_at hl 3 rfl) ?_
  refine lv_iconst (v := 1) hx hb dL_law_849 (by decide) ?_
  refine h_iaddN hx hb i 1 dL_law_850 ?_
  refine h_sld hx hb hX hbl hw.2.2.1 (i := i + 1) (by omega) hN dL_law_851 ?_
  refine lv_aload_n hx hb dL_law_852 rfl (lv_at hl 0 rfl) ?_
  refine lv_iload_n hx hb dL_law_853 rfl (lv_at hl 3 rfl) ?_
  refine lv_iconst (v := 2) hx hb dL_law_854 (by decide) ?_
  refine h_iaddN hx hb i 2 dL_law_855 ?_
  refine h_sld hx hb hX hbl hw.2.2.1 (i := i + 2) (by omega) hN dL_law_856 ?_
  refine h_lawM (S2 := (sp_many (rg, kd, z, pl, cnt) (xs (i + 1)) (xs (i + 2))).2) (st1 := [.int ((sp_many (rg, kd, z, pl, cnt) (xs (i + 1)) (xs (i + 2))).1), .int ((sp_many (rg, kd, z, pl, cnt) (xs (i + 1)) (xs (i + 2))).1)]) [.int (xs (i + 1)), .int (xs (i + 2))] [.int ((sp_many (rg, kd, z, pl, cnt) (xs (i + 1)) (xs (i + 2))).1)] ⟨hx, hb, hml, hown, hts⟩ hE hw (fun Fm hR => c_X6_many l G _ ma Fm rg kd z pl cnt hR hz hkd hc12 (xs (i + 1)) (xs (i + 2))) (cwV 2 hts gL_law_X6_many rfl rfl rfl (by decide +kernel) ⟨Nat.le_of_ble_eq_true rfl, Nat.le_of_ble_eq_true rfl⟩) rfl hl.1 rfl (Nat.le_of_ble_eq_true rfl) dL_law_857 ⟨Nat.le_refl _, Nat.le_refl _⟩ rfl (fun H locs hw => ?_)
  exact lv_icmp_eq (tgt := 1015) hx hb dL_law_860 (by decide) (fun _ => kk _ _ hw) (fun c9 => absurd rfl c9)

set_option maxHeartbeats 4000000 in
set_option maxRecDepth 100000 in
theorem law_15 {p : Program} {e : Env} {s : State} {m : MethodId} {below : List Frame} {meth : Method} {c : Code} (l : Launch) {b N : Nat} {xs : Nat → Int32} {G : GG} {ad ma : Nat → Nat} {ls : Array Slot} {H : Heap} {locs : List Loc} {Q : State → Prop} (hx : p.tables.exec = Jvm.exec) (hb : c.code = cL_law) (hml : c.maxLocals = 4) (hown : s.vm.findClass RL = some m.cls) (hts : ∀ w ∈ wsL_law, w.before #[Value.ref b] s = true) (hE : en G (fun q => s.heap.size ≤ q) s) (hX : va_X b N xs s s.heap) (hbl : b < s.heap.size) (hN : N ≤ 3072) {i : Nat} (hi : i + 6 ≤ N) {rg : Nat → Q4} {kd : Nat → Int32} {z : Nat → Nat} {pl : Nat → Nat → Int64} {cnt : Nat} (hinv : inv (rg, kd, z, pl, cnt)) (hw : LWS G s ad ma (rg, kd, z, pl, cnt) (rg, kd, z, pl, cnt) H locs) (hl : lv_has ls 4 [(0, .ref b), (1, .ref (ad 51)), (2, .ref (ma 0)), (3, .int (nI i))]) (kk : ∀ (H1 : Heap) (locs1 : List Loc), LWS G s ad ma (sp_listed (rg, kd, z, pl, cnt) (xs (i + 1)) (xs (i + 2)) (xs (i + 3))).2 (sp_listed (rg, kd, z, pl, cnt) (xs (i + 1)) (xs (i + 2)) (xs (i + 3))).2 H1 locs1 → W p l e room_1 s m #[Value.ref b] below meth c H1 locs1 600000 7302250 Q (F0 m 1015 ls [])) : W p l e room_1 s m #[Value.ref b] below meth c H locs 600000 7302250 Q (F0 m 865 ls []) := by
  obtain ⟨hz, hkd, hc12, hq, -⟩ := hinv
  refine lv_aload_n hx hb dL_law_865 rfl (lv_at hl 1 rfl) ?_
  refine lv_aload_n hx hb dL_law_866 rfl (lv_at hl 0 rfl) ?_
  refine lv_iload_n hx hb dL_law_867 rfl (lv_at hl 3 rfl) ?_
  refine lv_iconst (v := 1) hx hb dL_law_868 (by decide) ?_
  refine h_iaddN hx hb i 1 dL_law_869 ?_
  refine h_sld hx hb hX hbl hw.2.2.1 (i := i + 1) (by omega) hN dL_law_870 ?_
  refine lv_aload_n hx hb dL_law_871 rfl (lv_at hl 0 rfl) ?_
  refine lv_iload_n hx hb dL_law_872 rfl (lv_at hl 3 rfl) ?_
  refine lv_iconst (v := 2) hx hb dL_law_873 (by decide) ?_
  refine h_iaddN hx hb i 2 dL_law_874 ?_
  refine h_sld hx hb hX hbl hw.2.2.1 (i := i + 2) (by omega) hN dL_law_875 ?_
  refine lv_aload_n hx hb dL_law_876 rfl (lv_at hl 0 rfl) ?_
  refine lv_iload_n hx hb dL_law_877 rfl (lv_at hl 3 rfl) ?_
  refine lv_iconst (v := 3) hx hb dL_law_878 (by decide) ?_
  refine h_iaddN hx hb i 3 dL_law_879 ?_
  refine h_sld hx hb hX hbl hw.2.2.1 (i := i + 3) (by omega) hN dL_law_880 ?_
  refine h_lawC (S2 := (sp_listed (rg, kd, z, pl, cnt) (xs (i + 1)) (xs (i + 2)) (xs (i + 3))).2) (st1 := [.int ((sp_listed (rg, kd, z, pl, cnt) (xs (i + 1)) (xs (i + 2)) (xs (i + 3))).1)]) [.int (xs (i + 1)), .int (xs (i + 2)), .int (xs (i + 3))] [] ⟨hx, hb, hml, hown, hts⟩ hE hw (fun Fc hR => c_X5_listed l G _ ad Fc rg kd z pl cnt hR hz hc12 (xs (i + 1)) (xs (i + 2)) (xs (i + 3))) (cwV 3 hts gL_law_X5_listed rfl rfl rfl (by decide +kernel) ⟨Nat.le_of_ble_eq_true rfl, Nat.le_of_ble_eq_true rfl⟩) rfl hl.1 rfl (Nat.le_of_ble_eq_true rfl) dL_law_881 ⟨Nat.le_refl _, Nat.le_refl _⟩ rfl (fun H locs hw => ?_)
  refine lv_aload_n hx hb dL_law_884 rfl (lv_at hl 2 rfl) ?_
  refine lv_aload_n hx hb dL_law_885 rfl (lv_at hl 0 rfl) ?_
  refine lv_iload_n hx hb dL_law_886 rfl (lv_at hl 3 rfl) ?_
  refine lv_iconst (v := 1) hx hb dL_law_887 (by decide) ?_
  refine h_iaddN hx hb i 1 dL_law_888 ?_
  refine h_sld hx hb hX hbl hw.2.2.1 (i := i + 1) (by omega) hN dL_law_889 ?_
  refine lv_aload_n hx hb dL_law_890 rfl (lv_at hl 0 rfl) ?_
  refine lv_iload_n hx hb dL_law_891 rfl (lv_at hl 3 rfl) ?_
  refine lv_iconst (v := 2) hx hb dL_law_892 (by decide) ?_
  refine h_iaddN hx hb i 2 dL_law_893 ?_
  refine h_sld hx hb hX hbl hw.2.2.1 (i := i + 2) (by omega) hN dL_law_894 ?_
  refine lv_aload_n hx hb dL_law_895 rfl (lv_at hl 0 rfl) ?_
  refine lv_iload_n hx hb dL_law_896 rfl (lv_at hl 3 rfl) ?_
  refine lv_iconst (v := 3) hx hb dL_law_897 (by decide) ?_
  refine h_iaddN hx hb i 3 dL_law_898 ?_
  refine h_sld hx hb hX hbl hw.2.2.1 (i := i + 3) (by omega) hN dL_law_899 ?_
  refine h_lawM (S2 := (sp_listed (rg, kd, z, pl, cnt) (xs (i + 1)) (xs (i + 2)) (xs (i + 3))).2) (st1 := [.int ((sp_listed (rg, kd, z, pl, cnt) (xs (i + 1)) (xs (i + 2)) (xs (i + 3))).1), .int ((sp_listed (rg, kd, z, pl, cnt) (xs (i + 1)) (xs (i + 2)) (xs (i + 3))).1)]) [.int (xs (i + 1)), .int (xs (i + 2)), .int (xs (i + 3))] [.int ((sp_listed (rg, kd, z, pl, cnt) (xs (i + 1)) (xs (i + 2)) (xs (i + 3))).1)] ⟨hx, hb, hml, hown, hts⟩ hE hw (fun Fm hR => c_X6_listed l G _ ma Fm rg kd z pl cnt hR hz hkd hc12 (xs (i + 1)) (xs (i + 2)) (xs (i + 3))) (cwV 3 hts gL_law_X6_listed rfl rfl rfl (by decide +kernel) ⟨Nat.le_of_ble_eq_true rfl, Nat.le_of_ble_eq_true rfl⟩) rfl hl.1 rfl (Nat.le_of_ble_eq_true rfl) dL_law_900 ⟨Nat.le_refl _, Nat.le_refl _⟩ rfl (fun H locs hw => ?_)
  exact lv_icmp_eq (tgt := 1015) hx hb dL_law_903 (by decide) (fun _ => kk _ _ hw) (fun c9 => absurd rfl c9)

set_option maxHeartbeats 4000000 in
set_option maxRecDepth 100000 in
theorem law_16 {p : Program} {e : Env} {s : State} {m : MethodId} {below : List Frame} {meth : Method} {c : Code} (l : Launch) {b N : Nat} {xs : Nat → Int32} {G : GG} {ad ma : Nat → Nat} {ls : Array Slot} {H : Heap} {locs : List Loc} {Q : State → Prop} (hx : p.tables.exec = Jvm.exec) (hb : c.code = cL_law) (hml : c.maxLocals = 4) (hown : s.vm.findClass RL = some m.cls) (hts : ∀ w ∈ wsL_law, w.before #[Value.ref b] s = true) (hE : en G (fun q => s.heap.size ≤ q) s) (hX : va_X b N xs s s.heap) (hbl : b < s.heap.size) (hN : N ≤ 3072) {i : Nat} (hi : i + 6 ≤ N) {rg : Nat → Q4} {kd : Nat → Int32} {z : Nat → Nat} {pl : Nat → Nat → Int64} {cnt : Nat} (hinv : inv (rg, kd, z, pl, cnt)) (hw : LWS G s ad ma (rg, kd, z, pl, cnt) (rg, kd, z, pl, cnt) H locs) (hl : lv_has ls 4 [(0, .ref b), (1, .ref (ad 51)), (2, .ref (ma 0)), (3, .int (nI i))]) (kk : ∀ (H1 : Heap) (locs1 : List Loc), LWS G s ad ma (sp_turn (rg, kd, z, pl, cnt) (xs (i + 1)) (xs (i + 2)) (xs (i + 3))).2 (sp_turn (rg, kd, z, pl, cnt) (xs (i + 1)) (xs (i + 2)) (xs (i + 3))).2 H1 locs1 → W p l e room_1 s m #[Value.ref b] below meth c H1 locs1 600000 7302250 Q (F0 m 1015 ls [])) : W p l e room_1 s m #[Value.ref b] below meth c H locs 600000 7302250 Q (F0 m 908 ls []) := by
  obtain ⟨hz, hkd, hc12, hq, -⟩ := hinv
  refine lv_aload_n hx hb dL_law_908 rfl (lv_at hl 1 rfl) ?_
  refine lv_aload_n hx hb dL_law_909 rfl (lv_at hl 0 rfl) ?_
  refine lv_iload_n hx hb dL_law_910 rfl (lv_at hl 3 rfl) ?_
  refine lv_iconst (v := 1) hx hb dL_law_911 (by decide) ?_
  refine h_iaddN hx hb i 1 dL_law_912 ?_
  refine h_sld hx hb hX hbl hw.2.2.1 (i := i + 1) (by omega) hN dL_law_913 ?_
  refine lv_aload_n hx hb dL_law_914 rfl (lv_at hl 0 rfl) ?_
  refine lv_iload_n hx hb dL_law_915 rfl (lv_at hl 3 rfl) ?_
  refine lv_iconst (v := 2) hx hb dL_law_916 (by decide) ?_
  refine h_iaddN hx hb i 2 dL_law_917 ?_
  refine h_sld hx hb hX hbl hw.2.2.1 (i := i + 2) (by omega) hN dL_law_918 ?_
  refine lv_aload_n hx hb dL_law_919 rfl (lv_at hl 0 rfl) ?_
  refine lv_iload_n hx hb dL_law_920 rfl (lv_at hl 3 rfl) ?_
  refine lv_iconst (v := 3) hx hb dL_law_921 (by decide) ?_
  refine h_iaddN hx hb i 3 dL_law_922 ?_
  refine h_sld hx hb hX hbl hw.2.2.1 (i := i + 3) (by omega) hN dL_law_923 ?_
  refine h_lawC (S2 := (sp_turn (rg, kd, z, pl, cnt) (xs (i + 1)) (xs (i + 2)) (xs (i + 3))).2) (st1 := [.int ((sp_turn (rg, kd, z, pl, cnt) (xs (i + 1)) (xs (i + 2)) (xs (i + 3))).1)]) [.int (xs (i + 1)), .int (xs (i + 2)), .int (xs (i + 3))] [] ⟨hx, hb, hml, hown, hts⟩ hE hw (fun Fc hR => c_X5_turn l G _ ad Fc rg kd z pl cnt hR hz hc12 (xs (i + 1)) (xs (i + 2)) (xs (i + 3))) (cwV 3 hts gL_law_X5_turn rfl rfl rfl (by decide +kernel) ⟨Nat.le_of_ble_eq_true rfl, Nat.le_of_ble_eq_true rfl⟩) rfl hl.1 rfl (Nat.le_of_ble_eq_true rfl) dL_law_924 ⟨Nat.le_refl _, Nat.le_refl _⟩ rfl (fun H locs hw => ?_)
  refine lv_aload_n hx hb dL_law_927 rfl (lv_at hl 2 rfl) ?_
  refine lv_aload_n hx hb dL_law_928 rfl (lv_at hl 0 rfl) ?_
  refine lv_iload_n hx hb dL_law_929 rfl (lv_at hl 3 rfl) ?_
  refine lv_iconst (v := 1) hx hb dL_law_930 (by decide) ?_
  refine h_iaddN hx hb i 1 dL_law_931 ?_
  refine h_sld hx hb hX hbl hw.2.2.1 (i := i + 1) (by omega) hN dL_law_932 ?_
  refine lv_aload_n hx hb dL_law_933 rfl (lv_at hl 0 rfl) ?_
  refine lv_iload_n hx hb dL_law_934 rfl (lv_at hl 3 rfl) ?_
  refine lv_iconst (v := 2) hx hb dL_law_935 (by decide) ?_
  refine h_iaddN hx hb i 2 dL_law_936 ?_
  refine h_sld hx hb hX hbl hw.2.2.1 (i := i + 2) (by omega) hN dL_law_937 ?_
  refine lv_aload_n hx hb dL_law_938 rfl (lv_at hl 0 rfl) ?_
  refine lv_iload_n hx hb dL_law_939 rfl (lv_at hl 3 rfl) ?_
  refine lv_iconst (v := 3) hx hb dL_law_940 (by decide) ?_
  refine h_iaddN hx hb i 3 dL_law_941 ?_
  refine h_sld hx hb hX hbl hw.2.2.1 (i := i + 3) (by omega) hN dL_law_942 ?_
  refine h_lawM (S2 := (sp_turn (rg, kd, z, pl, cnt) (xs (i + 1)) (xs (i + 2)) (xs (i + 3))).2) (st1 := [.int ((sp_turn (rg, kd, z, pl, cnt) (xs (i + 1)) (xs (i + 2)) (xs (i + 3))).1), .int ((sp_turn (rg, kd, z, pl, cnt) (xs (i + 1)) (xs (i + 2)) (xs (i + 3))).1)]) [.int (xs (i + 1)), .int (xs (i + 2)), .int (xs (i + 3))] [.int ((sp_turn (rg, kd, z, pl, cnt) (xs (i + 1)) (xs (i + 2)) (xs (i + 3))).1)] ⟨hx, hb, hml, hown, hts⟩ hE hw (fun Fm hR => c_X6_turn l G _ ma Fm rg kd z pl cnt hR hz hkd hc12 (xs (i + 1)) (xs (i + 2)) (xs (i + 3))) (cwV 3 hts gL_law_X6_turn rfl rfl rfl (by decide +kernel) ⟨Nat.le_of_ble_eq_true rfl, Nat.le_of_ble_eq_true rfl⟩) rfl hl.1 rfl (Nat.le_of_ble_eq_true rfl) dL_law_943 ⟨Nat.le_refl _, Nat.le_refl _⟩ rfl (fun H locs hw => ?_)
  exact lv_icmp_eq (tgt := 1015) hx hb dL_law_946 (by decide) (fun _ => kk _ _ hw) (fun c9 => absurd rfl c9)

set_option maxHeartbeats 4000000 in
set_option maxRecDepth 100000 in
theorem law_17 {p : Program} {e : Env} {s : State} {m : MethodId} {below : List Frame} {meth : Method} {c : Code} (l : Launch) {b N : Nat} {xs : Nat → Int32} {G : GG} {ad ma : Nat → Nat} {ls : Array Slot} {H : Heap} {locs : List Loc} {Q : State → Prop} (hx : p.tables.exec = Jvm.exec) (hb : c.code = cL_law) (hml : c.maxLocals = 4) (hown : s.vm.findClass RL = some m.cls) (hts : ∀ w ∈ wsL_law, w.before #[Value.ref b] s = true) (hE : en G (fun q => s.heap.size ≤ q) s) (hX : va_X b N xs s s.heap) (hbl : b < s.heap.size) (hN : N ≤ 3072) {i : Nat} (hi : i + 6 ≤ N) {rg : Nat → Q4} {kd : Nat → Int32} {z : Nat → Nat} {pl : Nat → Nat → Int64} {cnt : Nat} (hinv : inv (rg, kd, z, pl, cnt)) (hw : LWS G s ad ma (rg, kd, z, pl, cnt) (rg, kd, z, pl, cnt) H locs) (hl : lv_has ls 4 [(0, .ref b), (1, .ref (ad 51)), (2, .ref (ma 0)), (3, .int (nI i))]) (kk : ∀ (H1 : Heap) (locs1 : List Loc), LWS G s ad ma (sp_turned (rg, kd, z, pl, cnt) (xs (i + 1)) (xs (i + 2)) (xs (i + 3)) (xs (i + 4)) (xs (i + 5))).2 (sp_turned (rg, kd, z, pl, cnt) (xs (i + 1)) (xs (i + 2)) (xs (i + 3)) (xs (i + 4)) (xs (i + 5))).2 H1 locs1 → W p l e room_1 s m #[Value.ref b] below meth c H1 locs1 600000 7302250 Q (F0 m 1015 ls [])) : W p l e room_1 s m #[Value.ref b] below meth c H locs 600000 7302250 Q (F0 m 951 ls []) := by
  obtain ⟨hz, hkd, hc12, hq, -⟩ := hinv
  refine lv_aload_n hx hb dL_law_951 rfl (lv_at hl 1 rfl) ?_
  refine lv_aload_n hx hb dL_law_952 rfl (lv_at hl 0 rfl) ?_
  refine lv_iload_n hx hb dL_law_953 rfl (lv_at hl 3 rfl) ?_
  refine lv_iconst (v := 1) hx hb dL_law_954 (by decide) ?_
  refine h_iaddN hx hb i 1 dL_law_955 ?_
  refine h_sld hx hb hX hbl hw.2.2.1 (i := i + 1) (by omega) hN dL_law_956 ?_
  refine lv_aload_n hx hb dL_law_957 rfl (lv_at hl 0 rfl) ?_
  refine lv_iload_n hx hb dL_law_958 rfl (lv_at hl 3 rfl) ?_
  refine lv_iconst (v := 2) hx hb dL_law_959 (by decide) ?_
  refine h_iaddN hx hb i 2 dL_law_960 ?_
  refine h_sld hx hb hX hbl hw.2.2.1 (i := i + 2) (by omega) hN dL_law_961 ?_
  refine lv_aload_n hx hb dL_law_962 rfl (lv_at hl 0 rfl) ?_
  refine lv_iload_n hx hb dL_law_963 rfl (lv_at hl 3 rfl) ?_
  refine lv_iconst (v := 3) hx hb dL_law_964 (by decide) ?_
  refine h_iaddN hx hb i 3 dL_law_965 ?_
  refine h_sld hx hb hX hbl hw.2.2.1 (i := i + 3) (by omega) hN dL_law_966 ?_
  refine lv_aload_n hx hb dL_law_967 rfl (lv_at hl 0 rfl) ?_
  refine lv_iload_n hx hb dL_law_968 rfl (lv_at hl 3 rfl) ?_
  refine lv_iconst (v := 4) hx hb dL_law_969 (by decide) ?_
  refine h_iaddN hx hb i 4 dL_law_970 ?_
  refine h_sld hx hb hX hbl hw.2.2.1 (i := i + 4) (by omega) hN dL_law_971 ?_
  refine lv_aload_n hx hb dL_law_972 rfl (lv_at hl 0 rfl) ?_
  refine lv_iload_n hx hb dL_law_973 rfl (lv_at hl 3 rfl) ?_
  refine lv_iconst (v := 5) hx hb dL_law_974 (by decide) ?_
  refine h_iaddN hx hb i 5 dL_law_975 ?_
  refine h_sld hx hb hX hbl hw.2.2.1 (i := i + 5) (by omega) hN dL_law_976 ?_
  refine h_lawC (S2 := (sp_turned (rg, kd, z, pl, cnt) (xs (i + 1)) (xs (i + 2)) (xs (i + 3)) (xs (i + 4)) (xs (i + 5))).2) (st1 := [.long ((sp_turned (rg, kd, z, pl, cnt) (xs (i + 1)) (xs (i + 2)) (xs (i + 3)) (xs (i + 4)) (xs (i + 5))).1)]) [.int (xs (i + 1)), .int (xs (i + 2)), .int (xs (i + 3)), .int (xs (i + 4)), .int (xs (i + 5))] [] ⟨hx, hb, hml, hown, hts⟩ hE hw (fun Fc hR => c_X5_turned l G _ ad Fc rg kd z pl cnt hR hz hc12 (xs (i + 1)) (xs (i + 2)) (xs (i + 3)) (xs (i + 4)) (xs (i + 5))) (cwV 5 hts gL_law_X5_turned rfl rfl rfl (by decide +kernel) ⟨Nat.le_of_ble_eq_true rfl, Nat.le_of_ble_eq_true rfl⟩) rfl hl.1 rfl (Nat.le_of_ble_eq_true rfl) dL_law_977 ⟨Nat.le_refl _, Nat.le_refl _⟩ rfl (fun H locs hw => ?_)
  refine lv_aload_n hx hb dL_law_980 rfl (lv_at hl 2 rfl) ?_
  refine lv_aload_n hx hb dL_law_981 rfl (lv_at hl 0 rfl) ?_
  refine lv_iload_n hx hb dL_law_982 rfl (lv_at hl 3 rfl) ?_
  refine lv_iconst (v := 1) hx hb dL_law_983 (by decide) ?_
  refine h_iaddN hx hb i 1 dL_law_984 ?_
  refine h_sld hx hb hX hbl hw.2.2.1 (i := i + 1) (by omega) hN dL_law_985 ?_
  refine lv_aload_n hx hb dL_law_986 rfl (lv_at hl 0 rfl) ?_
  refine lv_iload_n hx hb dL_law_987 rfl (lv_at hl 3 rfl) ?_
  refine lv_iconst (v := 2) hx hb dL_law_988 (by decide) ?_
  refine h_iaddN hx hb i 2 dL_law_989 ?_
  refine h_sld hx hb hX hbl hw.2.2.1 (i := i + 2) (by omega) hN dL_law_990 ?_
  refine lv_aload_n hx hb dL_law_991 rfl (lv_at hl 0 rfl) ?_
  refine lv_iload_n hx hb dL_law_992 rfl (lv_at hl 3 rfl) ?_
  refine lv_iconst (v := 3) hx hb dL_law_993 (by decide) ?_
  refine h_iaddN hx hb i 3 dL_law_994 ?_
  refine h_sld hx hb hX hbl hw.2.2.1 (i := i + 3) (by omega) hN dL_law_995 ?_
  refine lv_aload_n hx hb dL_law_996 rfl (lv_at hl 0 rfl) ?_
  refine lv_iload_n hx hb dL_law_997 rfl (lv_at hl 3 rfl) ?_
  refine lv_iconst (v := 4) hx hb dL_law_998 (by decide) ?_
  refine h_iaddN hx hb i 4 dL_law_999 ?_
  refine h_sld hx hb hX hbl hw.2.2.1 (i := i + 4) (by omega) hN dL_law_1000 ?_
  refine lv_aload_n hx hb dL_law_1001 rfl (lv_at hl 0 rfl) ?_
  refine lv_iload_n hx hb dL_law_1002 rfl (lv_at hl 3 rfl) ?_
  refine lv_iconst (v := 5) hx hb dL_law_1003 (by decide) ?_
  refine h_iaddN hx hb i 5 dL_law_1004 ?_
  refine h_sld hx hb hX hbl hw.2.2.1 (i := i + 5) (by omega) hN dL_law_1005 ?_
  refine h_lawM (S2 := (sp_turned (rg, kd, z, pl, cnt) (xs (i + 1)) (xs (i + 2)) (xs (i + 3)) (xs (i + 4)) (xs (i + 5))).2) (st1 := [.long ((sp_turned (rg, kd, z, pl, cnt) (xs (i + 1)) (xs (i + 2)) (xs (i + 3)) (xs (i + 4)) (xs (i + 5))).1), .long ((sp_turned (rg, kd, z, pl, cnt) (xs (i + 1)) (xs (i + 2)) (xs (i + 3)) (xs (i + 4)) (xs (i + 5))).1)]) [.int (xs (i + 1)), .int (xs (i + 2)), .int (xs (i + 3)), .int (xs (i + 4)), .int (xs (i + 5))] [.long ((sp_turned (rg, kd, z, pl, cnt) (xs (i + 1)) (xs (i + 2)) (xs (i + 3)) (xs (i + 4)) (xs (i + 5))).1)] ⟨hx, hb, hml, hown, hts⟩ hE hw (fun Fm hR => c_X6_turned l G _ ma Fm rg kd z pl cnt hR hz hkd hc12 (xs (i + 1)) (xs (i + 2)) (xs (i + 3)) (xs (i + 4)) (xs (i + 5))) (cwV 5 hts gL_law_X6_turned rfl rfl rfl (by decide +kernel) ⟨Nat.le_of_ble_eq_true rfl, Nat.le_of_ble_eq_true rfl⟩) rfl hl.1 rfl (Nat.le_of_ble_eq_true rfl) dL_law_1006 ⟨Nat.le_refl _, Nat.le_refl _⟩ rfl (fun H locs hw => ?_)
  exact h_lc_eq (tgt := 1015) hx hb dL_law_1009 dL_law_1010 (by decide) (fun _ => kk _ _ hw) (fun c9 => absurd rfl c9)
