set_option maxHeartbeats 4000000 in
set_option maxRecDepth 100000 in
theorem law_case0 {Rel : SS → SS → Prop} (hst : St3 Rel fX7_person fX8_person) {p : Program} {l : Launch} {e : Env} {R : Room} {s : State} {m : MethodId} {args : Array Value} {below : List Frame} {meth : Method} {c : Code} {cells slots : Nat} {Q : State → Prop} {D : va_G} {cI cZ : ClassId} {A : Nat → Prop} {adX adM : Nat → Nat} {b L : Nat} {xs : Nat → Int32} {x3 : Int32} {SX SM : SS} (C : MC p s m args meth c cL_law 4 R_law D cI cZ A ret) (hX : va_X b L xs s s.heap) (hbl : b < s.heap.size) (hbA : ¬ A b) (hR1 : 2048 ≤ R.frames) (hR2 : 84000 ≤ R.locals) (hc1 : cells ≤ R.cells) (hc2 : slots ≤ R.slots) (hi1 : vp_in (x3 + 1) L) (hi2 : vp_in (x3 + 2) L) (hi3 : vp_in (x3 + 3) L) (hrel : Rel SX SM) {H : Heap} {locs : List Loc} {ls : Array Slot} (hw : WL D A s.heap (wW lyX adX cI cZ SX ++ wW lyM adM cI cZ SM) H locs) (hl : lv_has ls 4 [(0, .ref b), (1, .ref (adX 0)), (2, .ref (adM 0)), (3, .int x3)])
    (next : ∀ (SX SM : SS) (H : Heap) (locs : List Loc) (ls : Array Slot), Rel SX SM → WL D A s.heap (wW lyX adX cI cZ SX ++ wW lyM adM cI cZ SM) H locs → lv_has ls 4 [(0, .ref b), (1, .ref (adX 0)), (2, .ref (adM 0)), (3, .int x3)] → W p l e R s m args below meth c H locs cells slots Q (F0 m 1191 ls [])) : W p l e R s m args below meth c H locs cells slots Q (F0 m 164 ls []) := by
  have hx := C.1
  have hb := C.2.1
  obtain ⟨a1, he1⟩ : ∃ y, xs (x3 + 1).toNatClampNeg = y := ⟨_, rfl⟩
  obtain ⟨a2, he2⟩ : ∃ y, xs (x3 + 2).toNatClampNeg = y := ⟨_, rfl⟩
  obtain ⟨a3, he3⟩ : ∃ y, xs (x3 + 3).toNatClampNeg = y := ⟨_, rfl⟩
  obtain ⟨r, SX1, SM1, hx1, hm1, hrel⟩ := hst SX SM hrel a1 a2 a3
  refine lv_aload_n hx hb dL_law_164 rfl (lv_at hl 1 rfl) ?_
  refine lv_aload_n hx hb dL_law_165 rfl (lv_at hl 0 rfl) ?_
  refine lv_iload_n hx hb dL_law_166 rfl (lv_at hl 3 rfl) ?_
  refine lv_iconst (v := 1) hx hb dL_law_167 (by decide) ?_
  refine lv_iadd hx hb dL_law_168 ?_
  refine y_sld C hX hbl hbA hw hi1 he1 dL_law_169 ?_
  refine lv_aload_n hx hb dL_law_170 rfl (lv_at hl 0 rfl) ?_
  refine lv_iload_n hx hb dL_law_171 rfl (lv_at hl 3 rfl) ?_
  refine lv_iconst (v := 2) hx hb dL_law_172 (by decide) ?_
  refine lv_iadd hx hb dL_law_173 ?_
  refine y_sld C hX hbl hbA hw hi2 he2 dL_law_174 ?_
  refine lv_aload_n hx hb dL_law_175 rfl (lv_at hl 0 rfl) ?_
  refine lv_iload_n hx hb dL_law_176 rfl (lv_at hl 3 rfl) ?_
  refine lv_iconst (v := 3) hx hb dL_law_177 (by decide) ?_
  refine lv_iadd hx hb dL_law_178 ?_
  refine y_sld C hX hbl hbA hw hi3 he3 dL_law_179 ?_
  have hw := y_swap hw
  refine y_callV C hw (mX7_person hx1) lkL_13 rfl (Nat.le_trans (Nat.le_of_ble_eq_true rfl) hR1) (Nat.le_trans (Nat.le_of_ble_eq_true rfl) hR2) hl.1 rfl (Nat.le_of_ble_eq_true rfl) hc1 hc2 dL_law_180 (fun H locs hw => ?_)
  have hw := y_swap hw
  refine lv_aload_n hx hb dL_law_183 rfl (lv_at hl 2 rfl) ?_
  refine lv_aload_n hx hb dL_law_184 rfl (lv_at hl 0 rfl) ?_
  refine lv_iload_n hx hb dL_law_185 rfl (lv_at hl 3 rfl) ?_
  refine lv_iconst (v := 1) hx hb dL_law_186 (by decide) ?_
  refine lv_iadd hx hb dL_law_187 ?_
  refine y_sld C hX hbl hbA hw hi1 he1 dL_law_188 ?_
  refine lv_aload_n hx hb dL_law_189 rfl (lv_at hl 0 rfl) ?_
  refine lv_iload_n hx hb dL_law_190 rfl (lv_at hl 3 rfl) ?_
  refine lv_iconst (v := 2) hx hb dL_law_191 (by decide) ?_
  refine lv_iadd hx hb dL_law_192 ?_
  refine y_sld C hX hbl hbA hw hi2 he2 dL_law_193 ?_
  refine lv_aload_n hx hb dL_law_194 rfl (lv_at hl 0 rfl) ?_
  refine lv_iload_n hx hb dL_law_195 rfl (lv_at hl 3 rfl) ?_
  refine lv_iconst (v := 3) hx hb dL_law_196 (by decide) ?_
  refine lv_iadd hx hb dL_law_197 ?_
  refine y_sld C hX hbl hbA hw hi3 he3 dL_law_198 ?_
  refine y_callV C hw (mX8_person hm1) lkL_17 rfl (Nat.le_trans (Nat.le_of_ble_eq_true rfl) hR1) (Nat.le_trans (Nat.le_of_ble_eq_true rfl) hR2) hl.1 rfl (Nat.le_of_ble_eq_true rfl) hc1 hc2 dL_law_199 (fun H locs hw => ?_)
  refine lv_icmp_eq (tgt := 1191) hx hb dL_law_202 (by decide) (fun c => ?_) (fun c => absurd rfl c)
  exact next SX1 SM1 H locs ls hrel hw hl
set_option maxHeartbeats 4000000 in
set_option maxRecDepth 100000 in
theorem law_case1 {Rel : SS → SS → Prop} (hst : St2 Rel fX7_as fX8_as) {p : Program} {l : Launch} {e : Env} {R : Room} {s : State} {m : MethodId} {args : Array Value} {below : List Frame} {meth : Method} {c : Code} {cells slots : Nat} {Q : State → Prop} {D : va_G} {cI cZ : ClassId} {A : Nat → Prop} {adX adM : Nat → Nat} {b L : Nat} {xs : Nat → Int32} {x3 : Int32} {SX SM : SS} (C : MC p s m args meth c cL_law 4 R_law D cI cZ A ret) (hX : va_X b L xs s s.heap) (hbl : b < s.heap.size) (hbA : ¬ A b) (hR1 : 2048 ≤ R.frames) (hR2 : 84000 ≤ R.locals) (hc1 : cells ≤ R.cells) (hc2 : slots ≤ R.slots) (hi1 : vp_in (x3 + 1) L) (hi2 : vp_in (x3 + 2) L) (hrel : Rel SX SM) {H : Heap} {locs : List Loc} {ls : Array Slot} (hw : WL D A s.heap (wW lyX adX cI cZ SX ++ wW lyM adM cI cZ SM) H locs) (hl : lv_has ls 4 [(0, .ref b), (1, .ref (adX 0)), (2, .ref (adM 0)), (3, .int x3)])
    (next : ∀ (SX SM : SS) (H : Heap) (locs : List Loc) (ls : Array Slot), Rel SX SM → WL D A s.heap (wW lyX adX cI cZ SX ++ wW lyM adM cI cZ SM) H locs → lv_has ls 4 [(0, .ref b), (1, .ref (adX 0)), (2, .ref (adM 0)), (3, .int x3)] → W p l e R s m args below meth c H locs cells slots Q (F0 m 1191 ls [])) : W p l e R s m args below meth c H locs cells slots Q (F0 m 207 ls []) := by
  have hx := C.1
  have hb := C.2.1
  obtain ⟨a1, he1⟩ : ∃ y, xs (x3 + 1).toNatClampNeg = y := ⟨_, rfl⟩
  obtain ⟨a2, he2⟩ : ∃ y, xs (x3 + 2).toNatClampNeg = y := ⟨_, rfl⟩
  obtain ⟨r, SX1, SM1, hx1, hm1, hrel⟩ := hst SX SM hrel a1 a2
  refine lv_aload_n hx hb dL_law_207 rfl (lv_at hl 1 rfl) ?_
  refine lv_aload_n hx hb dL_law_208 rfl (lv_at hl 0 rfl) ?_
  refine lv_iload_n hx hb dL_law_209 rfl (lv_at hl 3 rfl) ?_
  refine lv_iconst (v := 1) hx hb dL_law_210 (by decide) ?_
  refine lv_iadd hx hb dL_law_211 ?_
  refine y_sld C hX hbl hbA hw hi1 he1 dL_law_212 ?_
  refine lv_aload_n hx hb dL_law_213 rfl (lv_at hl 0 rfl) ?_
  refine lv_iload_n hx hb dL_law_214 rfl (lv_at hl 3 rfl) ?_
  refine lv_iconst (v := 2) hx hb dL_law_215 (by decide) ?_
  refine lv_iadd hx hb dL_law_216 ?_
  refine y_sld C hX hbl hbA hw hi2 he2 dL_law_217 ?_
  have hw := y_swap hw
  refine y_callV C hw (mX7_as hx1) lkL_18 rfl (Nat.le_trans (Nat.le_of_ble_eq_true rfl) hR1) (Nat.le_trans (Nat.le_of_ble_eq_true rfl) hR2) hl.1 rfl (Nat.le_of_ble_eq_true rfl) hc1 hc2 dL_law_218 (fun H locs hw => ?_)
  have hw := y_swap hw
  refine lv_aload_n hx hb dL_law_221 rfl (lv_at hl 2 rfl) ?_
  refine lv_aload_n hx hb dL_law_222 rfl (lv_at hl 0 rfl) ?_
  refine lv_iload_n hx hb dL_law_223 rfl (lv_at hl 3 rfl) ?_
  refine lv_iconst (v := 1) hx hb dL_law_224 (by decide) ?_
  refine lv_iadd hx hb dL_law_225 ?_
  refine y_sld C hX hbl hbA hw hi1 he1 dL_law_226 ?_
  refine lv_aload_n hx hb dL_law_227 rfl (lv_at hl 0 rfl) ?_
  refine lv_iload_n hx hb dL_law_228 rfl (lv_at hl 3 rfl) ?_
  refine lv_iconst (v := 2) hx hb dL_law_229 (by decide) ?_
  refine lv_iadd hx hb dL_law_230 ?_
  refine y_sld C hX hbl hbA hw hi2 he2 dL_law_231 ?_
  refine y_callV C hw (mX8_as hm1) lkL_22 rfl (Nat.le_trans (Nat.le_of_ble_eq_true rfl) hR1) (Nat.le_trans (Nat.le_of_ble_eq_true rfl) hR2) hl.1 rfl (Nat.le_of_ble_eq_true rfl) hc1 hc2 dL_law_232 (fun H locs hw => ?_)
  refine lv_icmp_eq (tgt := 1191) hx hb dL_law_235 (by decide) (fun c => ?_) (fun c => absurd rfl c)
  exact next SX1 SM1 H locs ls hrel hw hl
set_option maxHeartbeats 4000000 in
set_option maxRecDepth 100000 in
theorem law_case2 {Rel : SS → SS → Prop} (hst : St2 Rel fX7_licence fX8_licence) {p : Program} {l : Launch} {e : Env} {R : Room} {s : State} {m : MethodId} {args : Array Value} {below : List Frame} {meth : Method} {c : Code} {cells slots : Nat} {Q : State → Prop} {D : va_G} {cI cZ : ClassId} {A : Nat → Prop} {adX adM : Nat → Nat} {b L : Nat} {xs : Nat → Int32} {x3 : Int32} {SX SM : SS} (C : MC p s m args meth c cL_law 4 R_law D cI cZ A ret) (hX : va_X b L xs s s.heap) (hbl : b < s.heap.size) (hbA : ¬ A b) (hR1 : 2048 ≤ R.frames) (hR2 : 84000 ≤ R.locals) (hc1 : cells ≤ R.cells) (hc2 : slots ≤ R.slots) (hi1 : vp_in (x3 + 1) L) (hi2 : vp_in (x3 + 2) L) (hrel : Rel SX SM) {H : Heap} {locs : List Loc} {ls : Array Slot} (hw : WL D A s.heap (wW lyX adX cI cZ SX ++ wW lyM adM cI cZ SM) H locs) (hl : lv_has ls 4 [(0, .ref b), (1, .ref (adX 0)), (2, .ref (adM 0)), (3, .int x3)])
    (next : ∀ (SX SM : SS) (H : Heap) (locs : List Loc) (ls : Array Slot), Rel SX SM → WL D A s.heap (wW lyX adX cI cZ SX ++ wW lyM adM cI cZ SM) H locs → lv_has ls 4 [(0, .ref b), (1, .ref (adX 0)), (2, .ref (adM 0)), (3, .int x3)] → W p l e R s m args below meth c H locs cells slots Q (F0 m 1191 ls [])) : W p l e R s m args below meth c H locs cells slots Q (F0 m 240 ls []) := by
  have hx := C.1
  have hb := C.2.1
  obtain ⟨a1, he1⟩ : ∃ y, xs (x3 + 1).toNatClampNeg = y := ⟨_, rfl⟩
  obtain ⟨a2, he2⟩ : ∃ y, xs (x3 + 2).toNatClampNeg = y := ⟨_, rfl⟩
  obtain ⟨r, SX1, SM1, hx1, hm1, hrel⟩ := hst SX SM hrel a1 a2
  refine lv_aload_n hx hb dL_law_240 rfl (lv_at hl 1 rfl) ?_
  refine lv_aload_n hx hb dL_law_241 rfl (lv_at hl 0 rfl) ?_
  refine lv_iload_n hx hb dL_law_242 rfl (lv_at hl 3 rfl) ?_
  refine lv_iconst (v := 1) hx hb dL_law_243 (by decide) ?_
  refine lv_iadd hx hb dL_law_244 ?_
  refine y_sld C hX hbl hbA hw hi1 he1 dL_law_245 ?_
  refine lv_aload_n hx hb dL_law_246 rfl (lv_at hl 0 rfl) ?_
  refine lv_iload_n hx hb dL_law_247 rfl (lv_at hl 3 rfl) ?_
  refine lv_iconst (v := 2) hx hb dL_law_248 (by decide) ?_
  refine lv_iadd hx hb dL_law_249 ?_
  refine y_sld C hX hbl hbA hw hi2 he2 dL_law_250 ?_
  have hw := y_swap hw
  refine y_callV C hw (mX7_licence hx1) lkL_23 rfl (Nat.le_trans (Nat.le_of_ble_eq_true rfl) hR1) (Nat.le_trans (Nat.le_of_ble_eq_true rfl) hR2) hl.1 rfl (Nat.le_of_ble_eq_true rfl) hc1 hc2 dL_law_251 (fun H locs hw => ?_)
  have hw := y_swap hw
  refine lv_aload_n hx hb dL_law_254 rfl (lv_at hl 2 rfl) ?_
  refine lv_aload_n hx hb dL_law_255 rfl (lv_at hl 0 rfl) ?_
  refine lv_iload_n hx hb dL_law_256 rfl (lv_at hl 3 rfl) ?_
  refine lv_iconst (v := 1) hx hb dL_law_257 (by decide) ?_
  refine lv_iadd hx hb dL_law_258 ?_
  refine y_sld C hX hbl hbA hw hi1 he1 dL_law_259 ?_
  refine lv_aload_n hx hb dL_law_260 rfl (lv_at hl 0 rfl) ?_
  refine lv_iload_n hx hb dL_law_261 rfl (lv_at hl 3 rfl) ?_
  refine lv_iconst (v := 2) hx hb dL_law_262 (by decide) ?_
  refine lv_iadd hx hb dL_law_263 ?_
  refine y_sld C hX hbl hbA hw hi2 he2 dL_law_264 ?_
  refine y_callV C hw (mX8_licence hm1) lkL_26 rfl (Nat.le_trans (Nat.le_of_ble_eq_true rfl) hR1) (Nat.le_trans (Nat.le_of_ble_eq_true rfl) hR2) hl.1 rfl (Nat.le_of_ble_eq_true rfl) hc1 hc2 dL_law_265 (fun H locs hw => ?_)
  refine lv_icmp_eq (tgt := 1191) hx hb dL_law_268 (by decide) (fun c => ?_) (fun c => absurd rfl c)
  exact next SX1 SM1 H locs ls hrel hw hl
set_option maxHeartbeats 4000000 in
set_option maxRecDepth 100000 in
theorem law_case3 {Rel : SS → SS → Prop} (hst : St3 Rel fX7_part fX8_part) {p : Program} {l : Launch} {e : Env} {R : Room} {s : State} {m : MethodId} {args : Array Value} {below : List Frame} {meth : Method} {c : Code} {cells slots : Nat} {Q : State → Prop} {D : va_G} {cI cZ : ClassId} {A : Nat → Prop} {adX adM : Nat → Nat} {b L : Nat} {xs : Nat → Int32} {x3 : Int32} {SX SM : SS} (C : MC p s m args meth c cL_law 4 R_law D cI cZ A ret) (hX : va_X b L xs s s.heap) (hbl : b < s.heap.size) (hbA : ¬ A b) (hR1 : 2048 ≤ R.frames) (hR2 : 84000 ≤ R.locals) (hc1 : cells ≤ R.cells) (hc2 : slots ≤ R.slots) (hi1 : vp_in (x3 + 1) L) (hi2 : vp_in (x3 + 2) L) (hi3 : vp_in (x3 + 3) L) (hrel : Rel SX SM) {H : Heap} {locs : List Loc} {ls : Array Slot} (hw : WL D A s.heap (wW lyX adX cI cZ SX ++ wW lyM adM cI cZ SM) H locs) (hl : lv_has ls 4 [(0, .ref b), (1, .ref (adX 0)), (2, .ref (adM 0)), (3, .int x3)])
    (next : ∀ (SX SM : SS) (H : Heap) (locs : List Loc) (ls : Array Slot), Rel SX SM → WL D A s.heap (wW lyX adX cI cZ SX ++ wW lyM adM cI cZ SM) H locs → lv_has ls 4 [(0, .ref b), (1, .ref (adX 0)), (2, .ref (adM 0)), (3, .int x3)] → W p l e R s m args below meth c H locs cells slots Q (F0 m 1191 ls [])) : W p l e R s m args below meth c H locs cells slots Q (F0 m 273 ls []) := by
  have hx := C.1
  have hb := C.2.1
  obtain ⟨a1, he1⟩ : ∃ y, xs (x3 + 1).toNatClampNeg = y := ⟨_, rfl⟩
  obtain ⟨a2, he2⟩ : ∃ y, xs (x3 + 2).toNatClampNeg = y := ⟨_, rfl⟩
  obtain ⟨a3, he3⟩ : ∃ y, xs (x3 + 3).toNatClampNeg = y := ⟨_, rfl⟩
  obtain ⟨r, SX1, SM1, hx1, hm1, hrel⟩ := hst SX SM hrel a1 a2 a3
  refine lv_aload_n hx hb dL_law_273 rfl (lv_at hl 1 rfl) ?_
  refine lv_aload_n hx hb dL_law_274 rfl (lv_at hl 0 rfl) ?_
  refine lv_iload_n hx hb dL_law_275 rfl (lv_at hl 3 rfl) ?_
  refine lv_iconst (v := 1) hx hb dL_law_276 (by decide) ?_
  refine lv_iadd hx hb dL_law_277 ?_
  refine y_sld C hX hbl hbA hw hi1 he1 dL_law_278 ?_
  refine lv_aload_n hx hb dL_law_279 rfl (lv_at hl 0 rfl) ?_
  refine lv_iload_n hx hb dL_law_280 rfl (lv_at hl 3 rfl) ?_
  refine lv_iconst (v := 2) hx hb dL_law_281 (by decide) ?_
  refine lv_iadd hx hb dL_law_282 ?_
  refine y_sld C hX hbl hbA hw hi2 he2 dL_law_283 ?_
  refine lv_aload_n hx hb dL_law_284 rfl (lv_at hl 0 rfl) ?_
  refine lv_iload_n hx hb dL_law_285 rfl (lv_at hl 3 rfl) ?_
  refine lv_iconst (v := 3) hx hb dL_law_286 (by decide) ?_
  refine lv_iadd hx hb dL_law_287 ?_
  refine y_sld C hX hbl hbA hw hi3 he3 dL_law_288 ?_
  have hw := y_swap hw
  refine y_callV C hw (mX7_part hx1) lkL_27 rfl (Nat.le_trans (Nat.le_of_ble_eq_true rfl) hR1) (Nat.le_trans (Nat.le_of_ble_eq_true rfl) hR2) hl.1 rfl (Nat.le_of_ble_eq_true rfl) hc1 hc2 dL_law_289 (fun H locs hw => ?_)
  have hw := y_swap hw
  refine lv_aload_n hx hb dL_law_292 rfl (lv_at hl 2 rfl) ?_
  refine lv_aload_n hx hb dL_law_293 rfl (lv_at hl 0 rfl) ?_
  refine lv_iload_n hx hb dL_law_294 rfl (lv_at hl 3 rfl) ?_
  refine lv_iconst (v := 1) hx hb dL_law_295 (by decide) ?_
  refine lv_iadd hx hb dL_law_296 ?_
  refine y_sld C hX hbl hbA hw hi1 he1 dL_law_297 ?_
  refine lv_aload_n hx hb dL_law_298 rfl (lv_at hl 0 rfl) ?_
  refine lv_iload_n hx hb dL_law_299 rfl (lv_at hl 3 rfl) ?_
  refine lv_iconst (v := 2) hx hb dL_law_300 (by decide) ?_
  refine lv_iadd hx hb dL_law_301 ?_
  refine y_sld C hX hbl hbA hw hi2 he2 dL_law_302 ?_
  refine lv_aload_n hx hb dL_law_303 rfl (lv_at hl 0 rfl) ?_
  refine lv_iload_n hx hb dL_law_304 rfl (lv_at hl 3 rfl) ?_
  refine lv_iconst (v := 3) hx hb dL_law_305 (by decide) ?_
  refine lv_iadd hx hb dL_law_306 ?_
  refine y_sld C hX hbl hbA hw hi3 he3 dL_law_307 ?_
  refine y_callV C hw (mX8_part hm1) lkL_30 rfl (Nat.le_trans (Nat.le_of_ble_eq_true rfl) hR1) (Nat.le_trans (Nat.le_of_ble_eq_true rfl) hR2) hl.1 rfl (Nat.le_of_ble_eq_true rfl) hc1 hc2 dL_law_308 (fun H locs hw => ?_)
  refine lv_icmp_eq (tgt := 1191) hx hb dL_law_311 (by decide) (fun c => ?_) (fun c => absurd rfl c)
  exact next SX1 SM1 H locs ls hrel hw hl
set_option maxHeartbeats 4000000 in
set_option maxRecDepth 100000 in
theorem law_case4 {Rel : SS → SS → Prop} (hst : St4 Rel fX7_worth fX8_worth) {p : Program} {l : Launch} {e : Env} {R : Room} {s : State} {m : MethodId} {args : Array Value} {below : List Frame} {meth : Method} {c : Code} {cells slots : Nat} {Q : State → Prop} {D : va_G} {cI cZ : ClassId} {A : Nat → Prop} {adX adM : Nat → Nat} {b L : Nat} {xs : Nat → Int32} {x3 : Int32} {SX SM : SS} (C : MC p s m args meth c cL_law 4 R_law D cI cZ A ret) (hX : va_X b L xs s s.heap) (hbl : b < s.heap.size) (hbA : ¬ A b) (hR1 : 2048 ≤ R.frames) (hR2 : 84000 ≤ R.locals) (hc1 : cells ≤ R.cells) (hc2 : slots ≤ R.slots) (hi1 : vp_in (x3 + 1) L) (hi2 : vp_in (x3 + 2) L) (hi3 : vp_in (x3 + 3) L) (hi4 : vp_in (x3 + 4) L) (hrel : Rel SX SM) {H : Heap} {locs : List Loc} {ls : Array Slot} (hw : WL D A s.heap (wW lyX adX cI cZ SX ++ wW lyM adM cI cZ SM) H locs) (hl : lv_has ls 4 [(0, .ref b), (1, .ref (adX 0)), (2, .ref (adM 0)), (3, .int x3)])
    (next : ∀ (SX SM : SS) (H : Heap) (locs : List Loc) (ls : Array Slot), Rel SX SM → WL D A s.heap (wW lyX adX cI cZ SX ++ wW lyM adM cI cZ SM) H locs → lv_has ls 4 [(0, .ref b), (1, .ref (adX 0)), (2, .ref (adM 0)), (3, .int x3)] → W p l e R s m args below meth c H locs cells slots Q (F0 m 1191 ls [])) : W p l e R s m args below meth c H locs cells slots Q (F0 m 316 ls []) := by
  have hx := C.1
  have hb := C.2.1
  obtain ⟨a1, he1⟩ : ∃ y, xs (x3 + 1).toNatClampNeg = y := ⟨_, rfl⟩
  obtain ⟨a2, he2⟩ : ∃ y, xs (x3 + 2).toNatClampNeg = y := ⟨_, rfl⟩
  obtain ⟨a3, he3⟩ : ∃ y, xs (x3 + 3).toNatClampNeg = y := ⟨_, rfl⟩
  obtain ⟨a4, he4⟩ : ∃ y, xs (x3 + 4).toNatClampNeg = y := ⟨_, rfl⟩
  obtain ⟨r, SX1, SM1, hx1, hm1, hrel⟩ := hst SX SM hrel a1 a2 a3 a4
  refine lv_aload_n hx hb dL_law_316 rfl (lv_at hl 1 rfl) ?_
  refine lv_aload_n hx hb dL_law_317 rfl (lv_at hl 0 rfl) ?_
  refine lv_iload_n hx hb dL_law_318 rfl (lv_at hl 3 rfl) ?_
  refine lv_iconst (v := 1) hx hb dL_law_319 (by decide) ?_
  refine lv_iadd hx hb dL_law_320 ?_
  refine y_sld C hX hbl hbA hw hi1 he1 dL_law_321 ?_
  refine lv_aload_n hx hb dL_law_322 rfl (lv_at hl 0 rfl) ?_
  refine lv_iload_n hx hb dL_law_323 rfl (lv_at hl 3 rfl) ?_
  refine lv_iconst (v := 2) hx hb dL_law_324 (by decide) ?_
  refine lv_iadd hx hb dL_law_325 ?_
  refine y_sld C hX hbl hbA hw hi2 he2 dL_law_326 ?_
  refine lv_aload_n hx hb dL_law_327 rfl (lv_at hl 0 rfl) ?_
  refine lv_iload_n hx hb dL_law_328 rfl (lv_at hl 3 rfl) ?_
  refine lv_iconst (v := 3) hx hb dL_law_329 (by decide) ?_
  refine lv_iadd hx hb dL_law_330 ?_
  refine y_sld C hX hbl hbA hw hi3 he3 dL_law_331 ?_
  refine lv_aload_n hx hb dL_law_332 rfl (lv_at hl 0 rfl) ?_
  refine lv_iload_n hx hb dL_law_333 rfl (lv_at hl 3 rfl) ?_
  refine lv_iconst (v := 4) hx hb dL_law_334 (by decide) ?_
  refine lv_iadd hx hb dL_law_335 ?_
  refine y_sld C hX hbl hbA hw hi4 he4 dL_law_336 ?_
  have hw := y_swap hw
  refine y_callV C hw (mX7_worth hx1) lkL_31 rfl (Nat.le_trans (Nat.le_of_ble_eq_true rfl) hR1) (Nat.le_trans (Nat.le_of_ble_eq_true rfl) hR2) hl.1 rfl (Nat.le_of_ble_eq_true rfl) hc1 hc2 dL_law_337 (fun H locs hw => ?_)
  have hw := y_swap hw
  refine lv_aload_n hx hb dL_law_340 rfl (lv_at hl 2 rfl) ?_
  refine lv_aload_n hx hb dL_law_341 rfl (lv_at hl 0 rfl) ?_
  refine lv_iload_n hx hb dL_law_342 rfl (lv_at hl 3 rfl) ?_
  refine lv_iconst (v := 1) hx hb dL_law_343 (by decide) ?_
  refine lv_iadd hx hb dL_law_344 ?_
  refine y_sld C hX hbl hbA hw hi1 he1 dL_law_345 ?_
  refine lv_aload_n hx hb dL_law_346 rfl (lv_at hl 0 rfl) ?_
  refine lv_iload_n hx hb dL_law_347 rfl (lv_at hl 3 rfl) ?_
  refine lv_iconst (v := 2) hx hb dL_law_348 (by decide) ?_
  refine lv_iadd hx hb dL_law_349 ?_
  refine y_sld C hX hbl hbA hw hi2 he2 dL_law_350 ?_
  refine lv_aload_n hx hb dL_law_351 rfl (lv_at hl 0 rfl) ?_
  refine lv_iload_n hx hb dL_law_352 rfl (lv_at hl 3 rfl) ?_
  refine lv_iconst (v := 3) hx hb dL_law_353 (by decide) ?_
  refine lv_iadd hx hb dL_law_354 ?_
  refine y_sld C hX hbl hbA hw hi3 he3 dL_law_355 ?_
  refine lv_aload_n hx hb dL_law_356 rfl (lv_at hl 0 rfl) ?_
  refine lv_iload_n hx hb dL_law_357 rfl (lv_at hl 3 rfl) ?_
  refine lv_iconst (v := 4) hx hb dL_law_358 (by decide) ?_
  refine lv_iadd hx hb dL_law_359 ?_
  refine y_sld C hX hbl hbA hw hi4 he4 dL_law_360 ?_
  refine y_callV C hw (mX8_worth hm1) lkL_35 rfl (Nat.le_trans (Nat.le_of_ble_eq_true rfl) hR1) (Nat.le_trans (Nat.le_of_ble_eq_true rfl) hR2) hl.1 rfl (Nat.le_of_ble_eq_true rfl) hc1 hc2 dL_law_361 (fun H locs hw => ?_)
  refine lv_icmp_eq (tgt := 1191) hx hb dL_law_364 (by decide) (fun c => ?_) (fun c => absurd rfl c)
  exact next SX1 SM1 H locs ls hrel hw hl
set_option maxHeartbeats 4000000 in
set_option maxRecDepth 100000 in
theorem law_case5 {Rel : SS → SS → Prop} (hst : St2 Rel fX7_way fX8_way) {p : Program} {l : Launch} {e : Env} {R : Room} {s : State} {m : MethodId} {args : Array Value} {below : List Frame} {meth : Method} {c : Code} {cells slots : Nat} {Q : State → Prop} {D : va_G} {cI cZ : ClassId} {A : Nat → Prop} {adX adM : Nat → Nat} {b L : Nat} {xs : Nat → Int32} {x3 : Int32} {SX SM : SS} (C : MC p s m args meth c cL_law 4 R_law D cI cZ A ret) (hX : va_X b L xs s s.heap) (hbl : b < s.heap.size) (hbA : ¬ A b) (hR1 : 2048 ≤ R.frames) (hR2 : 84000 ≤ R.locals) (hc1 : cells ≤ R.cells) (hc2 : slots ≤ R.slots) (hi1 : vp_in (x3 + 1) L) (hi2 : vp_in (x3 + 2) L) (hrel : Rel SX SM) {H : Heap} {locs : List Loc} {ls : Array Slot} (hw : WL D A s.heap (wW lyX adX cI cZ SX ++ wW lyM adM cI cZ SM) H locs) (hl : lv_has ls 4 [(0, .ref b), (1, .ref (adX 0)), (2, .ref (adM 0)), (3, .int x3)])
    (next : ∀ (SX SM : SS) (H : Heap) (locs : List Loc) (ls : Array Slot), Rel SX SM → WL D A s.heap (wW lyX adX cI cZ SX ++ wW lyM adM cI cZ SM) H locs → lv_has ls 4 [(0, .ref b), (1, .ref (adX 0)), (2, .ref (adM 0)), (3, .int x3)] → W p l e R s m args below meth c H locs cells slots Q (F0 m 1191 ls [])) : W p l e R s m args below meth c H locs cells slots Q (F0 m 369 ls []) := by
  have hx := C.1
  have hb := C.2.1
  obtain ⟨a1, he1⟩ : ∃ y, xs (x3 + 1).toNatClampNeg = y := ⟨_, rfl⟩
  obtain ⟨a2, he2⟩ : ∃ y, xs (x3 + 2).toNatClampNeg = y := ⟨_, rfl⟩
  obtain ⟨r, SX1, SM1, hx1, hm1, hrel⟩ := hst SX SM hrel a1 a2
  refine lv_aload_n hx hb dL_law_369 rfl (lv_at hl 1 rfl) ?_
  refine lv_aload_n hx hb dL_law_370 rfl (lv_at hl 0 rfl) ?_
  refine lv_iload_n hx hb dL_law_371 rfl (lv_at hl 3 rfl) ?_
  refine lv_iconst (v := 1) hx hb dL_law_372 (by decide) ?_
  refine lv_iadd hx hb dL_law_373 ?_
  refine y_sld C hX hbl hbA hw hi1 he1 dL_law_374 ?_
  refine lv_aload_n hx hb dL_law_375 rfl (lv_at hl 0 rfl) ?_
  refine lv_iload_n hx hb dL_law_376 rfl (lv_at hl 3 rfl) ?_
  refine lv_iconst (v := 2) hx hb dL_law_377 (by decide) ?_
  refine lv_iadd hx hb dL_law_378 ?_
  refine y_sld C hX hbl hbA hw hi2 he2 dL_law_379 ?_
  have hw := y_swap hw
  refine y_callV C hw (mX7_way hx1) lkL_36 rfl (Nat.le_trans (Nat.le_of_ble_eq_true rfl) hR1) (Nat.le_trans (Nat.le_of_ble_eq_true rfl) hR2) hl.1 rfl (Nat.le_of_ble_eq_true rfl) hc1 hc2 dL_law_380 (fun H locs hw => ?_)
  have hw := y_swap hw
  refine lv_aload_n hx hb dL_law_383 rfl (lv_at hl 2 rfl) ?_
  refine lv_aload_n hx hb dL_law_384 rfl (lv_at hl 0 rfl) ?_
  refine lv_iload_n hx hb dL_law_385 rfl (lv_at hl 3 rfl) ?_
  refine lv_iconst (v := 1) hx hb dL_law_386 (by decide) ?_
  refine lv_iadd hx hb dL_law_387 ?_
  refine y_sld C hX hbl hbA hw hi1 he1 dL_law_388 ?_
  refine lv_aload_n hx hb dL_law_389 rfl (lv_at hl 0 rfl) ?_
  refine lv_iload_n hx hb dL_law_390 rfl (lv_at hl 3 rfl) ?_
  refine lv_iconst (v := 2) hx hb dL_law_391 (by decide) ?_
  refine lv_iadd hx hb dL_law_392 ?_
  refine y_sld C hX hbl hbA hw hi2 he2 dL_law_393 ?_
  refine y_callV C hw (mX8_way hm1) lkL_39 rfl (Nat.le_trans (Nat.le_of_ble_eq_true rfl) hR1) (Nat.le_trans (Nat.le_of_ble_eq_true rfl) hR2) hl.1 rfl (Nat.le_of_ble_eq_true rfl) hc1 hc2 dL_law_394 (fun H locs hw => ?_)
  refine lv_icmp_eq (tgt := 1191) hx hb dL_law_397 (by decide) (fun c => ?_) (fun c => absurd rfl c)
  exact next SX1 SM1 H locs ls hrel hw hl
set_option maxHeartbeats 4000000 in
set_option maxRecDepth 100000 in
theorem law_case6 {Rel : SS → SS → Prop} (hst : St5 Rel fX7_rule fX8_rule) {p : Program} {l : Launch} {e : Env} {R : Room} {s : State} {m : MethodId} {args : Array Value} {below : List Frame} {meth : Method} {c : Code} {cells slots : Nat} {Q : State → Prop} {D : va_G} {cI cZ : ClassId} {A : Nat → Prop} {adX adM : Nat → Nat} {b L : Nat} {xs : Nat → Int32} {x3 : Int32} {SX SM : SS} (C : MC p s m args meth c cL_law 4 R_law D cI cZ A ret) (hX : va_X b L xs s s.heap) (hbl : b < s.heap.size) (hbA : ¬ A b) (hR1 : 2048 ≤ R.frames) (hR2 : 84000 ≤ R.locals) (hc1 : cells ≤ R.cells) (hc2 : slots ≤ R.slots) (hi1 : vp_in (x3 + 1) L) (hi2 : vp_in (x3 + 2) L) (hi3 : vp_in (x3 + 3) L) (hi4 : vp_in (x3 + 4) L) (hi5 : vp_in (x3 + 5) L) (hrel : Rel SX SM) {H : Heap} {locs : List Loc} {ls : Array Slot} (hw : WL D A s.heap (wW lyX adX cI cZ SX ++ wW lyM adM cI cZ SM) H locs) (hl : lv_has ls 4 [(0, .ref b), (1, .ref (adX 0)), (2, .ref (adM 0)), (3, .int x3)])
    (next : ∀ (SX SM : SS) (H : Heap) (locs : List Loc) (ls : Array Slot), Rel SX SM → WL D A s.heap (wW lyX adX cI cZ SX ++ wW lyM adM cI cZ SM) H locs → lv_has ls 4 [(0, .ref b), (1, .ref (adX 0)), (2, .ref (adM 0)), (3, .int x3)] → W p l e R s m args below meth c H locs cells slots Q (F0 m 1191 ls [])) : W p l e R s m args below meth c H locs cells slots Q (F0 m 402 ls []) := by
  have hx := C.1
  have hb := C.2.1
  obtain ⟨a1, he1⟩ : ∃ y, xs (x3 + 1).toNatClampNeg = y := ⟨_, rfl⟩
  obtain ⟨a2, he2⟩ : ∃ y, xs (x3 + 2).toNatClampNeg = y := ⟨_, rfl⟩
  obtain ⟨a3, he3⟩ : ∃ y, xs (x3 + 3).toNatClampNeg = y := ⟨_, rfl⟩
  obtain ⟨a4, he4⟩ : ∃ y, xs (x3 + 4).toNatClampNeg = y := ⟨_, rfl⟩
  obtain ⟨a5, he5⟩ : ∃ y, xs (x3 + 5).toNatClampNeg = y := ⟨_, rfl⟩
  obtain ⟨r, SX1, SM1, hx1, hm1, hrel⟩ := hst SX SM hrel a1 a2 a3 a4 a5
  refine lv_aload_n hx hb dL_law_402 rfl (lv_at hl 1 rfl) ?_
  refine lv_aload_n hx hb dL_law_403 rfl (lv_at hl 0 rfl) ?_
  refine lv_iload_n hx hb dL_law_404 rfl (lv_at hl 3 rfl) ?_
  refine lv_iconst (v := 1) hx hb dL_law_405 (by decide) ?_
  refine lv_iadd hx hb dL_law_406 ?_
  refine y_sld C hX hbl hbA hw hi1 he1 dL_law_407 ?_
  refine lv_aload_n hx hb dL_law_408 rfl (lv_at hl 0 rfl) ?_
  refine lv_iload_n hx hb dL_law_409 rfl (lv_at hl 3 rfl) ?_
  refine lv_iconst (v := 2) hx hb dL_law_410 (by decide) ?_
  refine lv_iadd hx hb dL_law_411 ?_
  refine y_sld C hX hbl hbA hw hi2 he2 dL_law_412 ?_
  refine lv_aload_n hx hb dL_law_413 rfl (lv_at hl 0 rfl) ?_
  refine lv_iload_n hx hb dL_law_414 rfl (lv_at hl 3 rfl) ?_
  refine lv_iconst (v := 3) hx hb dL_law_415 (by decide) ?_
  refine lv_iadd hx hb dL_law_416 ?_
  refine y_sld C hX hbl hbA hw hi3 he3 dL_law_417 ?_
  refine lv_aload_n hx hb dL_law_418 rfl (lv_at hl 0 rfl) ?_
  refine lv_iload_n hx hb dL_law_419 rfl (lv_at hl 3 rfl) ?_
  refine lv_iconst (v := 4) hx hb dL_law_420 (by decide) ?_
  refine lv_iadd hx hb dL_law_421 ?_
  refine y_sld C hX hbl hbA hw hi4 he4 dL_law_422 ?_
  refine lv_aload_n hx hb dL_law_423 rfl (lv_at hl 0 rfl) ?_
  refine lv_iload_n hx hb dL_law_424 rfl (lv_at hl 3 rfl) ?_
  refine lv_iconst (v := 5) hx hb dL_law_425 (by decide) ?_
  refine lv_iadd hx hb dL_law_426 ?_
  refine y_sld C hX hbl hbA hw hi5 he5 dL_law_427 ?_
  have hw := y_swap hw
  refine y_callV C hw (mX7_rule hx1) lkL_40 rfl (Nat.le_trans (Nat.le_of_ble_eq_true rfl) hR1) (Nat.le_trans (Nat.le_of_ble_eq_true rfl) hR2) hl.1 rfl (Nat.le_of_ble_eq_true rfl) hc1 hc2 dL_law_428 (fun H locs hw => ?_)
  have hw := y_swap hw
  refine lv_aload_n hx hb dL_law_431 rfl (lv_at hl 2 rfl) ?_
  refine lv_aload_n hx hb dL_law_432 rfl (lv_at hl 0 rfl) ?_
  refine lv_iload_n hx hb dL_law_433 rfl (lv_at hl 3 rfl) ?_
  refine lv_iconst (v := 1) hx hb dL_law_434 (by decide) ?_
  refine lv_iadd hx hb dL_law_435 ?_
  refine y_sld C hX hbl hbA hw hi1 he1 dL_law_436 ?_
  refine lv_aload_n hx hb dL_law_437 rfl (lv_at hl 0 rfl) ?_
  refine lv_iload_n hx hb dL_law_438 rfl (lv_at hl 3 rfl) ?_
  refine lv_iconst (v := 2) hx hb dL_law_439 (by decide) ?_
  refine lv_iadd hx hb dL_law_440 ?_
  refine y_sld C hX hbl hbA hw hi2 he2 dL_law_441 ?_
  refine lv_aload_n hx hb dL_law_442 rfl (lv_at hl 0 rfl) ?_
  refine lv_iload_n hx hb dL_law_443 rfl (lv_at hl 3 rfl) ?_
  refine lv_iconst (v := 3) hx hb dL_law_444 (by decide) ?_
  refine lv_iadd hx hb dL_law_445 ?_
  refine y_sld C hX hbl hbA hw hi3 he3 dL_law_446 ?_
  refine lv_aload_n hx hb dL_law_447 rfl (lv_at hl 0 rfl) ?_
  refine lv_iload_n hx hb dL_law_448 rfl (lv_at hl 3 rfl) ?_
  refine lv_iconst (v := 4) hx hb dL_law_449 (by decide) ?_
  refine lv_iadd hx hb dL_law_450 ?_
  refine y_sld C hX hbl hbA hw hi4 he4 dL_law_451 ?_
  refine lv_aload_n hx hb dL_law_452 rfl (lv_at hl 0 rfl) ?_
  refine lv_iload_n hx hb dL_law_453 rfl (lv_at hl 3 rfl) ?_
  refine lv_iconst (v := 5) hx hb dL_law_454 (by decide) ?_
  refine lv_iadd hx hb dL_law_455 ?_
  refine y_sld C hX hbl hbA hw hi5 he5 dL_law_456 ?_
  refine y_callV C hw (mX8_rule hm1) lkL_44 rfl (Nat.le_trans (Nat.le_of_ble_eq_true rfl) hR1) (Nat.le_trans (Nat.le_of_ble_eq_true rfl) hR2) hl.1 rfl (Nat.le_of_ble_eq_true rfl) hc1 hc2 dL_law_457 (fun H locs hw => ?_)
  refine lv_icmp_eq (tgt := 1191) hx hb dL_law_460 (by decide) (fun c => ?_) (fun c => absurd rfl c)
  exact next SX1 SM1 H locs ls hrel hw hl
set_option maxHeartbeats 4000000 in
set_option maxRecDepth 100000 in
theorem law_case7 {Rel : SS → SS → Prop} (hst : St3 Rel fX7_force fX8_force) {p : Program} {l : Launch} {e : Env} {R : Room} {s : State} {m : MethodId} {args : Array Value} {below : List Frame} {meth : Method} {c : Code} {cells slots : Nat} {Q : State → Prop} {D : va_G} {cI cZ : ClassId} {A : Nat → Prop} {adX adM : Nat → Nat} {b L : Nat} {xs : Nat → Int32} {x3 : Int32} {SX SM : SS} (C : MC p s m args meth c cL_law 4 R_law D cI cZ A ret) (hX : va_X b L xs s s.heap) (hbl : b < s.heap.size) (hbA : ¬ A b) (hR1 : 2048 ≤ R.frames) (hR2 : 84000 ≤ R.locals) (hc1 : cells ≤ R.cells) (hc2 : slots ≤ R.slots) (hi1 : vp_in (x3 + 1) L) (hi2 : vp_in (x3 + 2) L) (hi3 : vp_in (x3 + 3) L) (hrel : Rel SX SM) {H : Heap} {locs : List Loc} {ls : Array Slot} (hw : WL D A s.heap (wW lyX adX cI cZ SX ++ wW lyM adM cI cZ SM) H locs) (hl : lv_has ls 4 [(0, .ref b), (1, .ref (adX 0)), (2, .ref (adM 0)), (3, .int x3)])
    (next : ∀ (SX SM : SS) (H : Heap) (locs : List Loc) (ls : Array Slot), Rel SX SM → WL D A s.heap (wW lyX adX cI cZ SX ++ wW lyM adM cI cZ SM) H locs → lv_has ls 4 [(0, .ref b), (1, .ref (adX 0)), (2, .ref (adM 0)), (3, .int x3)] → W p l e R s m args below meth c H locs cells slots Q (F0 m 1191 ls [])) : W p l e R s m args below meth c H locs cells slots Q (F0 m 465 ls []) := by
  have hx := C.1
  have hb := C.2.1
  obtain ⟨a1, he1⟩ : ∃ y, xs (x3 + 1).toNatClampNeg = y := ⟨_, rfl⟩
  obtain ⟨a2, he2⟩ : ∃ y, xs (x3 + 2).toNatClampNeg = y := ⟨_, rfl⟩
  obtain ⟨a3, he3⟩ : ∃ y, xs (x3 + 3).toNatClampNeg = y := ⟨_, rfl⟩
  obtain ⟨r, SX1, SM1, hx1, hm1, hrel⟩ := hst SX SM hrel a1 a2 a3
  refine lv_aload_n hx hb dL_law_465 rfl (lv_at hl 1 rfl) ?_
  refine lv_aload_n hx hb dL_law_466 rfl (lv_at hl 0 rfl) ?_
  refine lv_iload_n hx hb dL_law_467 rfl (lv_at hl 3 rfl) ?_
  refine lv_iconst (v := 1) hx hb dL_law_468 (by decide) ?_
  refine lv_iadd hx hb dL_law_469 ?_
  refine y_sld C hX hbl hbA hw hi1 he1 dL_law_470 ?_
  refine lv_aload_n hx hb dL_law_471 rfl (lv_at hl 0 rfl) ?_
  refine lv_iload_n hx hb dL_law_472 rfl (lv_at hl 3 rfl) ?_
  refine lv_iconst (v := 2) hx hb dL_law_473 (by decide) ?_
  refine lv_iadd hx hb dL_law_474 ?_
  refine y_sld C hX hbl hbA hw hi2 he2 dL_law_475 ?_
  refine lv_aload_n hx hb dL_law_476 rfl (lv_at hl 0 rfl) ?_
  refine lv_iload_n hx hb dL_law_477 rfl (lv_at hl 3 rfl) ?_
  refine lv_iconst (v := 3) hx hb dL_law_478 (by decide) ?_
  refine lv_iadd hx hb dL_law_479 ?_
  refine y_sld C hX hbl hbA hw hi3 he3 dL_law_480 ?_
  have hw := y_swap hw
  refine y_callV C hw (mX7_force hx1) lkL_45 rfl (Nat.le_trans (Nat.le_of_ble_eq_true rfl) hR1) (Nat.le_trans (Nat.le_of_ble_eq_true rfl) hR2) hl.1 rfl (Nat.le_of_ble_eq_true rfl) hc1 hc2 dL_law_481 (fun H locs hw => ?_)
  have hw := y_swap hw
  refine lv_aload_n hx hb dL_law_484 rfl (lv_at hl 2 rfl) ?_
  refine lv_aload_n hx hb dL_law_485 rfl (lv_at hl 0 rfl) ?_
  refine lv_iload_n hx hb dL_law_486 rfl (lv_at hl 3 rfl) ?_
  refine lv_iconst (v := 1) hx hb dL_law_487 (by decide) ?_
  refine lv_iadd hx hb dL_law_488 ?_
  refine y_sld C hX hbl hbA hw hi1 he1 dL_law_489 ?_
  refine lv_aload_n hx hb dL_law_490 rfl (lv_at hl 0 rfl) ?_
  refine lv_iload_n hx hb dL_law_491 rfl (lv_at hl 3 rfl) ?_
  refine lv_iconst (v := 2) hx hb dL_law_492 (by decide) ?_
  refine lv_iadd hx hb dL_law_493 ?_
  refine y_sld C hX hbl hbA hw hi2 he2 dL_law_494 ?_
  refine lv_aload_n hx hb dL_law_495 rfl (lv_at hl 0 rfl) ?_
  refine lv_iload_n hx hb dL_law_496 rfl (lv_at hl 3 rfl) ?_
  refine lv_iconst (v := 3) hx hb dL_law_497 (by decide) ?_
  refine lv_iadd hx hb dL_law_498 ?_
  refine y_sld C hX hbl hbA hw hi3 he3 dL_law_499 ?_
  refine y_callV C hw (mX8_force hm1) lkL_48 rfl (Nat.le_trans (Nat.le_of_ble_eq_true rfl) hR1) (Nat.le_trans (Nat.le_of_ble_eq_true rfl) hR2) hl.1 rfl (Nat.le_of_ble_eq_true rfl) hc1 hc2 dL_law_500 (fun H locs hw => ?_)
  refine lv_icmp_eq (tgt := 1191) hx hb dL_law_503 (by decide) (fun c => ?_) (fun c => absurd rfl c)
  exact next SX1 SM1 H locs ls hrel hw hl
set_option maxHeartbeats 4000000 in
set_option maxRecDepth 100000 in
theorem law_case8 {Rel : SS → SS → Prop} (hst : St4 Rel fX7_has fX8_has) {p : Program} {l : Launch} {e : Env} {R : Room} {s : State} {m : MethodId} {args : Array Value} {below : List Frame} {meth : Method} {c : Code} {cells slots : Nat} {Q : State → Prop} {D : va_G} {cI cZ : ClassId} {A : Nat → Prop} {adX adM : Nat → Nat} {b L : Nat} {xs : Nat → Int32} {x3 : Int32} {SX SM : SS} (C : MC p s m args meth c cL_law 4 R_law D cI cZ A ret) (hX : va_X b L xs s s.heap) (hbl : b < s.heap.size) (hbA : ¬ A b) (hR1 : 2048 ≤ R.frames) (hR2 : 84000 ≤ R.locals) (hc1 : cells ≤ R.cells) (hc2 : slots ≤ R.slots) (hi1 : vp_in (x3 + 1) L) (hi2 : vp_in (x3 + 2) L) (hi3 : vp_in (x3 + 3) L) (hi4 : vp_in (x3 + 4) L) (hrel : Rel SX SM) {H : Heap} {locs : List Loc} {ls : Array Slot} (hw : WL D A s.heap (wW lyX adX cI cZ SX ++ wW lyM adM cI cZ SM) H locs) (hl : lv_has ls 4 [(0, .ref b), (1, .ref (adX 0)), (2, .ref (adM 0)), (3, .int x3)])
    (next : ∀ (SX SM : SS) (H : Heap) (locs : List Loc) (ls : Array Slot), Rel SX SM → WL D A s.heap (wW lyX adX cI cZ SX ++ wW lyM adM cI cZ SM) H locs → lv_has ls 4 [(0, .ref b), (1, .ref (adX 0)), (2, .ref (adM 0)), (3, .int x3)] → W p l e R s m args below meth c H locs cells slots Q (F0 m 1191 ls [])) : W p l e R s m args below meth c H locs cells slots Q (F0 m 508 ls []) := by
  have hx := C.1
  have hb := C.2.1
  obtain ⟨a1, he1⟩ : ∃ y, xs (x3 + 1).toNatClampNeg = y := ⟨_, rfl⟩
  obtain ⟨a2, he2⟩ : ∃ y, xs (x3 + 2).toNatClampNeg = y := ⟨_, rfl⟩
  obtain ⟨a3, he3⟩ : ∃ y, xs (x3 + 3).toNatClampNeg = y := ⟨_, rfl⟩
  obtain ⟨a4, he4⟩ : ∃ y, xs (x3 + 4).toNatClampNeg = y := ⟨_, rfl⟩
  obtain ⟨r, SX1, SM1, hx1, hm1, hrel⟩ := hst SX SM hrel a1 a2 a3 a4
  refine lv_aload_n hx hb dL_law_508 rfl (lv_at hl 1 rfl) ?_
  refine lv_aload_n hx hb dL_law_509 rfl (lv_at hl 0 rfl) ?_
  refine lv_iload_n hx hb dL_law_510 rfl (lv_at hl 3 rfl) ?_
  refine lv_iconst (v := 1) hx hb dL_law_511 (by decide) ?_
  refine lv_iadd hx hb dL_law_512 ?_
  refine y_sld C hX hbl hbA hw hi1 he1 dL_law_513 ?_
  refine lv_aload_n hx hb dL_law_514 rfl (lv_at hl 0 rfl) ?_
  refine lv_iload_n hx hb dL_law_515 rfl (lv_at hl 3 rfl) ?_
  refine lv_iconst (v := 2) hx hb dL_law_516 (by decide) ?_
  refine lv_iadd hx hb dL_law_517 ?_
  refine y_sld C hX hbl hbA hw hi2 he2 dL_law_518 ?_
  refine lv_aload_n hx hb dL_law_519 rfl (lv_at hl 0 rfl) ?_
  refine lv_iload_n hx hb dL_law_520 rfl (lv_at hl 3 rfl) ?_
  refine lv_iconst (v := 3) hx hb dL_law_521 (by decide) ?_
  refine lv_iadd hx hb dL_law_522 ?_
  refine y_sld C hX hbl hbA hw hi3 he3 dL_law_523 ?_
  refine lv_aload_n hx hb dL_law_524 rfl (lv_at hl 0 rfl) ?_
  refine lv_iload_n hx hb dL_law_525 rfl (lv_at hl 3 rfl) ?_
  refine lv_iconst (v := 4) hx hb dL_law_526 (by decide) ?_
  refine lv_iadd hx hb dL_law_527 ?_
  refine y_sld C hX hbl hbA hw hi4 he4 dL_law_528 ?_
  have hw := y_swap hw
  refine y_callV C hw (mX7_has hx1) lkL_49 rfl (Nat.le_trans (Nat.le_of_ble_eq_true rfl) hR1) (Nat.le_trans (Nat.le_of_ble_eq_true rfl) hR2) hl.1 rfl (Nat.le_of_ble_eq_true rfl) hc1 hc2 dL_law_529 (fun H locs hw => ?_)
  have hw := y_swap hw
  refine lv_aload_n hx hb dL_law_532 rfl (lv_at hl 2 rfl) ?_
  refine lv_aload_n hx hb dL_law_533 rfl (lv_at hl 0 rfl) ?_
  refine lv_iload_n hx hb dL_law_534 rfl (lv_at hl 3 rfl) ?_
  refine lv_iconst (v := 1) hx hb dL_law_535 (by decide) ?_
  refine lv_iadd hx hb dL_law_536 ?_
  refine y_sld C hX hbl hbA hw hi1 he1 dL_law_537 ?_
  refine lv_aload_n hx hb dL_law_538 rfl (lv_at hl 0 rfl) ?_
  refine lv_iload_n hx hb dL_law_539 rfl (lv_at hl 3 rfl) ?_
  refine lv_iconst (v := 2) hx hb dL_law_540 (by decide) ?_
  refine lv_iadd hx hb dL_law_541 ?_
  refine y_sld C hX hbl hbA hw hi2 he2 dL_law_542 ?_
  refine lv_aload_n hx hb dL_law_543 rfl (lv_at hl 0 rfl) ?_
  refine lv_iload_n hx hb dL_law_544 rfl (lv_at hl 3 rfl) ?_
  refine lv_iconst (v := 3) hx hb dL_law_545 (by decide) ?_
  refine lv_iadd hx hb dL_law_546 ?_
  refine y_sld C hX hbl hbA hw hi3 he3 dL_law_547 ?_
  refine lv_aload_n hx hb dL_law_548 rfl (lv_at hl 0 rfl) ?_
  refine lv_iload_n hx hb dL_law_549 rfl (lv_at hl 3 rfl) ?_
  refine lv_iconst (v := 4) hx hb dL_law_550 (by decide) ?_
  refine lv_iadd hx hb dL_law_551 ?_
  refine y_sld C hX hbl hbA hw hi4 he4 dL_law_552 ?_
  refine y_callV C hw (mX8_has hm1) lkL_52 rfl (Nat.le_trans (Nat.le_of_ble_eq_true rfl) hR1) (Nat.le_trans (Nat.le_of_ble_eq_true rfl) hR2) hl.1 rfl (Nat.le_of_ble_eq_true rfl) hc1 hc2 dL_law_553 (fun H locs hw => ?_)
  refine lv_icmp_eq (tgt := 1191) hx hb dL_law_556 (by decide) (fun c => ?_) (fun c => absurd rfl c)
  exact next SX1 SM1 H locs ls hrel hw hl
set_option maxHeartbeats 4000000 in
set_option maxRecDepth 100000 in
theorem law_case9 {Rel : SS → SS → Prop} (hst : St4 Rel fX7_why fX8_why) {p : Program} {l : Launch} {e : Env} {R : Room} {s : State} {m : MethodId} {args : Array Value} {below : List Frame} {meth : Method} {c : Code} {cells slots : Nat} {Q : State → Prop} {D : va_G} {cI cZ : ClassId} {A : Nat → Prop} {adX adM : Nat → Nat} {b L : Nat} {xs : Nat → Int32} {x3 : Int32} {SX SM : SS} (C : MC p s m args meth c cL_law 4 R_law D cI cZ A ret) (hX : va_X b L xs s s.heap) (hbl : b < s.heap.size) (hbA : ¬ A b) (hR1 : 2048 ≤ R.frames) (hR2 : 84000 ≤ R.locals) (hc1 : cells ≤ R.cells) (hc2 : slots ≤ R.slots) (hi1 : vp_in (x3 + 1) L) (hi2 : vp_in (x3 + 2) L) (hi3 : vp_in (x3 + 3) L) (hi4 : vp_in (x3 + 4) L) (hrel : Rel SX SM) {H : Heap} {locs : List Loc} {ls : Array Slot} (hw : WL D A s.heap (wW lyX adX cI cZ SX ++ wW lyM adM cI cZ SM) H locs) (hl : lv_has ls 4 [(0, .ref b), (1, .ref (adX 0)), (2, .ref (adM 0)), (3, .int x3)])
    (next : ∀ (SX SM : SS) (H : Heap) (locs : List Loc) (ls : Array Slot), Rel SX SM → WL D A s.heap (wW lyX adX cI cZ SX ++ wW lyM adM cI cZ SM) H locs → lv_has ls 4 [(0, .ref b), (1, .ref (adX 0)), (2, .ref (adM 0)), (3, .int x3)] → W p l e R s m args below meth c H locs cells slots Q (F0 m 1191 ls [])) : W p l e R s m args below meth c H locs cells slots Q (F0 m 561 ls []) := by
  have hx := C.1
  have hb := C.2.1
  obtain ⟨a1, he1⟩ : ∃ y, xs (x3 + 1).toNatClampNeg = y := ⟨_, rfl⟩
  obtain ⟨a2, he2⟩ : ∃ y, xs (x3 + 2).toNatClampNeg = y := ⟨_, rfl⟩
  obtain ⟨a3, he3⟩ : ∃ y, xs (x3 + 3).toNatClampNeg = y := ⟨_, rfl⟩
  obtain ⟨a4, he4⟩ : ∃ y, xs (x3 + 4).toNatClampNeg = y := ⟨_, rfl⟩
  obtain ⟨r, SX1, SM1, hx1, hm1, hrel⟩ := hst SX SM hrel a1 a2 a3 a4
  refine lv_aload_n hx hb dL_law_561 rfl (lv_at hl 1 rfl) ?_
  refine lv_aload_n hx hb dL_law_562 rfl (lv_at hl 0 rfl) ?_
  refine lv_iload_n hx hb dL_law_563 rfl (lv_at hl 3 rfl) ?_
  refine lv_iconst (v := 1) hx hb dL_law_564 (by decide) ?_
  refine lv_iadd hx hb dL_law_565 ?_
  refine y_sld C hX hbl hbA hw hi1 he1 dL_law_566 ?_
  refine lv_aload_n hx hb dL_law_567 rfl (lv_at hl 0 rfl) ?_
  refine lv_iload_n hx hb dL_law_568 rfl (lv_at hl 3 rfl) ?_
  refine lv_iconst (v := 2) hx hb dL_law_569 (by decide) ?_
  refine lv_iadd hx hb dL_law_570 ?_
  refine y_sld C hX hbl hbA hw hi2 he2 dL_law_571 ?_
  refine lv_aload_n hx hb dL_law_572 rfl (lv_at hl 0 rfl) ?_
  refine lv_iload_n hx hb dL_law_573 rfl (lv_at hl 3 rfl) ?_
  refine lv_iconst (v := 3) hx hb dL_law_574 (by decide) ?_
  refine lv_iadd hx hb dL_law_575 ?_
  refine y_sld C hX hbl hbA hw hi3 he3 dL_law_576 ?_
  refine lv_aload_n hx hb dL_law_577 rfl (lv_at hl 0 rfl) ?_
  refine lv_iload_n hx hb dL_law_578 rfl (lv_at hl 3 rfl) ?_
  refine lv_iconst (v := 4) hx hb dL_law_579 (by decide) ?_
  refine lv_iadd hx hb dL_law_580 ?_
  refine y_sld C hX hbl hbA hw hi4 he4 dL_law_581 ?_
  have hw := y_swap hw
  refine y_callV C hw (mX7_why hx1) lkL_53 rfl (Nat.le_trans (Nat.le_of_ble_eq_true rfl) hR1) (Nat.le_trans (Nat.le_of_ble_eq_true rfl) hR2) hl.1 rfl (Nat.le_of_ble_eq_true rfl) hc1 hc2 dL_law_582 (fun H locs hw => ?_)
  have hw := y_swap hw
  refine lv_aload_n hx hb dL_law_585 rfl (lv_at hl 2 rfl) ?_
  refine lv_aload_n hx hb dL_law_586 rfl (lv_at hl 0 rfl) ?_
  refine lv_iload_n hx hb dL_law_587 rfl (lv_at hl 3 rfl) ?_
  refine lv_iconst (v := 1) hx hb dL_law_588 (by decide) ?_
  refine lv_iadd hx hb dL_law_589 ?_
  refine y_sld C hX hbl hbA hw hi1 he1 dL_law_590 ?_
  refine lv_aload_n hx hb dL_law_591 rfl (lv_at hl 0 rfl) ?_
  refine lv_iload_n hx hb dL_law_592 rfl (lv_at hl 3 rfl) ?_
  refine lv_iconst (v := 2) hx hb dL_law_593 (by decide) ?_
  refine lv_iadd hx hb dL_law_594 ?_
  refine y_sld C hX hbl hbA hw hi2 he2 dL_law_595 ?_
  refine lv_aload_n hx hb dL_law_596 rfl (lv_at hl 0 rfl) ?_
  refine lv_iload_n hx hb dL_law_597 rfl (lv_at hl 3 rfl) ?_
  refine lv_iconst (v := 3) hx hb dL_law_598 (by decide) ?_
  refine lv_iadd hx hb dL_law_599 ?_
  refine y_sld C hX hbl hbA hw hi3 he3 dL_law_600 ?_
  refine lv_aload_n hx hb dL_law_601 rfl (lv_at hl 0 rfl) ?_
  refine lv_iload_n hx hb dL_law_602 rfl (lv_at hl 3 rfl) ?_
  refine lv_iconst (v := 4) hx hb dL_law_603 (by decide) ?_
  refine lv_iadd hx hb dL_law_604 ?_
  refine y_sld C hX hbl hbA hw hi4 he4 dL_law_605 ?_
  refine y_callV C hw (mX8_why hm1) lkL_56 rfl (Nat.le_trans (Nat.le_of_ble_eq_true rfl) hR1) (Nat.le_trans (Nat.le_of_ble_eq_true rfl) hR2) hl.1 rfl (Nat.le_of_ble_eq_true rfl) hc1 hc2 dL_law_606 (fun H locs hw => ?_)
  refine lv_icmp_eq (tgt := 1191) hx hb dL_law_609 (by decide) (fun c => ?_) (fun c => absurd rfl c)
  exact next SX1 SM1 H locs ls hrel hw hl
set_option maxHeartbeats 4000000 in
set_option maxRecDepth 100000 in
theorem law_case10 {Rel : SS → SS → Prop} (hst : St5 Rel fX7_panel fX8_panel) {p : Program} {l : Launch} {e : Env} {R : Room} {s : State} {m : MethodId} {args : Array Value} {below : List Frame} {meth : Method} {c : Code} {cells slots : Nat} {Q : State → Prop} {D : va_G} {cI cZ : ClassId} {A : Nat → Prop} {adX adM : Nat → Nat} {b L : Nat} {xs : Nat → Int32} {x3 : Int32} {SX SM : SS} (C : MC p s m args meth c cL_law 4 R_law D cI cZ A ret) (hX : va_X b L xs s s.heap) (hbl : b < s.heap.size) (hbA : ¬ A b) (hR1 : 2048 ≤ R.frames) (hR2 : 84000 ≤ R.locals) (hc1 : cells ≤ R.cells) (hc2 : slots ≤ R.slots) (hi1 : vp_in (x3 + 1) L) (hi2 : vp_in (x3 + 2) L) (hi3 : vp_in (x3 + 3) L) (hi4 : vp_in (x3 + 4) L) (hi5 : vp_in (x3 + 5) L) (hrel : Rel SX SM) {H : Heap} {locs : List Loc} {ls : Array Slot} (hw : WL D A s.heap (wW lyX adX cI cZ SX ++ wW lyM adM cI cZ SM) H locs) (hl : lv_has ls 4 [(0, .ref b), (1, .ref (adX 0)), (2, .ref (adM 0)), (3, .int x3)])
    (next : ∀ (SX SM : SS) (H : Heap) (locs : List Loc) (ls : Array Slot), Rel SX SM → WL D A s.heap (wW lyX adX cI cZ SX ++ wW lyM adM cI cZ SM) H locs → lv_has ls 4 [(0, .ref b), (1, .ref (adX 0)), (2, .ref (adM 0)), (3, .int x3)] → W p l e R s m args below meth c H locs cells slots Q (F0 m 1191 ls [])) : W p l e R s m args below meth c H locs cells slots Q (F0 m 614 ls []) := by
  have hx := C.1
  have hb := C.2.1
  obtain ⟨a1, he1⟩ : ∃ y, xs (x3 + 1).toNatClampNeg = y := ⟨_, rfl⟩
  obtain ⟨a2, he2⟩ : ∃ y, xs (x3 + 2).toNatClampNeg = y := ⟨_, rfl⟩
  obtain ⟨a3, he3⟩ : ∃ y, xs (x3 + 3).toNatClampNeg = y := ⟨_, rfl⟩
  obtain ⟨a4, he4⟩ : ∃ y, xs (x3 + 4).toNatClampNeg = y := ⟨_, rfl⟩
  obtain ⟨a5, he5⟩ : ∃ y, xs (x3 + 5).toNatClampNeg = y := ⟨_, rfl⟩
  obtain ⟨r, SX1, SM1, hx1, hm1, hrel⟩ := hst SX SM hrel a1 a2 a3 a4 a5
  refine lv_aload_n hx hb dL_law_614 rfl (lv_at hl 1 rfl) ?_
  refine lv_aload_n hx hb dL_law_615 rfl (lv_at hl 0 rfl) ?_
  refine lv_iload_n hx hb dL_law_616 rfl (lv_at hl 3 rfl) ?_
  refine lv_iconst (v := 1) hx hb dL_law_617 (by decide) ?_
  refine lv_iadd hx hb dL_law_618 ?_
  refine y_sld C hX hbl hbA hw hi1 he1 dL_law_619 ?_
  refine lv_aload_n hx hb dL_law_620 rfl (lv_at hl 0 rfl) ?_
  refine lv_iload_n hx hb dL_law_621 rfl (lv_at hl 3 rfl) ?_
  refine lv_iconst (v := 2) hx hb dL_law_622 (by decide) ?_
  refine lv_iadd hx hb dL_law_623 ?_
  refine y_sld C hX hbl hbA hw hi2 he2 dL_law_624 ?_
  refine lv_aload_n hx hb dL_law_625 rfl (lv_at hl 0 rfl) ?_
  refine lv_iload_n hx hb dL_law_626 rfl (lv_at hl 3 rfl) ?_
  refine lv_iconst (v := 3) hx hb dL_law_627 (by decide) ?_
  refine lv_iadd hx hb dL_law_628 ?_
  refine y_sld C hX hbl hbA hw hi3 he3 dL_law_629 ?_
  refine lv_aload_n hx hb dL_law_630 rfl (lv_at hl 0 rfl) ?_
  refine lv_iload_n hx hb dL_law_631 rfl (lv_at hl 3 rfl) ?_
  refine lv_iconst (v := 4) hx hb dL_law_632 (by decide) ?_
  refine lv_iadd hx hb dL_law_633 ?_
  refine y_sld C hX hbl hbA hw hi4 he4 dL_law_634 ?_
  refine lv_aload_n hx hb dL_law_635 rfl (lv_at hl 0 rfl) ?_
  refine lv_iload_n hx hb dL_law_636 rfl (lv_at hl 3 rfl) ?_
  refine lv_iconst (v := 5) hx hb dL_law_637 (by decide) ?_
  refine lv_iadd hx hb dL_law_638 ?_
  refine y_sld C hX hbl hbA hw hi5 he5 dL_law_639 ?_
  have hw := y_swap hw
  refine y_callV C hw (mX7_panel hx1) lkL_57 rfl (Nat.le_trans (Nat.le_of_ble_eq_true rfl) hR1) (Nat.le_trans (Nat.le_of_ble_eq_true rfl) hR2) hl.1 rfl (Nat.le_of_ble_eq_true rfl) hc1 hc2 dL_law_640 (fun H locs hw => ?_)
  have hw := y_swap hw
  refine lv_aload_n hx hb dL_law_643 rfl (lv_at hl 2 rfl) ?_
  refine lv_aload_n hx hb dL_law_644 rfl (lv_at hl 0 rfl) ?_
  refine lv_iload_n hx hb dL_law_645 rfl (lv_at hl 3 rfl) ?_
  refine lv_iconst (v := 1) hx hb dL_law_646 (by decide) ?_
  refine lv_iadd hx hb dL_law_647 ?_
  refine y_sld C hX hbl hbA hw hi1 he1 dL_law_648 ?_
  refine lv_aload_n hx hb dL_law_649 rfl (lv_at hl 0 rfl) ?_
  refine lv_iload_n hx hb dL_law_650 rfl (lv_at hl 3 rfl) ?_
  refine lv_iconst (v := 2) hx hb dL_law_651 (by decide) ?_
  refine lv_iadd hx hb dL_law_652 ?_
  refine y_sld C hX hbl hbA hw hi2 he2 dL_law_653 ?_
  refine lv_aload_n hx hb dL_law_654 rfl (lv_at hl 0 rfl) ?_
  refine lv_iload_n hx hb dL_law_655 rfl (lv_at hl 3 rfl) ?_
  refine lv_iconst (v := 3) hx hb dL_law_656 (by decide) ?_
  refine lv_iadd hx hb dL_law_657 ?_
  refine y_sld C hX hbl hbA hw hi3 he3 dL_law_658 ?_
  refine lv_aload_n hx hb dL_law_659 rfl (lv_at hl 0 rfl) ?_
  refine lv_iload_n hx hb dL_law_660 rfl (lv_at hl 3 rfl) ?_
  refine lv_iconst (v := 4) hx hb dL_law_661 (by decide) ?_
  refine lv_iadd hx hb dL_law_662 ?_
  refine y_sld C hX hbl hbA hw hi4 he4 dL_law_663 ?_
  refine lv_aload_n hx hb dL_law_664 rfl (lv_at hl 0 rfl) ?_
  refine lv_iload_n hx hb dL_law_665 rfl (lv_at hl 3 rfl) ?_
  refine lv_iconst (v := 5) hx hb dL_law_666 (by decide) ?_
  refine lv_iadd hx hb dL_law_667 ?_
  refine y_sld C hX hbl hbA hw hi5 he5 dL_law_668 ?_
  refine y_callV C hw (mX8_panel hm1) lkL_60 rfl (Nat.le_trans (Nat.le_of_ble_eq_true rfl) hR1) (Nat.le_trans (Nat.le_of_ble_eq_true rfl) hR2) hl.1 rfl (Nat.le_of_ble_eq_true rfl) hc1 hc2 dL_law_669 (fun H locs hw => ?_)
  refine lv_icmp_eq (tgt := 1191) hx hb dL_law_672 (by decide) (fun c => ?_) (fun c => absurd rfl c)
  exact next SX1 SM1 H locs ls hrel hw hl
set_option maxHeartbeats 4000000 in
set_option maxRecDepth 100000 in
theorem law_case11 {Rel : SS → SS → Prop} (hst : St5 Rel fX7_give fX8_give) {p : Program} {l : Launch} {e : Env} {R : Room} {s : State} {m : MethodId} {args : Array Value} {below : List Frame} {meth : Method} {c : Code} {cells slots : Nat} {Q : State → Prop} {D : va_G} {cI cZ : ClassId} {A : Nat → Prop} {adX adM : Nat → Nat} {b L : Nat} {xs : Nat → Int32} {x3 : Int32} {SX SM : SS} (C : MC p s m args meth c cL_law 4 R_law D cI cZ A ret) (hX : va_X b L xs s s.heap) (hbl : b < s.heap.size) (hbA : ¬ A b) (hR1 : 2048 ≤ R.frames) (hR2 : 84000 ≤ R.locals) (hc1 : cells ≤ R.cells) (hc2 : slots ≤ R.slots) (hi1 : vp_in (x3 + 1) L) (hi2 : vp_in (x3 + 2) L) (hi3 : vp_in (x3 + 3) L) (hi4 : vp_in (x3 + 4) L) (hi5 : vp_in (x3 + 5) L) (hrel : Rel SX SM) {H : Heap} {locs : List Loc} {ls : Array Slot} (hw : WL D A s.heap (wW lyX adX cI cZ SX ++ wW lyM adM cI cZ SM) H locs) (hl : lv_has ls 4 [(0, .ref b), (1, .ref (adX 0)), (2, .ref (adM 0)), (3, .int x3)])
    (next : ∀ (SX SM : SS) (H : Heap) (locs : List Loc) (ls : Array Slot), Rel SX SM → WL D A s.heap (wW lyX adX cI cZ SX ++ wW lyM adM cI cZ SM) H locs → lv_has ls 4 [(0, .ref b), (1, .ref (adX 0)), (2, .ref (adM 0)), (3, .int x3)] → W p l e R s m args below meth c H locs cells slots Q (F0 m 1191 ls [])) : W p l e R s m args below meth c H locs cells slots Q (F0 m 677 ls []) := by
  have hx := C.1
  have hb := C.2.1
  obtain ⟨a1, he1⟩ : ∃ y, xs (x3 + 1).toNatClampNeg = y := ⟨_, rfl⟩
  obtain ⟨a2, he2⟩ : ∃ y, xs (x3 + 2).toNatClampNeg = y := ⟨_, rfl⟩
  obtain ⟨a3, he3⟩ : ∃ y, xs (x3 + 3).toNatClampNeg = y := ⟨_, rfl⟩
  obtain ⟨a4, he4⟩ : ∃ y, xs (x3 + 4).toNatClampNeg = y := ⟨_, rfl⟩
  obtain ⟨a5, he5⟩ : ∃ y, xs (x3 + 5).toNatClampNeg = y := ⟨_, rfl⟩
  obtain ⟨r, SX1, SM1, hx1, hm1, hrel⟩ := hst SX SM hrel a1 a2 a3 a4 a5
  refine lv_aload_n hx hb dL_law_677 rfl (lv_at hl 1 rfl) ?_
  refine lv_aload_n hx hb dL_law_678 rfl (lv_at hl 0 rfl) ?_
  refine lv_iload_n hx hb dL_law_679 rfl (lv_at hl 3 rfl) ?_
  refine lv_iconst (v := 1) hx hb dL_law_680 (by decide) ?_
  refine lv_iadd hx hb dL_law_681 ?_
  refine y_sld C hX hbl hbA hw hi1 he1 dL_law_682 ?_
  refine lv_aload_n hx hb dL_law_683 rfl (lv_at hl 0 rfl) ?_
  refine lv_iload_n hx hb dL_law_684 rfl (lv_at hl 3 rfl) ?_
  refine lv_iconst (v := 2) hx hb dL_law_685 (by decide) ?_
  refine lv_iadd hx hb dL_law_686 ?_
  refine y_sld C hX hbl hbA hw hi2 he2 dL_law_687 ?_
  refine lv_aload_n hx hb dL_law_688 rfl (lv_at hl 0 rfl) ?_
  refine lv_iload_n hx hb dL_law_689 rfl (lv_at hl 3 rfl) ?_
  refine lv_iconst (v := 3) hx hb dL_law_690 (by decide) ?_
  refine lv_iadd hx hb dL_law_691 ?_
  refine y_sld C hX hbl hbA hw hi3 he3 dL_law_692 ?_
  refine lv_aload_n hx hb dL_law_693 rfl (lv_at hl 0 rfl) ?_
  refine lv_iload_n hx hb dL_law_694 rfl (lv_at hl 3 rfl) ?_
  refine lv_iconst (v := 4) hx hb dL_law_695 (by decide) ?_
  refine lv_iadd hx hb dL_law_696 ?_
  refine y_sld C hX hbl hbA hw hi4 he4 dL_law_697 ?_
  refine lv_aload_n hx hb dL_law_698 rfl (lv_at hl 0 rfl) ?_
  refine lv_iload_n hx hb dL_law_699 rfl (lv_at hl 3 rfl) ?_
  refine lv_iconst (v := 5) hx hb dL_law_700 (by decide) ?_
  refine lv_iadd hx hb dL_law_701 ?_
  refine y_sld C hX hbl hbA hw hi5 he5 dL_law_702 ?_
  have hw := y_swap hw
  refine y_callV C hw (mX7_give hx1) lkL_61 rfl (Nat.le_trans (Nat.le_of_ble_eq_true rfl) hR1) (Nat.le_trans (Nat.le_of_ble_eq_true rfl) hR2) hl.1 rfl (Nat.le_of_ble_eq_true rfl) hc1 hc2 dL_law_703 (fun H locs hw => ?_)
  have hw := y_swap hw
  refine lv_aload_n hx hb dL_law_706 rfl (lv_at hl 2 rfl) ?_
  refine lv_aload_n hx hb dL_law_707 rfl (lv_at hl 0 rfl) ?_
  refine lv_iload_n hx hb dL_law_708 rfl (lv_at hl 3 rfl) ?_
  refine lv_iconst (v := 1) hx hb dL_law_709 (by decide) ?_
  refine lv_iadd hx hb dL_law_710 ?_
  refine y_sld C hX hbl hbA hw hi1 he1 dL_law_711 ?_
  refine lv_aload_n hx hb dL_law_712 rfl (lv_at hl 0 rfl) ?_
  refine lv_iload_n hx hb dL_law_713 rfl (lv_at hl 3 rfl) ?_
  refine lv_iconst (v := 2) hx hb dL_law_714 (by decide) ?_
  refine lv_iadd hx hb dL_law_715 ?_
  refine y_sld C hX hbl hbA hw hi2 he2 dL_law_716 ?_
  refine lv_aload_n hx hb dL_law_717 rfl (lv_at hl 0 rfl) ?_
  refine lv_iload_n hx hb dL_law_718 rfl (lv_at hl 3 rfl) ?_
  refine lv_iconst (v := 3) hx hb dL_law_719 (by decide) ?_
  refine lv_iadd hx hb dL_law_720 ?_
  refine y_sld C hX hbl hbA hw hi3 he3 dL_law_721 ?_
  refine lv_aload_n hx hb dL_law_722 rfl (lv_at hl 0 rfl) ?_
  refine lv_iload_n hx hb dL_law_723 rfl (lv_at hl 3 rfl) ?_
  refine lv_iconst (v := 4) hx hb dL_law_724 (by decide) ?_
  refine lv_iadd hx hb dL_law_725 ?_
  refine y_sld C hX hbl hbA hw hi4 he4 dL_law_726 ?_
  refine lv_aload_n hx hb dL_law_727 rfl (lv_at hl 0 rfl) ?_
  refine lv_iload_n hx hb dL_law_728 rfl (lv_at hl 3 rfl) ?_
  refine lv_iconst (v := 5) hx hb dL_law_729 (by decide) ?_
  refine lv_iadd hx hb dL_law_730 ?_
  refine y_sld C hX hbl hbA hw hi5 he5 dL_law_731 ?_
  refine y_callV C hw (mX8_give hm1) lkL_64 rfl (Nat.le_trans (Nat.le_of_ble_eq_true rfl) hR1) (Nat.le_trans (Nat.le_of_ble_eq_true rfl) hR2) hl.1 rfl (Nat.le_of_ble_eq_true rfl) hc1 hc2 dL_law_732 (fun H locs hw => ?_)
  refine lv_icmp_eq (tgt := 1191) hx hb dL_law_735 (by decide) (fun c => ?_) (fun c => absurd rfl c)
  exact next SX1 SM1 H locs ls hrel hw hl
set_option maxHeartbeats 4000000 in
set_option maxRecDepth 100000 in
theorem law_case12 {Rel : SS → SS → Prop} (hst : St2 Rel fX7_entry fX8_entry) {p : Program} {l : Launch} {e : Env} {R : Room} {s : State} {m : MethodId} {args : Array Value} {below : List Frame} {meth : Method} {c : Code} {cells slots : Nat} {Q : State → Prop} {D : va_G} {cI cZ : ClassId} {A : Nat → Prop} {adX adM : Nat → Nat} {b L : Nat} {xs : Nat → Int32} {x3 : Int32} {SX SM : SS} (C : MC p s m args meth c cL_law 4 R_law D cI cZ A ret) (hX : va_X b L xs s s.heap) (hbl : b < s.heap.size) (hbA : ¬ A b) (hR1 : 2048 ≤ R.frames) (hR2 : 84000 ≤ R.locals) (hc1 : cells ≤ R.cells) (hc2 : slots ≤ R.slots) (hi1 : vp_in (x3 + 1) L) (hi2 : vp_in (x3 + 2) L) (hrel : Rel SX SM) {H : Heap} {locs : List Loc} {ls : Array Slot} (hw : WL D A s.heap (wW lyX adX cI cZ SX ++ wW lyM adM cI cZ SM) H locs) (hl : lv_has ls 4 [(0, .ref b), (1, .ref (adX 0)), (2, .ref (adM 0)), (3, .int x3)])
    (next : ∀ (SX SM : SS) (H : Heap) (locs : List Loc) (ls : Array Slot), Rel SX SM → WL D A s.heap (wW lyX adX cI cZ SX ++ wW lyM adM cI cZ SM) H locs → lv_has ls 4 [(0, .ref b), (1, .ref (adX 0)), (2, .ref (adM 0)), (3, .int x3)] → W p l e R s m args below meth c H locs cells slots Q (F0 m 1191 ls [])) : W p l e R s m args below meth c H locs cells slots Q (F0 m 740 ls []) := by
  have hx := C.1
  have hb := C.2.1
  obtain ⟨a1, he1⟩ : ∃ y, xs (x3 + 1).toNatClampNeg = y := ⟨_, rfl⟩
  obtain ⟨a2, he2⟩ : ∃ y, xs (x3 + 2).toNatClampNeg = y := ⟨_, rfl⟩
  obtain ⟨r, SX1, SM1, hx1, hm1, hrel⟩ := hst SX SM hrel a1 a2
  refine lv_aload_n hx hb dL_law_740 rfl (lv_at hl 1 rfl) ?_
  refine lv_aload_n hx hb dL_law_741 rfl (lv_at hl 0 rfl) ?_
  refine lv_iload_n hx hb dL_law_742 rfl (lv_at hl 3 rfl) ?_
  refine lv_iconst (v := 1) hx hb dL_law_743 (by decide) ?_
  refine lv_iadd hx hb dL_law_744 ?_
  refine y_sld C hX hbl hbA hw hi1 he1 dL_law_745 ?_
  refine lv_aload_n hx hb dL_law_746 rfl (lv_at hl 0 rfl) ?_
  refine lv_iload_n hx hb dL_law_747 rfl (lv_at hl 3 rfl) ?_
  refine lv_iconst (v := 2) hx hb dL_law_748 (by decide) ?_
  refine lv_iadd hx hb dL_law_749 ?_
  refine y_sld C hX hbl hbA hw hi2 he2 dL_law_750 ?_
  have hw := y_swap hw
  refine y_callV C hw (mX7_entry hx1) lkL_65 rfl (Nat.le_trans (Nat.le_of_ble_eq_true rfl) hR1) (Nat.le_trans (Nat.le_of_ble_eq_true rfl) hR2) hl.1 rfl (Nat.le_of_ble_eq_true rfl) hc1 hc2 dL_law_751 (fun H locs hw => ?_)
  have hw := y_swap hw
  refine lv_aload_n hx hb dL_law_754 rfl (lv_at hl 2 rfl) ?_
  refine lv_aload_n hx hb dL_law_755 rfl (lv_at hl 0 rfl) ?_
  refine lv_iload_n hx hb dL_law_756 rfl (lv_at hl 3 rfl) ?_
  refine lv_iconst (v := 1) hx hb dL_law_757 (by decide) ?_
  refine lv_iadd hx hb dL_law_758 ?_
  refine y_sld C hX hbl hbA hw hi1 he1 dL_law_759 ?_
  refine lv_aload_n hx hb dL_law_760 rfl (lv_at hl 0 rfl) ?_
  refine lv_iload_n hx hb dL_law_761 rfl (lv_at hl 3 rfl) ?_
  refine lv_iconst (v := 2) hx hb dL_law_762 (by decide) ?_
  refine lv_iadd hx hb dL_law_763 ?_
  refine y_sld C hX hbl hbA hw hi2 he2 dL_law_764 ?_
  refine y_callV C hw (mX8_entry hm1) lkL_68 rfl (Nat.le_trans (Nat.le_of_ble_eq_true rfl) hR1) (Nat.le_trans (Nat.le_of_ble_eq_true rfl) hR2) hl.1 rfl (Nat.le_of_ble_eq_true rfl) hc1 hc2 dL_law_765 (fun H locs hw => ?_)
  refine lv_icmp_eq (tgt := 1191) hx hb dL_law_768 (by decide) (fun c => ?_) (fun c => absurd rfl c)
  exact next SX1 SM1 H locs ls hrel hw hl
set_option maxHeartbeats 4000000 in
set_option maxRecDepth 100000 in
theorem law_case13 {Rel : SS → SS → Prop} (hst : St2 Rel fX7_stands fX8_stands) {p : Program} {l : Launch} {e : Env} {R : Room} {s : State} {m : MethodId} {args : Array Value} {below : List Frame} {meth : Method} {c : Code} {cells slots : Nat} {Q : State → Prop} {D : va_G} {cI cZ : ClassId} {A : Nat → Prop} {adX adM : Nat → Nat} {b L : Nat} {xs : Nat → Int32} {x3 : Int32} {SX SM : SS} (C : MC p s m args meth c cL_law 4 R_law D cI cZ A ret) (hX : va_X b L xs s s.heap) (hbl : b < s.heap.size) (hbA : ¬ A b) (hR1 : 2048 ≤ R.frames) (hR2 : 84000 ≤ R.locals) (hc1 : cells ≤ R.cells) (hc2 : slots ≤ R.slots) (hi1 : vp_in (x3 + 1) L) (hi2 : vp_in (x3 + 2) L) (hrel : Rel SX SM) {H : Heap} {locs : List Loc} {ls : Array Slot} (hw : WL D A s.heap (wW lyX adX cI cZ SX ++ wW lyM adM cI cZ SM) H locs) (hl : lv_has ls 4 [(0, .ref b), (1, .ref (adX 0)), (2, .ref (adM 0)), (3, .int x3)])
    (next : ∀ (SX SM : SS) (H : Heap) (locs : List Loc) (ls : Array Slot), Rel SX SM → WL D A s.heap (wW lyX adX cI cZ SX ++ wW lyM adM cI cZ SM) H locs → lv_has ls 4 [(0, .ref b), (1, .ref (adX 0)), (2, .ref (adM 0)), (3, .int x3)] → W p l e R s m args below meth c H locs cells slots Q (F0 m 1191 ls [])) : W p l e R s m args below meth c H locs cells slots Q (F0 m 773 ls []) := by
  have hx := C.1
  have hb := C.2.1
  obtain ⟨a1, he1⟩ : ∃ y, xs (x3 + 1).toNatClampNeg = y := ⟨_, rfl⟩
  obtain ⟨a2, he2⟩ : ∃ y, xs (x3 + 2).toNatClampNeg = y := ⟨_, rfl⟩
  obtain ⟨r, SX1, SM1, hx1, hm1, hrel⟩ := hst SX SM hrel a1 a2
  refine lv_aload_n hx hb dL_law_773 rfl (lv_at hl 1 rfl) ?_
  refine lv_aload_n hx hb dL_law_774 rfl (lv_at hl 0 rfl) ?_
  refine lv_iload_n hx hb dL_law_775 rfl (lv_at hl 3 rfl) ?_
  refine lv_iconst (v := 1) hx hb dL_law_776 (by decide) ?_
  refine lv_iadd hx hb dL_law_777 ?_
  refine y_sld C hX hbl hbA hw hi1 he1 dL_law_778 ?_
  refine lv_aload_n hx hb dL_law_779 rfl (lv_at hl 0 rfl) ?_
  refine lv_iload_n hx hb dL_law_780 rfl (lv_at hl 3 rfl) ?_
  refine lv_iconst (v := 2) hx hb dL_law_781 (by decide) ?_
  refine lv_iadd hx hb dL_law_782 ?_
  refine y_sld C hX hbl hbA hw hi2 he2 dL_law_783 ?_
  have hw := y_swap hw
  refine y_callV C hw (mX7_stands hx1) lkL_69 rfl (Nat.le_trans (Nat.le_of_ble_eq_true rfl) hR1) (Nat.le_trans (Nat.le_of_ble_eq_true rfl) hR2) hl.1 rfl (Nat.le_of_ble_eq_true rfl) hc1 hc2 dL_law_784 (fun H locs hw => ?_)
  have hw := y_swap hw
  refine lv_aload_n hx hb dL_law_787 rfl (lv_at hl 2 rfl) ?_
  refine lv_aload_n hx hb dL_law_788 rfl (lv_at hl 0 rfl) ?_
  refine lv_iload_n hx hb dL_law_789 rfl (lv_at hl 3 rfl) ?_
  refine lv_iconst (v := 1) hx hb dL_law_790 (by decide) ?_
  refine lv_iadd hx hb dL_law_791 ?_
  refine y_sld C hX hbl hbA hw hi1 he1 dL_law_792 ?_
  refine lv_aload_n hx hb dL_law_793 rfl (lv_at hl 0 rfl) ?_
  refine lv_iload_n hx hb dL_law_794 rfl (lv_at hl 3 rfl) ?_
  refine lv_iconst (v := 2) hx hb dL_law_795 (by decide) ?_
  refine lv_iadd hx hb dL_law_796 ?_
  refine y_sld C hX hbl hbA hw hi2 he2 dL_law_797 ?_
  refine y_callV C hw (mX8_stands hm1) lkL_72 rfl (Nat.le_trans (Nat.le_of_ble_eq_true rfl) hR1) (Nat.le_trans (Nat.le_of_ble_eq_true rfl) hR2) hl.1 rfl (Nat.le_of_ble_eq_true rfl) hc1 hc2 dL_law_798 (fun H locs hw => ?_)
  refine lv_icmp_eq (tgt := 1191) hx hb dL_law_801 (by decide) (fun c => ?_) (fun c => absurd rfl c)
  exact next SX1 SM1 H locs ls hrel hw hl
set_option maxHeartbeats 4000000 in
set_option maxRecDepth 100000 in
theorem law_case14 {Rel : SS → SS → Prop} (hst : St3 Rel fX7_strike fX8_strike) {p : Program} {l : Launch} {e : Env} {R : Room} {s : State} {m : MethodId} {args : Array Value} {below : List Frame} {meth : Method} {c : Code} {cells slots : Nat} {Q : State → Prop} {D : va_G} {cI cZ : ClassId} {A : Nat → Prop} {adX adM : Nat → Nat} {b L : Nat} {xs : Nat → Int32} {x3 : Int32} {SX SM : SS} (C : MC p s m args meth c cL_law 4 R_law D cI cZ A ret) (hX : va_X b L xs s s.heap) (hbl : b < s.heap.size) (hbA : ¬ A b) (hR1 : 2048 ≤ R.frames) (hR2 : 84000 ≤ R.locals) (hc1 : cells ≤ R.cells) (hc2 : slots ≤ R.slots) (hi1 : vp_in (x3 + 1) L) (hi2 : vp_in (x3 + 2) L) (hi3 : vp_in (x3 + 3) L) (hrel : Rel SX SM) {H : Heap} {locs : List Loc} {ls : Array Slot} (hw : WL D A s.heap (wW lyX adX cI cZ SX ++ wW lyM adM cI cZ SM) H locs) (hl : lv_has ls 4 [(0, .ref b), (1, .ref (adX 0)), (2, .ref (adM 0)), (3, .int x3)])
    (next : ∀ (SX SM : SS) (H : Heap) (locs : List Loc) (ls : Array Slot), Rel SX SM → WL D A s.heap (wW lyX adX cI cZ SX ++ wW lyM adM cI cZ SM) H locs → lv_has ls 4 [(0, .ref b), (1, .ref (adX 0)), (2, .ref (adM 0)), (3, .int x3)] → W p l e R s m args below meth c H locs cells slots Q (F0 m 1191 ls [])) : W p l e R s m args below meth c H locs cells slots Q (F0 m 806 ls []) := by
  have hx := C.1
  have hb := C.2.1
  obtain ⟨a1, he1⟩ : ∃ y, xs (x3 + 1).toNatClampNeg = y := ⟨_, rfl⟩
  obtain ⟨a2, he2⟩ : ∃ y, xs (x3 + 2).toNatClampNeg = y := ⟨_, rfl⟩
  obtain ⟨a3, he3⟩ : ∃ y, xs (x3 + 3).toNatClampNeg = y := ⟨_, rfl⟩
  obtain ⟨r, SX1, SM1, hx1, hm1, hrel⟩ := hst SX SM hrel a1 a2 a3
  refine lv_aload_n hx hb dL_law_806 rfl (lv_at hl 1 rfl) ?_
  refine lv_aload_n hx hb dL_law_807 rfl (lv_at hl 0 rfl) ?_
  refine lv_iload_n hx hb dL_law_808 rfl (lv_at hl 3 rfl) ?_
  refine lv_iconst (v := 1) hx hb dL_law_809 (by decide) ?_
  refine lv_iadd hx hb dL_law_810 ?_
  refine y_sld C hX hbl hbA hw hi1 he1 dL_law_811 ?_
  refine lv_aload_n hx hb dL_law_812 rfl (lv_at hl 0 rfl) ?_
  refine lv_iload_n hx hb dL_law_813 rfl (lv_at hl 3 rfl) ?_
  refine lv_iconst (v := 2) hx hb dL_law_814 (by decide) ?_
  refine lv_iadd hx hb dL_law_815 ?_
  refine y_sld C hX hbl hbA hw hi2 he2 dL_law_816 ?_
  refine lv_aload_n hx hb dL_law_817 rfl (lv_at hl 0 rfl) ?_
  refine lv_iload_n hx hb dL_law_818 rfl (lv_at hl 3 rfl) ?_
  refine lv_iconst (v := 3) hx hb dL_law_819 (by decide) ?_
  refine lv_iadd hx hb dL_law_820 ?_
  refine y_sld C hX hbl hbA hw hi3 he3 dL_law_821 ?_
  have hw := y_swap hw
  refine y_callV C hw (mX7_strike hx1) lkL_73 rfl (Nat.le_trans (Nat.le_of_ble_eq_true rfl) hR1) (Nat.le_trans (Nat.le_of_ble_eq_true rfl) hR2) hl.1 rfl (Nat.le_of_ble_eq_true rfl) hc1 hc2 dL_law_822 (fun H locs hw => ?_)
  have hw := y_swap hw
  refine lv_aload_n hx hb dL_law_825 rfl (lv_at hl 2 rfl) ?_
  refine lv_aload_n hx hb dL_law_826 rfl (lv_at hl 0 rfl) ?_
  refine lv_iload_n hx hb dL_law_827 rfl (lv_at hl 3 rfl) ?_
  refine lv_iconst (v := 1) hx hb dL_law_828 (by decide) ?_
  refine lv_iadd hx hb dL_law_829 ?_
  refine y_sld C hX hbl hbA hw hi1 he1 dL_law_830 ?_
  refine lv_aload_n hx hb dL_law_831 rfl (lv_at hl 0 rfl) ?_
  refine lv_iload_n hx hb dL_law_832 rfl (lv_at hl 3 rfl) ?_
  refine lv_iconst (v := 2) hx hb dL_law_833 (by decide) ?_
  refine lv_iadd hx hb dL_law_834 ?_
  refine y_sld C hX hbl hbA hw hi2 he2 dL_law_835 ?_
  refine lv_aload_n hx hb dL_law_836 rfl (lv_at hl 0 rfl) ?_
  refine lv_iload_n hx hb dL_law_837 rfl (lv_at hl 3 rfl) ?_
  refine lv_iconst (v := 3) hx hb dL_law_838 (by decide) ?_
  refine lv_iadd hx hb dL_law_839 ?_
  refine y_sld C hX hbl hbA hw hi3 he3 dL_law_840 ?_
  refine y_callV C hw (mX8_strike hm1) lkL_76 rfl (Nat.le_trans (Nat.le_of_ble_eq_true rfl) hR1) (Nat.le_trans (Nat.le_of_ble_eq_true rfl) hR2) hl.1 rfl (Nat.le_of_ble_eq_true rfl) hc1 hc2 dL_law_841 (fun H locs hw => ?_)
  refine lv_icmp_eq (tgt := 1191) hx hb dL_law_844 (by decide) (fun c => ?_) (fun c => absurd rfl c)
  exact next SX1 SM1 H locs ls hrel hw hl
