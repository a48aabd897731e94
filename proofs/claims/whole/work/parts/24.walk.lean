set_option maxHeartbeats 4000000 in
set_option maxRecDepth 100000 in
theorem mX8_whyOf {N : Nat} {l : Launch} {D : va_G} {ad : Nat → Nat} {cI cZ : ClassId} {S Sz : SS} {x1 x2 x3 x4 : Int32} {rz : Int32} (h : fX8_whyOf N S x1 x2 x3 x4 = some (rz, Sz)) : MI l D lyM ad cI cZ yX8_whyOf cX8_whyOf 9 (some .int) 3 [.ref (ad 0), .int x1, .int x2, .int x3, .int x4] S rz Sz := by
  refine x_startI RX8 (by decide) rfl (Nat.le_of_ble_eq_true rfl) ?_
  intro p e s m args below meth c A C hw ls hl
  have hx := C.1
  have hb := C.2.1
  have hown := C.2.2.2.1
  have hts := C.2.2.2.2.1
  have hl : lv_has ls 9 [(0, .ref (ad 0)), (1, .int x1), (2, .int x2), (3, .int x3), (4, .int x4)] := hl
  have B208 : ∀ n : Nat, ∀ (S : SS) (x1 x4 x5 x6 x7 : Int32) (H : Heap) (locs : List Loc) (ls : Array Slot), fX8_whyOf_b208 N n S x1 x4 x5 x6 x7 = some (rz, Sz) → WH D A s.heap lyM ad cI cZ S H locs → lv_has ls 9 [(0, .ref (ad 0)), (1, .int x1), (4, .int x4), (5, .int x5), (6, .int x6), (7, .int x7)] → W p l e (rmK 3) s m args below meth c H locs 0 0 (MQ below (Qi D lyM ad cI cZ A rz Sz) args s 0 0 A) (F0 m 208 ls []) := by
    intro n
    induction n with
    | zero =>
      intro S x1 x4 x5 x6 x7 H locs ls h hw hl
      rw [fX8_whyOf_b208] at h
      cases h
    | succ n ih208 =>
      intro S x1 x4 x5 x6 x7 H locs ls h hw hl
      rw [fX8_whyOf_b208] at h
      refine lv_iload hx hb dX8_whyOf_208 (lv_at hl 5 rfl) ?_
      refine lv_bipush (v := 8) hx hb dX8_whyOf_210 (by decide) ?_
      refine lv_icmp_ge (tgt := 273) hx hb dX8_whyOf_212 (by decide) (fun c => ?_) (fun c => ?_)
      · have h := (it_d h).1 c
        refine lv_iconst (v := 0) hx hb dX8_whyOf_273 (by decide) ?_
        exact x_iret C hw h dX8_whyOf_274
      · have h := (it_d h).2 c
        refine lv_aload_n hx hb dX8_whyOf_215 rfl (lv_at hl 0 rfl) ?_
        refine x_getR C hw gtX8_22 dX8_whyOf_216 ?_
        refine lv_bipush (v := 8) hx hb dX8_whyOf_219 (by decide) ?_
        refine lv_iload_n hx hb dX8_whyOf_221 rfl (lv_at hl 1 rfl) ?_
        refine lv_imul hx hb dX8_whyOf_222 ?_
        refine lv_iload hx hb dX8_whyOf_223 (lv_at hl 5 rfl) ?_
        refine lv_iadd hx hb dX8_whyOf_225 ?_
        obtain ⟨v1, hv, h⟩ := bb_some h
        refine x_ald C hw alM_5 hv dX8_whyOf_226 ?_
        refine lv_istore (lv' := [(8, .int v1), (0, .ref (ad 0)), (1, .int x1), (4, .int x4), (5, .int x5), (6, .int x6), (7, .int x7)]) hx hb dX8_whyOf_227 hl (by decide) rfl (fun ls hl => ?_)
        refine lv_aload_n hx hb dX8_whyOf_229 rfl (lv_at hl 1 rfl) ?_
        refine x_getR C hw gtX8_43 dX8_whyOf_230 ?_
        refine lv_iload hx hb dX8_whyOf_233 (lv_at hl 4 rfl) ?_
        obtain ⟨v2, hv, h⟩ := bb_some h
        refine x_ald C hw alM_12 hv dX8_whyOf_235 ?_
        refine lv_iload hx hb dX8_whyOf_236 (lv_at hl 6 rfl) ?_
        refine lv_ishr hx hb dX8_whyOf_238 ?_
        refine lv_iconst (v := 1) hx hb dX8_whyOf_239 (by decide) ?_
        refine lv_iand hx hb dX8_whyOf_240 ?_
        refine lv_iconst (v := 1) hx hb dX8_whyOf_241 (by decide) ?_
        refine lv_icmp_ne (tgt := 267) hx hb dX8_whyOf_242 (by decide) (fun c => ?_) (fun c => ?_)
        · have h := (it_d h).2 c
          refine lv_iinc (v := (x7 + 1)) (lv' := [(7, .int (x7 + 1)), (8, .int v1), (0, .ref (ad 0)), (1, .int x1), (4, .int x4), (5, .int x5), (6, .int x6)]) hx hb dX8_whyOf_267 hl (k := 6) rfl rfl (by decide) rfl (fun ls hl => ?_)
          refine lv_goto (tgt := 208) hx hb dX8_whyOf_270 (by decide) ?_
          exact ih208 S x1 x4 x5 x6 (x7 + 1) _ _ ls h hw (lv_sub hl [2, 3, 4, 5, 6, 0] rfl)
        · have h := (it_d h).1 c
          refine lv_iload hx hb dX8_whyOf_245 (lv_at hl 0 rfl) ?_
          refine lv_if_lt (tgt := 264) hx hb dX8_whyOf_247 (by decide) (fun c => ?_) (fun c => ?_)
          · have h := (it_d h).1 c
            refine lv_bipush (v := 6) hx hb dX8_whyOf_264 (by decide) ?_
            exact x_iret C hw h dX8_whyOf_266
          · have h := (it_d h).2 c
            refine lv_iload hx hb dX8_whyOf_250 (lv_at hl 0 rfl) ?_
            refine lv_iload hx hb dX8_whyOf_252 (lv_at hl 3 rfl) ?_
            refine lv_icmp_gt (tgt := 264) hx hb dX8_whyOf_254 (by decide) (fun c => ?_) (fun c => ?_)
            · have h := (it_d h).1 c
              refine lv_bipush (v := 6) hx hb dX8_whyOf_264 (by decide) ?_
              exact x_iret C hw h dX8_whyOf_266
            · have h := (it_d h).2 c
              refine lv_iload hx hb dX8_whyOf_257 (lv_at hl 0 rfl) ?_
              refine lv_iload hx hb dX8_whyOf_259 (lv_at hl 5 rfl) ?_
              refine lv_icmp_ge (tgt := 267) hx hb dX8_whyOf_261 (by decide) (fun c => ?_) (fun c => ?_)
              · have h := (it_d h).1 c
                refine lv_iinc (v := (x7 + 1)) (lv' := [(7, .int (x7 + 1)), (8, .int v1), (0, .ref (ad 0)), (1, .int x1), (4, .int x4), (5, .int x5), (6, .int x6)]) hx hb dX8_whyOf_267 hl (k := 6) rfl rfl (by decide) rfl (fun ls hl => ?_)
                refine lv_goto (tgt := 208) hx hb dX8_whyOf_270 (by decide) ?_
                exact ih208 S x1 x4 x5 x6 (x7 + 1) _ _ ls h hw (lv_sub hl [2, 3, 4, 5, 6, 0] rfl)
              · have h := (it_d h).2 c
                refine lv_bipush (v := 6) hx hb dX8_whyOf_264 (by decide) ?_
                exact x_iret C hw h dX8_whyOf_266
  have B200 : ∀ (S : SS) (x1 x4 x5 x6 t0 t1 : Int32) (H : Heap) (locs : List Loc) (ls : Array Slot), fX8_whyOf_b200 N S x1 x4 x5 x6 t0 t1 = some (rz, Sz) → WH D A s.heap lyM ad cI cZ S H locs → lv_has ls 9 [(0, .ref (ad 0)), (1, .int x1), (4, .int x4), (5, .int x5), (6, .int x6)] → W p l e (rmK 3) s m args below meth c H locs 0 0 (MQ below (Qi D lyM ad cI cZ A rz Sz) args s 0 0 A) (F0 m 200 ls [.int t1, .int t0]) := by
    intro S x1 x4 x5 x6 t0 t1 H locs ls h hw hl
    unfold fX8_whyOf_b200 at h
    refine lv_icmp_ge (tgt := 205) hx hb dX8_whyOf_200 (by decide) (fun c => ?_) (fun c => ?_)
    · have h := (it_d h).1 c
      refine lv_iconst (v := 0) hx hb dX8_whyOf_205 (by decide) ?_
      refine lv_istore (lv' := [(7, .int 0), (0, .ref (ad 0)), (1, .int x1), (4, .int x4), (5, .int x5), (6, .int x6)]) hx hb dX8_whyOf_206 hl (by decide) rfl (fun ls hl => ?_)
      exact B208 N S x1 x4 x5 x6 0 _ _ ls h hw (lv_sub hl [1, 2, 3, 4, 5, 0] rfl)
    · have h := (it_d h).2 c
      refine lv_iconst (v := 5) hx hb dX8_whyOf_203 (by decide) ?_
      exact x_iret C hw h dX8_whyOf_204
  have B161 : ∀ (S : SS) (x1 x4 x5 x6 : Int32) (H : Heap) (locs : List Loc) (ls : Array Slot), fX8_whyOf_b161 N S x1 x4 x5 x6 = some (rz, Sz) → WH D A s.heap lyM ad cI cZ S H locs → lv_has ls 9 [(0, .ref (ad 0)), (1, .int x1), (4, .int x4), (5, .int x5), (6, .int x6)] → W p l e (rmK 3) s m args below meth c H locs 0 0 (MQ below (Qi D lyM ad cI cZ A rz Sz) args s 0 0 A) (F0 m 161 ls []) := by
    intro S x1 x4 x5 x6 H locs ls h hw hl
    unfold fX8_whyOf_b161 at h
    refine lv_iload hx hb dX8_whyOf_161 (lv_at hl 4 rfl) ?_
    refine lv_if_lt (tgt := 205) hx hb dX8_whyOf_163 (by decide) (fun c => ?_) (fun c => ?_)
    · have h := (it_d h).1 c
      refine lv_iconst (v := 0) hx hb dX8_whyOf_205 (by decide) ?_
      refine lv_istore (lv' := [(7, .int 0), (0, .ref (ad 0)), (1, .int x1), (4, .int x4), (5, .int x5), (6, .int x6)]) hx hb dX8_whyOf_206 hl (by decide) rfl (fun ls hl => ?_)
      exact B208 N S x1 x4 x5 x6 0 _ _ ls h hw (lv_sub hl [1, 2, 3, 4, 5, 0] rfl)
    · have h := (it_d h).2 c
      refine lv_iload hx hb dX8_whyOf_166 (lv_at hl 2 rfl) ?_
      refine lv_iload hx hb dX8_whyOf_168 (lv_at hl 4 rfl) ?_
      refine lv_isub hx hb dX8_whyOf_170 ?_
      refine lv_aload_n hx hb dX8_whyOf_171 rfl (lv_at hl 0 rfl) ?_
      refine x_getR C hw gtX8_9 dX8_whyOf_172 ?_
      refine lv_iload_n hx hb dX8_whyOf_175 rfl (lv_at hl 1 rfl) ?_
      obtain ⟨v1, hv, h⟩ := bb_some h
      refine x_ald C hw alM_1 hv dX8_whyOf_176 ?_
      refine lv_iconst (v := 2) hx hb dX8_whyOf_177 (by decide) ?_
      refine lv_icmp_ne (tgt := 193) hx hb dX8_whyOf_178 (by decide) (fun c => ?_) (fun c => ?_)
      · have h := (it_d h).2 c
        refine lv_aload_n hx hb dX8_whyOf_193 rfl (lv_at hl 0 rfl) ?_
        refine x_getR C hw gtX8_37 dX8_whyOf_194 ?_
        refine lv_iload hx hb dX8_whyOf_197 (lv_at hl 3 rfl) ?_
        obtain ⟨v2, hv, h⟩ := bb_some h
        refine x_ald C hw alM_10 hv dX8_whyOf_199 ?_
        exact B200 S x1 x4 x5 x6 (x4 - x6) v2 _ _ ls h hw (lv_sub hl [0, 1, 2, 3, 4] rfl)
      · have h := (it_d h).1 c
        refine lv_aload_n hx hb dX8_whyOf_181 rfl (lv_at hl 0 rfl) ?_
        refine x_getR C hw gtX8_37 dX8_whyOf_182 ?_
        refine lv_iload hx hb dX8_whyOf_185 (lv_at hl 3 rfl) ?_
        obtain ⟨v3, hv, h⟩ := bb_some h
        refine x_ald C hw alM_10 hv dX8_whyOf_187 ?_
        refine lv_iconst (v := 2) hx hb dX8_whyOf_188 (by decide) ?_
        refine lv_idiv hx hb dX8_whyOf_189 (by decide) ?_
        refine lv_goto (tgt := 200) hx hb dX8_whyOf_190 (by decide) ?_
        exact B200 S x1 x4 x5 x6 (x4 - x6) (v3 / 2) _ _ ls h hw (lv_sub hl [0, 1, 2, 3, 4] rfl)
  have B99 : ∀ n : Nat, ∀ (S : SS) (x1 x4 x5 x6 x7 : Int32) (H : Heap) (locs : List Loc) (ls : Array Slot), fX8_whyOf_b99 N n S x1 x4 x5 x6 x7 = some (rz, Sz) → WH D A s.heap lyM ad cI cZ S H locs → lv_has ls 9 [(0, .ref (ad 0)), (1, .int x1), (4, .int x4), (5, .int x5), (6, .int x6), (7, .int x7)] → W p l e (rmK 3) s m args below meth c H locs 0 0 (MQ below (Qi D lyM ad cI cZ A rz Sz) args s 0 0 A) (F0 m 99 ls []) := by
    intro n
    induction n with
    | zero =>
      intro S x1 x4 x5 x6 x7 H locs ls h hw hl
      rw [fX8_whyOf_b99] at h
      cases h
    | succ n ih99 =>
      intro S x1 x4 x5 x6 x7 H locs ls h hw hl
      rw [fX8_whyOf_b99] at h
      refine lv_iload hx hb dX8_whyOf_99 (lv_at hl 5 rfl) ?_
      refine lv_aload_n hx hb dX8_whyOf_101 rfl (lv_at hl 0 rfl) ?_
      refine x_getI C hw gtX8_159 dX8_whyOf_102 ?_
      refine lv_icmp_ge (tgt := 161) hx hb dX8_whyOf_105 (by decide) (fun c => ?_) (fun c => ?_)
      · have h := (it_d h).1 c
        exact B161 S x1 x4 x5 x6 _ _ ls h hw (lv_sub hl [0, 1, 2, 3, 4] rfl)
      · have h := (it_d h).2 c
        refine lv_aload_n hx hb dX8_whyOf_108 rfl (lv_at hl 0 rfl) ?_
        refine x_getR C hw gtX8_94 dX8_whyOf_109 ?_
        refine lv_iload hx hb dX8_whyOf_112 (lv_at hl 5 rfl) ?_
        obtain ⟨v1, hv, h⟩ := bb_some h
        refine x_zald C hw alM_29 hv dX8_whyOf_114 ?_
        refine lv_if_eq (tgt := 151) hx hb dX8_whyOf_115 (by decide) (fun c => ?_) (fun c => ?_)
        · have h := (it_d h).1 c
          refine lv_iload hx hb dX8_whyOf_151 (lv_at hl 4 rfl) ?_
          refine lv_istore (lv' := [(6, .int x6), (0, .ref (ad 0)), (1, .int x1), (4, .int x4), (5, .int x5), (7, .int x7)]) hx hb dX8_whyOf_153 hl (by decide) rfl (fun ls hl => ?_)
          refine lv_iinc (v := (x7 + 1)) (lv' := [(7, .int (x7 + 1)), (6, .int x6), (0, .ref (ad 0)), (1, .int x1), (4, .int x4), (5, .int x5)]) hx hb dX8_whyOf_155 hl (k := 5) rfl rfl (by decide) rfl (fun ls hl => ?_)
          refine lv_goto (tgt := 99) hx hb dX8_whyOf_158 (by decide) ?_
          exact ih99 S x1 x4 x5 x6 (x7 + 1) _ _ ls h hw (lv_sub hl [2, 3, 4, 5, 1, 0] rfl)
        · have h := (it_d h).2 c
          refine lv_aload_n hx hb dX8_whyOf_118 rfl (lv_at hl 0 rfl) ?_
          refine x_getR C hw gtX8_49 dX8_whyOf_119 ?_
          refine lv_iload hx hb dX8_whyOf_122 (lv_at hl 5 rfl) ?_
          obtain ⟨v2, hv, h⟩ := bb_some h
          refine x_ald C hw alM_14 hv dX8_whyOf_124 ?_
          refine lv_iload_n hx hb dX8_whyOf_125 rfl (lv_at hl 1 rfl) ?_
          refine lv_icmp_ne (tgt := 151) hx hb dX8_whyOf_126 (by decide) (fun c => ?_) (fun c => ?_)
          · have h := (it_d h).2 c
            refine lv_iload hx hb dX8_whyOf_151 (lv_at hl 4 rfl) ?_
            refine lv_istore (lv' := [(6, .int x6), (0, .ref (ad 0)), (1, .int x1), (4, .int x4), (5, .int x5), (7, .int x7)]) hx hb dX8_whyOf_153 hl (by decide) rfl (fun ls hl => ?_)
            refine lv_iinc (v := (x7 + 1)) (lv' := [(7, .int (x7 + 1)), (6, .int x6), (0, .ref (ad 0)), (1, .int x1), (4, .int x4), (5, .int x5)]) hx hb dX8_whyOf_155 hl (k := 5) rfl rfl (by decide) rfl (fun ls hl => ?_)
            refine lv_goto (tgt := 99) hx hb dX8_whyOf_158 (by decide) ?_
            exact ih99 S x1 x4 x5 x6 (x7 + 1) _ _ ls h hw (lv_sub hl [2, 3, 4, 5, 1, 0] rfl)
          · have h := (it_d h).1 c
            refine lv_aload_n hx hb dX8_whyOf_129 rfl (lv_at hl 0 rfl) ?_
            refine x_getR C hw gtX8_58 dX8_whyOf_130 ?_
            refine lv_iload hx hb dX8_whyOf_133 (lv_at hl 5 rfl) ?_
            obtain ⟨v3, hv, h⟩ := bb_some h
            refine x_ald C hw alM_17 hv dX8_whyOf_135 ?_
            refine lv_iload hx hb dX8_whyOf_136 (lv_at hl 2 rfl) ?_
            refine lv_icmp_gt (tgt := 151) hx hb dX8_whyOf_138 (by decide) (fun c => ?_) (fun c => ?_)
            · have h := (it_d h).1 c
              refine lv_iload hx hb dX8_whyOf_151 (lv_at hl 4 rfl) ?_
              refine lv_istore (lv' := [(6, .int x6), (0, .ref (ad 0)), (1, .int x1), (4, .int x4), (5, .int x5), (7, .int x7)]) hx hb dX8_whyOf_153 hl (by decide) rfl (fun ls hl => ?_)
              refine lv_iinc (v := (x7 + 1)) (lv' := [(7, .int (x7 + 1)), (6, .int x6), (0, .ref (ad 0)), (1, .int x1), (4, .int x4), (5, .int x5)]) hx hb dX8_whyOf_155 hl (k := 5) rfl rfl (by decide) rfl (fun ls hl => ?_)
              refine lv_goto (tgt := 99) hx hb dX8_whyOf_158 (by decide) ?_
              exact ih99 S x1 x4 x5 x6 (x7 + 1) _ _ ls h hw (lv_sub hl [2, 3, 4, 5, 1, 0] rfl)
            · have h := (it_d h).2 c
              refine lv_aload_n hx hb dX8_whyOf_141 rfl (lv_at hl 0 rfl) ?_
              refine x_getR C hw gtX8_58 dX8_whyOf_142 ?_
              refine lv_iload hx hb dX8_whyOf_145 (lv_at hl 5 rfl) ?_
              obtain ⟨v4, hv, h⟩ := bb_some h
              refine x_ald C hw alM_17 hv dX8_whyOf_147 ?_
              refine lv_goto (tgt := 153) hx hb dX8_whyOf_148 (by decide) ?_
              refine lv_istore (lv' := [(6, .int v4), (0, .ref (ad 0)), (1, .int x1), (4, .int x4), (5, .int x5), (7, .int x7)]) hx hb dX8_whyOf_153 hl (by decide) rfl (fun ls hl => ?_)
              refine lv_iinc (v := (x7 + 1)) (lv' := [(7, .int (x7 + 1)), (6, .int v4), (0, .ref (ad 0)), (1, .int x1), (4, .int x4), (5, .int x5)]) hx hb dX8_whyOf_155 hl (k := 5) rfl rfl (by decide) rfl (fun ls hl => ?_)
              refine lv_goto (tgt := 99) hx hb dX8_whyOf_158 (by decide) ?_
              exact ih99 S x1 x4 x5 v4 (x7 + 1) _ _ ls h hw (lv_sub hl [2, 3, 4, 5, 1, 0] rfl)
  have B32 : ∀ (S : SS) (x1 x2 x3 x4 x5 : Int32) (H : Heap) (locs : List Loc) (ls : Array Slot), fX8_whyOf_b32 N S x1 x2 x3 x4 x5 = some (rz, Sz) → WH D A s.heap lyM ad cI cZ S H locs → lv_has ls 9 [(0, .ref (ad 0)), (1, .int x1), (2, .int x2), (3, .int x3), (4, .int x4), (5, .int x5)] → W p l e (rmK 3) s m args below meth c H locs 0 0 (MQ below (Qi D lyM ad cI cZ A rz Sz) args s 0 0 A) (F0 m 32 ls []) := by
    intro S x1 x2 x3 x4 x5 H locs ls h hw hl
    unfold fX8_whyOf_b32 at h
    refine lv_aload_n hx hb dX8_whyOf_32 rfl (lv_at hl 0 rfl) ?_
    refine lv_iload_n hx hb dX8_whyOf_33 rfl (lv_at hl 1 rfl) ?_
    refine lv_iload_n hx hb dX8_whyOf_34 rfl (lv_at hl 2 rfl) ?_
    refine lv_iload hx hb dX8_whyOf_35 (lv_at hl 4 rfl) ?_
    obtain ⟨r1, S1, hv, h⟩ := b2_some h
    refine x_callVI C hw (mX8_hasOf hv) lkX8_179 rfl (Nat.le_of_ble_eq_true rfl) hl.1 rfl (Nat.le_of_ble_eq_true rfl) dX8_whyOf_37 (fun H locs hw => ?_)
    refine lv_iload_n hx hb dX8_whyOf_40 rfl (lv_at hl 3 rfl) ?_
    refine lv_iconst (v := 1) hx hb dX8_whyOf_41 (by decide) ?_
    refine lv_isub hx hb dX8_whyOf_42 ?_
    refine lv_icmp_eq (tgt := 48) hx hb dX8_whyOf_43 (by decide) (fun c => ?_) (fun c => ?_)
    · have h := (it_d h).1 c
      refine lv_aload_n hx hb dX8_whyOf_48 rfl (lv_at hl 0 rfl) ?_
      refine x_getR C hw gtX8_19 dX8_whyOf_49 ?_
      refine lv_iload_n hx hb dX8_whyOf_52 rfl (lv_at hl 1 rfl) ?_
      obtain ⟨v1, hv, h⟩ := bb_some h
      refine x_ald C hw alM_4 hv dX8_whyOf_53 ?_
      refine lv_iload hx hb dX8_whyOf_54 (lv_at hl 4 rfl) ?_
      refine lv_icmp_ge (tgt := 61) hx hb dX8_whyOf_56 (by decide) (fun c => ?_) (fun c => ?_)
      · have h := (it_d h).1 c
        refine lv_iload hx hb dX8_whyOf_61 (lv_at hl 4 rfl) ?_
        refine lv_aload_n hx hb dX8_whyOf_63 rfl (lv_at hl 0 rfl) ?_
        refine x_getR C hw gtX8_13 dX8_whyOf_64 ?_
        refine lv_iload_n hx hb dX8_whyOf_67 rfl (lv_at hl 1 rfl) ?_
        obtain ⟨v2, hv, h⟩ := bb_some h
        refine x_ald C hw alM_2 hv dX8_whyOf_68 ?_
        refine lv_icmp_lt (tgt := 91) hx hb dX8_whyOf_69 (by decide) (fun c => ?_) (fun c => ?_)
        · have h := (it_d h).1 c
          refine lv_iconst (v := 4) hx hb dX8_whyOf_91 (by decide) ?_
          exact x_iret C hw h dX8_whyOf_92
        · have h := (it_d h).2 c
          refine lv_iload hx hb dX8_whyOf_72 (lv_at hl 4 rfl) ?_
          refine lv_aload_n hx hb dX8_whyOf_74 rfl (lv_at hl 0 rfl) ?_
          refine x_getR C hw gtX8_13 dX8_whyOf_75 ?_
          refine lv_iload_n hx hb dX8_whyOf_78 rfl (lv_at hl 1 rfl) ?_
          obtain ⟨v3, hv, h⟩ := bb_some h
          refine x_ald C hw alM_2 hv dX8_whyOf_79 ?_
          refine lv_isub hx hb dX8_whyOf_80 ?_
          refine lv_aload_n hx hb dX8_whyOf_81 rfl (lv_at hl 0 rfl) ?_
          refine x_getR C hw gtX8_40 dX8_whyOf_82 ?_
          refine lv_iload hx hb dX8_whyOf_85 (lv_at hl 5 rfl) ?_
          obtain ⟨v4, hv, h⟩ := bb_some h
          refine x_ald C hw alM_11 hv dX8_whyOf_87 ?_
          refine lv_icmp_ge (tgt := 93) hx hb dX8_whyOf_88 (by decide) (fun c => ?_) (fun c => ?_)
          · have h := (it_d h).1 c
            refine lv_iconst (v := (-1)) hx hb dX8_whyOf_93 (by decide) ?_
            refine lv_istore (lv' := [(6, .int (-1)), (0, .ref (ad 0)), (1, .int x1), (2, .int x2), (3, .int x3), (4, .int x4), (5, .int x5)]) hx hb dX8_whyOf_94 hl (by decide) rfl (fun ls hl => ?_)
            refine lv_iconst (v := 0) hx hb dX8_whyOf_96 (by decide) ?_
            refine lv_istore (lv' := [(7, .int 0), (6, .int (-1)), (0, .ref (ad 0)), (1, .int x1), (2, .int x2), (3, .int x3), (4, .int x4), (5, .int x5)]) hx hb dX8_whyOf_97 hl (by decide) rfl (fun ls hl => ?_)
            exact B99 N S1 x1 x4 x5 (-1) 0 _ _ ls h hw (lv_sub hl [2, 3, 6, 7, 1, 0] rfl)
          · have h := (it_d h).2 c
            refine lv_iconst (v := 4) hx hb dX8_whyOf_91 (by decide) ?_
            exact x_iret C hw h dX8_whyOf_92
      · have h := (it_d h).2 c
        refine lv_iconst (v := 3) hx hb dX8_whyOf_59 (by decide) ?_
        exact x_iret C hw h dX8_whyOf_60
    · have h := (it_d h).2 c
      refine lv_iconst (v := 2) hx hb dX8_whyOf_46 (by decide) ?_
      exact x_iret C hw h dX8_whyOf_47
  unfold fX8_whyOf at h
  refine lv_aload_n hx hb dX8_whyOf_0 rfl (lv_at hl 0 rfl) ?_
  refine lv_iload_n hx hb dX8_whyOf_1 rfl (lv_at hl 2 rfl) ?_
  refine lv_iload_n hx hb dX8_whyOf_2 rfl (lv_at hl 3 rfl) ?_
  refine lv_iload hx hb dX8_whyOf_3 (lv_at hl 4 rfl) ?_
  obtain ⟨r1, S1, hv, h⟩ := b2_some h
  refine x_callVI C hw (mX8_ruleOf hv) lkX8_149 rfl (Nat.le_of_ble_eq_true rfl) hl.1 rfl (Nat.le_of_ble_eq_true rfl) dX8_whyOf_5 (fun H locs hw => ?_)
  refine lv_istore (lv' := [(5, .int r1), (0, .ref (ad 0)), (1, .int x1), (2, .int x2), (3, .int x3), (4, .int x4)]) hx hb dX8_whyOf_8 hl (by decide) rfl (fun ls hl => ?_)
  refine lv_iload hx hb dX8_whyOf_10 (lv_at hl 0 rfl) ?_
  refine lv_if_lt (tgt := 30) hx hb dX8_whyOf_12 (by decide) (fun c => ?_) (fun c => ?_)
  · have h := (it_d h).1 c
    refine lv_iconst (v := 1) hx hb dX8_whyOf_30 (by decide) ?_
    exact x_iret C hw h dX8_whyOf_31
  · have h := (it_d h).2 c
    refine lv_aload_n hx hb dX8_whyOf_15 rfl (lv_at hl 1 rfl) ?_
    refine x_getR C hw gtX8_9 dX8_whyOf_16 ?_
    refine lv_iload_n hx hb dX8_whyOf_19 rfl (lv_at hl 2 rfl) ?_
    obtain ⟨v1, hv, h⟩ := bb_some h
    refine x_ald C hw alM_1 hv dX8_whyOf_20 ?_
    refine lv_iconst (v := 2) hx hb dX8_whyOf_21 (by decide) ?_
    refine lv_icmp_ne (tgt := 32) hx hb dX8_whyOf_22 (by decide) (fun c => ?_) (fun c => ?_)
    · have h := (it_d h).2 c
      exact B32 S1 x1 x2 x3 x4 r1 _ _ ls h hw (lv_sub hl [1, 2, 3, 4, 5, 0] rfl)
    · have h := (it_d h).1 c
      refine lv_iload_n hx hb dX8_whyOf_25 rfl (lv_at hl 4 rfl) ?_
      refine lv_iconst (v := 4) hx hb dX8_whyOf_26 (by decide) ?_
      refine lv_icmp_le (tgt := 32) hx hb dX8_whyOf_27 (by decide) (fun c => ?_) (fun c => ?_)
      · have h := (it_d h).1 c
        exact B32 S1 x1 x2 x3 x4 r1 _ _ ls h hw (lv_sub hl [1, 2, 3, 4, 5, 0] rfl)
      · have h := (it_d h).2 c
        refine lv_iconst (v := 1) hx hb dX8_whyOf_30 (by decide) ?_
        exact x_iret C hw h dX8_whyOf_31
set_option maxHeartbeats 4000000 in
set_option maxRecDepth 100000 in
theorem mX8_findPanels {N : Nat} {l : Launch} {D : va_G} {ad : Nat → Nat} {cI cZ : ClassId} {S Sz : SS} {x1 x2 : Int32} (h : fX8_findPanels N S x1 x2 = some Sz) : MV l D lyM ad cI cZ yX8_findPanels cX8_findPanels 8 5 [.ref (ad 0), .int x1, .int x2] S Sz := by
  refine x_startV RX8 (by decide) rfl (Nat.le_of_ble_eq_true rfl) ?_
  intro p e s m args below meth c A C hw ls hl
  have hx := C.1
  have hb := C.2.1
  have hown := C.2.2.2.1
  have hts := C.2.2.2.2.1
  have hl : lv_has ls 8 [(0, .ref (ad 0)), (1, .int x1), (2, .int x2)] := hl
  have B123 : ∀ n : Nat, ∀ (S : SS) (x1 x2 x3 : Int32) (H : Heap) (locs : List Loc) (ls : Array Slot), fX8_findPanels_b123 N n S x1 x2 x3 = some Sz → WH D A s.heap lyM ad cI cZ S H locs → lv_has ls 8 [(0, .ref (ad 0)), (1, .int x1), (2, .int x2), (3, .int x3)] → W p l e (rmK 5) s m args below meth c H locs 0 0 (MQ below (Qv D lyM ad cI cZ A Sz) args s 0 0 A) (F0 m 123 ls []) := by
    intro n
    induction n with
    | zero =>
      intro S x1 x2 x3 H locs ls h hw hl
      rw [fX8_findPanels_b123] at h
      cases h
    | succ n123 ih123 =>
      have B181 : ∀ n : Nat, ∀ (S : SS) (x1 x2 x3 x4 x5 x6 x7 : Int32) (H : Heap) (locs : List Loc) (ls : Array Slot), fX8_findPanels_b181 N (fun S x1 x2 x3 => fX8_findPanels_b123 N n123 S x1 x2 x3) n S x1 x2 x3 x4 x5 x6 x7 = some Sz → WH D A s.heap lyM ad cI cZ S H locs → lv_has ls 8 [(0, .ref (ad 0)), (1, .int x1), (2, .int x2), (3, .int x3), (4, .int x4), (5, .int x5), (6, .int x6), (7, .int x7)] → W p l e (rmK 5) s m args below meth c H locs 0 0 (MQ below (Qv D lyM ad cI cZ A Sz) args s 0 0 A) (F0 m 181 ls []) := by
        intro n
        induction n with
        | zero =>
          intro S x1 x2 x3 x4 x5 x6 x7 H locs ls h hw hl
          rw [fX8_findPanels_b181] at h
          cases h
        | succ n181 ih181 =>
          have B237 : ∀ (S : SS) (x1 x2 x3 x4 x5 x6 x7 t1 t2 : Int32) (H : Heap) (locs : List Loc) (ls : Array Slot), fX8_findPanels_b237 N (fun S x1 x2 x3 => fX8_findPanels_b123 N n123 S x1 x2 x3) (fun S x1 x2 x3 x4 x5 x6 x7 => fX8_findPanels_b181 N (fun S x1 x2 x3 => fX8_findPanels_b123 N n123 S x1 x2 x3) n181 S x1 x2 x3 x4 x5 x6 x7) S x1 x2 x3 x4 x5 x6 x7 t1 t2 = some Sz → WH D A s.heap lyM ad cI cZ S H locs → lv_has ls 8 [(0, .ref (ad 0)), (1, .int x1), (2, .int x2), (3, .int x3), (4, .int x4), (5, .int x5), (6, .int x6), (7, .int x7)] → W p l e (rmK 5) s m args below meth c H locs 0 0 (MQ below (Qv D lyM ad cI cZ A Sz) args s 0 0 A) (F0 m 237 ls [.int t2, .int t1, .ref (ad 31)]) := by
            intro S x1 x2 x3 x4 x5 x6 x7 t1 t2 H locs ls h hw hl
            unfold fX8_findPanels_b237 at h
            obtain ⟨S1, hv, h⟩ := bb_some h
            refine x_zast C hw alM_31 hv dX8_findPanels_237 (fun H locs hw => ?_)
            refine lv_iinc (v := (x7 + 1)) (lv' := [(7, .int (x7 + 1)), (0, .ref (ad 0)), (1, .int x1), (2, .int x2), (3, .int x3), (4, .int x4), (5, .int x5), (6, .int x6)]) hx hb dX8_findPanels_238 hl (k := 7) rfl rfl (by decide) rfl (fun ls hl => ?_)
            refine lv_goto (tgt := 181) hx hb dX8_findPanels_241 (by decide) ?_
            exact ih181 S1 x1 x2 x3 x4 x5 x6 (x7 + 1) _ _ ls h hw (lv_sub hl [1, 2, 3, 4, 5, 6, 7, 0] rfl)
          intro S x1 x2 x3 x4 x5 x6 x7 H locs ls h hw hl
          rw [fX8_findPanels_b181] at h
          refine lv_iload hx hb dX8_findPanels_181 (lv_at hl 7 rfl) ?_
          refine lv_aload_n hx hb dX8_findPanels_183 rfl (lv_at hl 0 rfl) ?_
          refine x_getI C hw gtX8_215 dX8_findPanels_184 ?_
          refine lv_icmp_ge (tgt := 244) hx hb dX8_findPanels_187 (by decide) (fun c => ?_) (fun c => ?_)
          · have h := (it_d h).1 c
            refine lv_iinc (v := (x3 + 1)) (lv' := [(3, .int (x3 + 1)), (0, .ref (ad 0)), (1, .int x1), (2, .int x2), (4, .int x4), (5, .int x5), (6, .int x6), (7, .int x7)]) hx hb dX8_findPanels_244 hl (k := 3) rfl rfl (by decide) rfl (fun ls hl => ?_)
            refine lv_goto (tgt := 123) hx hb dX8_findPanels_247 (by decide) ?_
            exact ih123 S x1 x2 (x3 + 1) _ _ ls h hw (lv_sub hl [1, 2, 3, 0] rfl)
          · have h := (it_d h).2 c
            refine lv_aload_n hx hb dX8_findPanels_190 rfl (lv_at hl 0 rfl) ?_
            refine x_getR C hw gtX8_101 dX8_findPanels_191 ?_
            refine lv_bipush (v := 20) hx hb dX8_findPanels_194 (by decide) ?_
            refine lv_iload_n hx hb dX8_findPanels_196 rfl (lv_at hl 3 rfl) ?_
            refine lv_imul hx hb dX8_findPanels_197 ?_
            refine lv_iload hx hb dX8_findPanels_198 (lv_at hl 7 rfl) ?_
            refine lv_iadd hx hb dX8_findPanels_200 ?_
            refine lv_iload hx hb dX8_findPanels_201 (lv_at hl 6 rfl) ?_
            refine lv_if_eq (tgt := 236) hx hb dX8_findPanels_203 (by decide) (fun c => ?_) (fun c => ?_)
            · have h := (it_d h).1 c
              refine lv_iconst (v := 0) hx hb dX8_findPanels_236 (by decide) ?_
              exact B237 S x1 x2 x3 x4 x5 x6 x7 ((20 * x3) + x7) 0 _ _ ls h hw (lv_sub hl [0, 1, 2, 3, 4, 5, 6, 7] rfl)
            · have h := (it_d h).2 c
              refine lv_aload_n hx hb dX8_findPanels_206 rfl (lv_at hl 0 rfl) ?_
              refine lv_iload hx hb dX8_findPanels_207 (lv_at hl 4 rfl) ?_
              refine lv_iload_n hx hb dX8_findPanels_209 rfl (lv_at hl 1 rfl) ?_
              refine lv_aload_n hx hb dX8_findPanels_210 rfl (lv_at hl 0 rfl) ?_
              refine lv_iload_n hx hb dX8_findPanels_211 rfl (lv_at hl 1 rfl) ?_
              refine lv_iload hx hb dX8_findPanels_212 (lv_at hl 5 rfl) ?_
              refine lv_iload_n hx hb dX8_findPanels_214 rfl (lv_at hl 2 rfl) ?_
              obtain ⟨r1, S1, hv, h⟩ := b2_some h
              refine x_callVI C hw (mX8_ruleOf hv) lkX8_149 rfl (Nat.le_of_ble_eq_true rfl) hl.1 rfl (Nat.le_of_ble_eq_true rfl) dX8_findPanels_215 (fun H locs hw => ?_)
              refine lv_iload_n hx hb dX8_findPanels_218 rfl (lv_at hl 2 rfl) ?_
              refine lv_aload_n hx hb dX8_findPanels_219 rfl (lv_at hl 0 rfl) ?_
              refine x_getR C hw gtX8_98 dX8_findPanels_220 ?_
              refine lv_iload hx hb dX8_findPanels_223 (lv_at hl 7 rfl) ?_
              obtain ⟨v1, hv, h⟩ := bb_some h
              refine x_ald C hw alM_30 hv dX8_findPanels_225 ?_
              obtain ⟨r2, S2, hv, h⟩ := b2_some h
              refine x_callVI C hw (mX8_panelOf hv) lkX8_200 rfl (Nat.le_of_ble_eq_true rfl) hl.1 rfl (Nat.le_of_ble_eq_true rfl) dX8_findPanels_226 (fun H locs hw => ?_)
              refine lv_if_ne (tgt := 236) hx hb dX8_findPanels_229 (by decide) (fun c => ?_) (fun c => ?_)
              · have h := (it_d h).2 c
                refine lv_iconst (v := 0) hx hb dX8_findPanels_236 (by decide) ?_
                exact B237 S2 x1 x2 x3 x4 x5 x6 x7 ((20 * x3) + x7) 0 _ _ ls h hw (lv_sub hl [0, 1, 2, 3, 4, 5, 6, 7] rfl)
              · have h := (it_d h).1 c
                refine lv_iconst (v := 1) hx hb dX8_findPanels_232 (by decide) ?_
                refine lv_goto (tgt := 237) hx hb dX8_findPanels_233 (by decide) ?_
                exact B237 S2 x1 x2 x3 x4 x5 x6 x7 ((20 * x3) + x7) 1 _ _ ls h hw (lv_sub hl [0, 1, 2, 3, 4, 5, 6, 7] rfl)
      intro S x1 x2 x3 H locs ls h hw hl
      rw [fX8_findPanels_b123] at h
      refine lv_iload_n hx hb dX8_findPanels_123 rfl (lv_at hl 3 rfl) ?_
      refine lv_aload_n hx hb dX8_findPanels_124 rfl (lv_at hl 0 rfl) ?_
      refine x_getI C hw gtX8_208 dX8_findPanels_125 ?_
      refine lv_icmp_ge (tgt := 250) hx hb dX8_findPanels_128 (by decide) (fun c => ?_) (fun c => ?_)
      · have h := (it_d h).1 c
        exact x_vret C hw h dX8_findPanels_250
      · have h := (it_d h).2 c
        refine lv_aload_n hx hb dX8_findPanels_131 rfl (lv_at hl 0 rfl) ?_
        refine x_getR C hw gtX8_73 dX8_findPanels_132 ?_
        refine lv_iload_n hx hb dX8_findPanels_135 rfl (lv_at hl 3 rfl) ?_
        obtain ⟨v1, hv, h⟩ := bb_some h
        refine x_ald C hw alM_22 hv dX8_findPanels_136 ?_
        refine lv_istore (lv' := [(4, .int v1), (0, .ref (ad 0)), (1, .int x1), (2, .int x2), (3, .int x3)]) hx hb dX8_findPanels_137 hl (by decide) rfl (fun ls hl => ?_)
        refine lv_aload_n hx hb dX8_findPanels_139 rfl (lv_at hl 1 rfl) ?_
        refine lv_iload hx hb dX8_findPanels_140 (lv_at hl 0 rfl) ?_
        refine lv_iload_n hx hb dX8_findPanels_142 rfl (lv_at hl 2 rfl) ?_
        refine lv_iload_n hx hb dX8_findPanels_143 rfl (lv_at hl 3 rfl) ?_
        obtain ⟨r1, S1, hv, h⟩ := b2_some h
        refine x_callVI C hw (mX8_hasOf hv) lkX8_179 rfl (Nat.le_of_ble_eq_true rfl) hl.1 rfl (Nat.le_of_ble_eq_true rfl) dX8_findPanels_144 (fun H locs hw => ?_)
        refine lv_iconst (v := 1) hx hb dX8_findPanels_147 (by decide) ?_
        refine lv_iadd hx hb dX8_findPanels_148 ?_
        refine lv_istore (lv' := [(5, .int (r1 + 1)), (4, .int v1), (0, .ref (ad 0)), (1, .int x1), (2, .int x2), (3, .int x3)]) hx hb dX8_findPanels_149 hl (by decide) rfl (fun ls hl => ?_)
        refine lv_iload hx hb dX8_findPanels_151 (lv_at hl 0 rfl) ?_
        refine lv_bipush (v := 10) hx hb dX8_findPanels_153 (by decide) ?_
        refine lv_icmp_gt (tgt := 175) hx hb dX8_findPanels_155 (by decide) (fun c => ?_) (fun c => ?_)
        · have h := (it_d h).1 c
          refine lv_iconst (v := 0) hx hb dX8_findPanels_175 (by decide) ?_
          refine lv_istore (lv' := [(6, .int 0), (5, .int (r1 + 1)), (4, .int v1), (0, .ref (ad 0)), (1, .int x1), (2, .int x2), (3, .int x3)]) hx hb dX8_findPanels_176 hl (by decide) rfl (fun ls hl => ?_)
          refine lv_iconst (v := 0) hx hb dX8_findPanels_178 (by decide) ?_
          refine lv_istore (lv' := [(7, .int 0), (6, .int 0), (5, .int (r1 + 1)), (4, .int v1), (0, .ref (ad 0)), (1, .int x1), (2, .int x2), (3, .int x3)]) hx hb dX8_findPanels_179 hl (by decide) rfl (fun ls hl => ?_)
          exact B181 N S1 x1 x2 x3 v1 (r1 + 1) 0 0 _ _ ls h hw (lv_sub hl [4, 5, 6, 7, 3, 2, 1, 0] rfl)
        · have h := (it_d h).2 c
          refine lv_aload_n hx hb dX8_findPanels_158 rfl (lv_at hl 2 rfl) ?_
          refine lv_iload hx hb dX8_findPanels_159 (lv_at hl 1 rfl) ?_
          refine lv_iload_n hx hb dX8_findPanels_161 rfl (lv_at hl 3 rfl) ?_
          refine lv_iload hx hb dX8_findPanels_162 (lv_at hl 0 rfl) ?_
          refine lv_iload_n hx hb dX8_findPanels_164 rfl (lv_at hl 4 rfl) ?_
          obtain ⟨r2, S2, hv, h⟩ := b2_some h
          refine x_callVI C hw (mX8_whyOf hv) lkX8_186 rfl (Nat.le_of_ble_eq_true rfl) hl.1 rfl (Nat.le_of_ble_eq_true rfl) dX8_findPanels_165 (fun H locs hw => ?_)
          refine lv_if_ne (tgt := 175) hx hb dX8_findPanels_168 (by decide) (fun c => ?_) (fun c => ?_)
          · have h := (it_d h).2 c
            refine lv_iconst (v := 0) hx hb dX8_findPanels_175 (by decide) ?_
            refine lv_istore (lv' := [(6, .int 0), (5, .int (r1 + 1)), (4, .int v1), (0, .ref (ad 0)), (1, .int x1), (2, .int x2), (3, .int x3)]) hx hb dX8_findPanels_176 hl (by decide) rfl (fun ls hl => ?_)
            refine lv_iconst (v := 0) hx hb dX8_findPanels_178 (by decide) ?_
            refine lv_istore (lv' := [(7, .int 0), (6, .int 0), (5, .int (r1 + 1)), (4, .int v1), (0, .ref (ad 0)), (1, .int x1), (2, .int x2), (3, .int x3)]) hx hb dX8_findPanels_179 hl (by decide) rfl (fun ls hl => ?_)
            exact B181 N S2 x1 x2 x3 v1 (r1 + 1) 0 0 _ _ ls h hw (lv_sub hl [4, 5, 6, 7, 3, 2, 1, 0] rfl)
          · have h := (it_d h).1 c
            refine lv_iconst (v := 1) hx hb dX8_findPanels_171 (by decide) ?_
            refine lv_goto (tgt := 176) hx hb dX8_findPanels_172 (by decide) ?_
            refine lv_istore (lv' := [(6, .int 1), (5, .int (r1 + 1)), (4, .int v1), (0, .ref (ad 0)), (1, .int x1), (2, .int x2), (3, .int x3)]) hx hb dX8_findPanels_176 hl (by decide) rfl (fun ls hl => ?_)
            refine lv_iconst (v := 0) hx hb dX8_findPanels_178 (by decide) ?_
            refine lv_istore (lv' := [(7, .int 0), (6, .int 1), (5, .int (r1 + 1)), (4, .int v1), (0, .ref (ad 0)), (1, .int x1), (2, .int x2), (3, .int x3)]) hx hb dX8_findPanels_179 hl (by decide) rfl (fun ls hl => ?_)
            exact B181 N S2 x1 x2 x3 v1 (r1 + 1) 1 0 _ _ ls h hw (lv_sub hl [4, 5, 6, 7, 3, 2, 1, 0] rfl)
  have B116 : ∀ (S : SS) (x1 x2 : Int32) (H : Heap) (locs : List Loc) (ls : Array Slot), fX8_findPanels_b116 N S x1 x2 = some Sz → WH D A s.heap lyM ad cI cZ S H locs → lv_has ls 8 [(0, .ref (ad 0)), (1, .int x1), (2, .int x2)] → W p l e (rmK 5) s m args below meth c H locs 0 0 (MQ below (Qv D lyM ad cI cZ A Sz) args s 0 0 A) (F0 m 116 ls []) := by
    intro S x1 x2 H locs ls h hw hl
    unfold fX8_findPanels_b116 at h
    refine lv_aload_n hx hb dX8_findPanels_116 rfl (lv_at hl 0 rfl) ?_
    refine lv_iload_n hx hb dX8_findPanels_117 rfl (lv_at hl 2 rfl) ?_
    obtain ⟨S1, hv, h⟩ := bb_some h
    refine x_callVV C hw (mX8_findStanding hv) lkX8_175 rfl (Nat.le_of_ble_eq_true rfl) hl.1 rfl (Nat.le_of_ble_eq_true rfl) dX8_findPanels_118 (fun H locs hw => ?_)
    refine lv_iconst (v := 0) hx hb dX8_findPanels_121 (by decide) ?_
    refine lv_istore_n (lv' := [(3, .int 0), (0, .ref (ad 0)), (1, .int x1), (2, .int x2)]) hx hb dX8_findPanels_122 rfl hl (by decide) rfl (fun ls hl => ?_)
    exact B123 N S1 x1 x2 0 _ _ ls h hw (lv_sub hl [1, 2, 3, 0] rfl)
  have B7 : ∀ n : Nat, ∀ (S : SS) (x1 x2 x3 : Int32) (H : Heap) (locs : List Loc) (ls : Array Slot), fX8_findPanels_b7 N n S x1 x2 x3 = some Sz → WH D A s.heap lyM ad cI cZ S H locs → lv_has ls 8 [(0, .ref (ad 0)), (1, .int x1), (2, .int x2), (3, .int x3)] → W p l e (rmK 5) s m args below meth c H locs 0 0 (MQ below (Qv D lyM ad cI cZ A Sz) args s 0 0 A) (F0 m 7 ls []) := by
    intro n
    induction n with
    | zero =>
      intro S x1 x2 x3 H locs ls h hw hl
      rw [fX8_findPanels_b7] at h
      cases h
    | succ n7 ih7 =>
      have B18 : ∀ n : Nat, ∀ (S : SS) (x1 x2 x3 x4 : Int32) (H : Heap) (locs : List Loc) (ls : Array Slot), fX8_findPanels_b18 N (fun S x1 x2 x3 => fX8_findPanels_b7 N n7 S x1 x2 x3) n S x1 x2 x3 x4 = some Sz → WH D A s.heap lyM ad cI cZ S H locs → lv_has ls 8 [(0, .ref (ad 0)), (1, .int x1), (2, .int x2), (3, .int x3), (4, .int x4)] → W p l e (rmK 5) s m args below meth c H locs 0 0 (MQ below (Qv D lyM ad cI cZ A Sz) args s 0 0 A) (F0 m 18 ls []) := by
        intro n
        induction n with
        | zero =>
          intro S x1 x2 x3 x4 H locs ls h hw hl
          rw [fX8_findPanels_b18] at h
          cases h
        | succ n18 ih18 =>
          have B27 : ∀ n : Nat, ∀ (S : SS) (x1 x2 x3 x4 x5 : Int32) (H : Heap) (locs : List Loc) (ls : Array Slot), fX8_findPanels_b27 N (fun S x1 x2 x3 => fX8_findPanels_b7 N n7 S x1 x2 x3) (fun S x1 x2 x3 x4 => fX8_findPanels_b18 N (fun S x1 x2 x3 => fX8_findPanels_b7 N n7 S x1 x2 x3) n18 S x1 x2 x3 x4) n S x1 x2 x3 x4 x5 = some Sz → WH D A s.heap lyM ad cI cZ S H locs → lv_has ls 8 [(0, .ref (ad 0)), (1, .int x1), (2, .int x2), (3, .int x3), (4, .int x4), (5, .int x5)] → W p l e (rmK 5) s m args below meth c H locs 0 0 (MQ below (Qv D lyM ad cI cZ A Sz) args s 0 0 A) (F0 m 27 ls []) := by
            intro n
            induction n with
            | zero =>
              intro S x1 x2 x3 x4 x5 H locs ls h hw hl
              rw [fX8_findPanels_b27] at h
              cases h
            | succ n ih27 =>
              intro S x1 x2 x3 x4 x5 H locs ls h hw hl
              rw [fX8_findPanels_b27] at h
              refine lv_iload hx hb dX8_findPanels_27 (lv_at hl 5 rfl) ?_
              refine lv_iload hx hb dX8_findPanels_29 (lv_at hl 4 rfl) ?_
              refine lv_icmp_ge (tgt := 104) hx hb dX8_findPanels_31 (by decide) (fun c => ?_) (fun c => ?_)
              · have h := (it_d h).1 c
                refine lv_iinc (v := (x4 + 1)) (lv' := [(4, .int (x4 + 1)), (0, .ref (ad 0)), (1, .int x1), (2, .int x2), (3, .int x3), (5, .int x5)]) hx hb dX8_findPanels_104 hl (k := 4) rfl rfl (by decide) rfl (fun ls hl => ?_)
                refine lv_goto (tgt := 18) hx hb dX8_findPanels_107 (by decide) ?_
                exact ih18 S x1 x2 x3 (x4 + 1) _ _ ls h hw (lv_sub hl [1, 2, 3, 4, 0] rfl)
              · have h := (it_d h).2 c
                refine lv_aload_n hx hb dX8_findPanels_34 rfl (lv_at hl 0 rfl) ?_
                refine x_getR C hw gtX8_9 dX8_findPanels_35 ?_
                refine lv_iload hx hb dX8_findPanels_38 (lv_at hl 5 rfl) ?_
                obtain ⟨v1, hv, h⟩ := bb_some h
                refine x_ald C hw alM_1 hv dX8_findPanels_40 ?_
                refine lv_iconst (v := 1) hx hb dX8_findPanels_41 (by decide) ?_
                refine lv_icmp_ne (tgt := 98) hx hb dX8_findPanels_42 (by decide) (fun c => ?_) (fun c => ?_)
                · have h := (it_d h).2 c
                  refine lv_iinc (v := (x5 + 1)) (lv' := [(5, .int (x5 + 1)), (0, .ref (ad 0)), (1, .int x1), (2, .int x2), (3, .int x3), (4, .int x4)]) hx hb dX8_findPanels_98 hl (k := 5) rfl rfl (by decide) rfl (fun ls hl => ?_)
                  refine lv_goto (tgt := 27) hx hb dX8_findPanels_101 (by decide) ?_
                  exact ih27 S x1 x2 x3 x4 (x5 + 1) _ _ ls h hw (lv_sub hl [1, 2, 3, 4, 5, 0] rfl)
                · have h := (it_d h).1 c
                  refine lv_aload_n hx hb dX8_findPanels_45 rfl (lv_at hl 0 rfl) ?_
                  refine x_getR C hw gtX8_9 dX8_findPanels_46 ?_
                  refine lv_iload hx hb dX8_findPanels_49 (lv_at hl 4 rfl) ?_
                  obtain ⟨v2, hv, h⟩ := bb_some h
                  refine x_ald C hw alM_1 hv dX8_findPanels_51 ?_
                  refine lv_iconst (v := 1) hx hb dX8_findPanels_52 (by decide) ?_
                  refine lv_icmp_ne (tgt := 98) hx hb dX8_findPanels_53 (by decide) (fun c => ?_) (fun c => ?_)
                  · have h := (it_d h).2 c
                    refine lv_iinc (v := (x5 + 1)) (lv' := [(5, .int (x5 + 1)), (0, .ref (ad 0)), (1, .int x1), (2, .int x2), (3, .int x3), (4, .int x4)]) hx hb dX8_findPanels_98 hl (k := 5) rfl rfl (by decide) rfl (fun ls hl => ?_)
                    refine lv_goto (tgt := 27) hx hb dX8_findPanels_101 (by decide) ?_
                    exact ih27 S x1 x2 x3 x4 (x5 + 1) _ _ ls h hw (lv_sub hl [1, 2, 3, 4, 5, 0] rfl)
                  · have h := (it_d h).1 c
                    refine lv_aload_n hx hb dX8_findPanels_56 rfl (lv_at hl 0 rfl) ?_
                    refine x_getR C hw gtX8_9 dX8_findPanels_57 ?_
                    refine lv_iload_n hx hb dX8_findPanels_60 rfl (lv_at hl 3 rfl) ?_
                    obtain ⟨v3, hv, h⟩ := bb_some h
                    refine x_ald C hw alM_1 hv dX8_findPanels_61 ?_
                    refine lv_iconst (v := 1) hx hb dX8_findPanels_62 (by decide) ?_
                    refine lv_icmp_ne (tgt := 98) hx hb dX8_findPanels_63 (by decide) (fun c => ?_) (fun c => ?_)
                    · have h := (it_d h).2 c
                      refine lv_iinc (v := (x5 + 1)) (lv' := [(5, .int (x5 + 1)), (0, .ref (ad 0)), (1, .int x1), (2, .int x2), (3, .int x3), (4, .int x4)]) hx hb dX8_findPanels_98 hl (k := 5) rfl rfl (by decide) rfl (fun ls hl => ?_)
                      refine lv_goto (tgt := 27) hx hb dX8_findPanels_101 (by decide) ?_
                      exact ih27 S x1 x2 x3 x4 (x5 + 1) _ _ ls h hw (lv_sub hl [1, 2, 3, 4, 5, 0] rfl)
                    · have h := (it_d h).1 c
                      refine lv_aload_n hx hb dX8_findPanels_66 rfl (lv_at hl 0 rfl) ?_
                      refine x_getR C hw gtX8_98 dX8_findPanels_67 ?_
                      refine lv_aload_n hx hb dX8_findPanels_70 rfl (lv_at hl 0 rfl) ?_
                      refine x_getI C hw gtX8_215 dX8_findPanels_71 ?_
                      refine lv_iconst (v := 1) hx hb dX8_findPanels_74 (by decide) ?_
                      refine lv_iload hx hb dX8_findPanels_75 (lv_at hl 5 rfl) ?_
                      refine lv_ishl hx hb dX8_findPanels_77 ?_
                      refine lv_iconst (v := 1) hx hb dX8_findPanels_78 (by decide) ?_
                      refine lv_iload hx hb dX8_findPanels_79 (lv_at hl 4 rfl) ?_
                      refine lv_ishl hx hb dX8_findPanels_81 ?_
                      refine lv_ior hx hb dX8_findPanels_82 ?_
                      refine lv_iconst (v := 1) hx hb dX8_findPanels_83 (by decide) ?_
                      refine lv_iload_n hx hb dX8_findPanels_84 rfl (lv_at hl 3 rfl) ?_
                      refine lv_ishl hx hb dX8_findPanels_85 ?_
                      refine lv_ior hx hb dX8_findPanels_86 ?_
                      obtain ⟨S1, hv, h⟩ := bb_some h
                      refine x_ast C hw alM_30 hv dX8_findPanels_87 (fun H locs hw => ?_)
                      refine lv_aload_n hx hb dX8_findPanels_88 rfl (lv_at hl 0 rfl) ?_
                      refine lv_dup hx hb dX8_findPanels_89 rfl ?_
                      refine x_getI C hw gtX8_215 dX8_findPanels_90 ?_
                      refine lv_iconst (v := 1) hx hb dX8_findPanels_93 (by decide) ?_
                      refine lv_iadd hx hb dX8_findPanels_94 ?_
                      obtain ⟨S2, hv, h⟩ := bb_some h
                      refine x_putO C hw gpX8_215 hv rfl rfl dX8_findPanels_95 (fun H locs hw => ?_)
                      refine lv_iinc (v := (x5 + 1)) (lv' := [(5, .int (x5 + 1)), (0, .ref (ad 0)), (1, .int x1), (2, .int x2), (3, .int x3), (4, .int x4)]) hx hb dX8_findPanels_98 hl (k := 5) rfl rfl (by decide) rfl (fun ls hl => ?_)
                      refine lv_goto (tgt := 27) hx hb dX8_findPanels_101 (by decide) ?_
                      exact ih27 S2 x1 x2 x3 x4 (x5 + 1) _ _ ls h hw (lv_sub hl [1, 2, 3, 4, 5, 0] rfl)
          intro S x1 x2 x3 x4 H locs ls h hw hl
          rw [fX8_findPanels_b18] at h
          refine lv_iload hx hb dX8_findPanels_18 (lv_at hl 4 rfl) ?_
          refine lv_iload_n hx hb dX8_findPanels_20 rfl (lv_at hl 3 rfl) ?_
          refine lv_icmp_ge (tgt := 110) hx hb dX8_findPanels_21 (by decide) (fun c => ?_) (fun c => ?_)
          · have h := (it_d h).1 c
            refine lv_iinc (v := (x3 + 1)) (lv' := [(3, .int (x3 + 1)), (0, .ref (ad 0)), (1, .int x1), (2, .int x2), (4, .int x4)]) hx hb dX8_findPanels_110 hl (k := 3) rfl rfl (by decide) rfl (fun ls hl => ?_)
            refine lv_goto (tgt := 7) hx hb dX8_findPanels_113 (by decide) ?_
            exact ih7 S x1 x2 (x3 + 1) _ _ ls h hw (lv_sub hl [1, 2, 3, 0] rfl)
          · have h := (it_d h).2 c
            refine lv_iconst (v := 0) hx hb dX8_findPanels_24 (by decide) ?_
            refine lv_istore (lv' := [(5, .int 0), (0, .ref (ad 0)), (1, .int x1), (2, .int x2), (3, .int x3), (4, .int x4)]) hx hb dX8_findPanels_25 hl (by decide) rfl (fun ls hl => ?_)
            exact B27 N S x1 x2 x3 x4 0 _ _ ls h hw (lv_sub hl [1, 2, 3, 4, 5, 0] rfl)
      intro S x1 x2 x3 H locs ls h hw hl
      rw [fX8_findPanels_b7] at h
      refine lv_iload_n hx hb dX8_findPanels_7 rfl (lv_at hl 3 rfl) ?_
      refine lv_aload_n hx hb dX8_findPanels_8 rfl (lv_at hl 0 rfl) ?_
      refine x_getI C hw gtX8_115 dX8_findPanels_9 ?_
      refine lv_icmp_ge (tgt := 116) hx hb dX8_findPanels_12 (by decide) (fun c => ?_) (fun c => ?_)
      · have h := (it_d h).1 c
        exact B116 S x1 x2 _ _ ls h hw (lv_sub hl [0, 1, 2] rfl)
      · have h := (it_d h).2 c
        refine lv_iconst (v := 1) hx hb dX8_findPanels_15 (by decide) ?_
        refine lv_istore (lv' := [(4, .int 1), (0, .ref (ad 0)), (1, .int x1), (2, .int x2), (3, .int x3)]) hx hb dX8_findPanels_16 hl (by decide) rfl (fun ls hl => ?_)
        exact B18 N S x1 x2 x3 1 _ _ ls h hw (lv_sub hl [1, 2, 3, 4, 0] rfl)
  unfold fX8_findPanels at h
  refine lv_aload_n hx hb dX8_findPanels_0 rfl (lv_at hl 0 rfl) ?_
  refine lv_iconst (v := 0) hx hb dX8_findPanels_1 (by decide) ?_
  obtain ⟨S1, hv, h⟩ := bb_some h
  refine x_putO C hw gpX8_215 hv rfl rfl dX8_findPanels_2 (fun H locs hw => ?_)
  refine lv_iconst (v := 2) hx hb dX8_findPanels_5 (by decide) ?_
  refine lv_istore_n (lv' := [(3, .int 2), (0, .ref (ad 0)), (1, .int x1), (2, .int x2)]) hx hb dX8_findPanels_6 rfl hl (by decide) rfl (fun ls hl => ?_)
  exact B7 N S1 x1 x2 2 _ _ ls h hw (lv_sub hl [1, 2, 3, 0] rfl)
set_option maxHeartbeats 4000000 in
set_option maxRecDepth 100000 in
theorem mX8_isDay {N : Nat} {l : Launch} {D : va_G} {ad : Nat → Nat} {cI cZ : ClassId} {S Sz : SS} {x0 : Int32} {rz : Int32} (h : fX8_isDay N S x0 = some (rz, Sz)) : MI l D lyM ad cI cZ yX8_isDay cX8_isDay 1 (some .boolean) 1 [.int x0] S rz Sz := by
  refine x_startI RX8 (by decide) rfl (Nat.le_of_ble_eq_true rfl) ?_
  intro p e s m args below meth c A C hw ls hl
  have hx := C.1
  have hb := C.2.1
  have hown := C.2.2.2.1
  have hts := C.2.2.2.2.1
  have hl : lv_has ls 1 [(0, .int x0)] := hl
  unfold fX8_isDay at h
  refine lv_iload_n hx hb dX8_isDay_0 rfl (lv_at hl 0 rfl) ?_
  refine lv_iconst (v := 0) hx hb dX8_isDay_1 (by decide) ?_
  refine lv_sipush (v := 30000) hx hb dX8_isDay_2 (by decide) ?_
  obtain ⟨r1, S1, hv, h⟩ := b2_some h
  refine x_callSI C hw (mX8_within hv) lkX8_111 rfl (Nat.le_of_ble_eq_true rfl) hl.1 rfl (Nat.le_of_ble_eq_true rfl) dX8_isDay_5 (fun H locs hw => ?_)
  exact x_zret C hw h dX8_isDay_8
set_option maxHeartbeats 4000000 in
set_option maxRecDepth 100000 in
theorem mX8_isUnion {N : Nat} {l : Launch} {D : va_G} {ad : Nat → Nat} {cI cZ : ClassId} {S Sz : SS} {x0 : Int32} {rz : Int32} (h : fX8_isUnion N S x0 = some (rz, Sz)) : MI l D lyM ad cI cZ yX8_isUnion cX8_isUnion 1 (some .boolean) 1 [.int x0] S rz Sz := by
  refine x_startI RX8 (by decide) rfl (Nat.le_of_ble_eq_true rfl) ?_
  intro p e s m args below meth c A C hw ls hl
  have hx := C.1
  have hb := C.2.1
  have hown := C.2.2.2.1
  have hts := C.2.2.2.2.1
  have hl : lv_has ls 1 [(0, .int x0)] := hl
  unfold fX8_isUnion at h
  refine lv_iload_n hx hb dX8_isUnion_0 rfl (lv_at hl 0 rfl) ?_
  refine lv_iconst (v := 0) hx hb dX8_isUnion_1 (by decide) ?_
  refine lv_iconst (v := 2) hx hb dX8_isUnion_2 (by decide) ?_
  obtain ⟨r1, S1, hv, h⟩ := b2_some h
  refine x_callSI C hw (mX8_within hv) lkX8_111 rfl (Nat.le_of_ble_eq_true rfl) hl.1 rfl (Nat.le_of_ble_eq_true rfl) dX8_isUnion_3 (fun H locs hw => ?_)
  exact x_zret C hw h dX8_isUnion_6
set_option maxHeartbeats 4000000 in
set_option maxRecDepth 100000 in
theorem mX8_isLight {N : Nat} {l : Launch} {D : va_G} {ad : Nat → Nat} {cI cZ : ClassId} {S Sz : SS} {x1 x2 : Int32} {rz : Int32} (h : fX8_isLight N S x1 x2 = some (rz, Sz)) : MI l D lyM ad cI cZ yX8_isLight cX8_isLight 5 (some .boolean) 0 [.ref (ad 0), .int x1, .int x2] S rz Sz := by
  refine x_startI RX8 (by decide) rfl (Nat.le_of_ble_eq_true rfl) ?_
  intro p e s m args below meth c A C hw ls hl
  have hx := C.1
  have hb := C.2.1
  have hown := C.2.2.2.1
  have hts := C.2.2.2.2.1
  have hl : lv_has ls 5 [(0, .ref (ad 0)), (1, .int x1), (2, .int x2)] := hl
  have B5 : ∀ n : Nat, ∀ (S : SS) (x1 x2 x3 x4 : Int32) (H : Heap) (locs : List Loc) (ls : Array Slot), fX8_isLight_b5 N n S x1 x2 x3 x4 = some (rz, Sz) → WH D A s.heap lyM ad cI cZ S H locs → lv_has ls 5 [(0, .ref (ad 0)), (1, .int x1), (2, .int x2), (3, .int x3), (4, .int x4)] → W p l e (rmK 0) s m args below meth c H locs 0 0 (MQ below (Qi D lyM ad cI cZ A rz Sz) args s 0 0 A) (F0 m 5 ls []) := by
    intro n
    induction n with
    | zero =>
      intro S x1 x2 x3 x4 H locs ls h hw hl
      rw [fX8_isLight_b5] at h
      cases h
    | succ n ih5 =>
      intro S x1 x2 x3 x4 H locs ls h hw hl
      rw [fX8_isLight_b5] at h
      refine lv_iload hx hb dX8_isLight_5 (lv_at hl 4 rfl) ?_
      refine lv_aload_n hx hb dX8_isLight_7 rfl (lv_at hl 0 rfl) ?_
      refine x_getI C hw gtX8_115 dX8_isLight_8 ?_
      refine lv_icmp_ge (tgt := 50) hx hb dX8_isLight_11 (by decide) (fun c => ?_) (fun c => ?_)
      · have h := (it_d h).1 c
        refine lv_iload_n hx hb dX8_isLight_50 rfl (lv_at hl 3 rfl) ?_
        exact x_zret C hw h dX8_isLight_51
      · have h := (it_d h).2 c
        refine lv_iload_n hx hb dX8_isLight_14 rfl (lv_at hl 3 rfl) ?_
        refine lv_if_eq (tgt := 42) hx hb dX8_isLight_15 (by decide) (fun c => ?_) (fun c => ?_)
        · have h := (it_d h).1 c
          refine lv_iconst (v := 0) hx hb dX8_isLight_42 (by decide) ?_
          refine lv_istore_n (lv' := [(3, .int 0), (0, .ref (ad 0)), (1, .int x1), (2, .int x2), (4, .int x4)]) hx hb dX8_isLight_43 rfl hl (by decide) rfl (fun ls hl => ?_)
          refine lv_iinc (v := (x4 + 1)) (lv' := [(4, .int (x4 + 1)), (3, .int 0), (0, .ref (ad 0)), (1, .int x1), (2, .int x2)]) hx hb dX8_isLight_44 hl (k := 4) rfl rfl (by decide) rfl (fun ls hl => ?_)
          refine lv_goto (tgt := 5) hx hb dX8_isLight_47 (by decide) ?_
          exact ih5 S x1 x2 0 (x4 + 1) _ _ ls h hw (lv_sub hl [2, 3, 4, 1, 0] rfl)
        · have h := (it_d h).2 c
          refine lv_iload_n hx hb dX8_isLight_18 rfl (lv_at hl 1 rfl) ?_
          refine lv_iload hx hb dX8_isLight_19 (lv_at hl 4 rfl) ?_
          refine lv_ishr hx hb dX8_isLight_21 ?_
          refine lv_iconst (v := 1) hx hb dX8_isLight_22 (by decide) ?_
          refine lv_iand hx hb dX8_isLight_23 ?_
          refine lv_if_eq (tgt := 38) hx hb dX8_isLight_24 (by decide) (fun c => ?_) (fun c => ?_)
          · have h := (it_d h).1 c
            refine lv_iconst (v := 1) hx hb dX8_isLight_38 (by decide) ?_
            refine lv_goto (tgt := 43) hx hb dX8_isLight_39 (by decide) ?_
            refine lv_istore_n (lv' := [(3, .int 1), (0, .ref (ad 0)), (1, .int x1), (2, .int x2), (4, .int x4)]) hx hb dX8_isLight_43 rfl hl (by decide) rfl (fun ls hl => ?_)
            refine lv_iinc (v := (x4 + 1)) (lv' := [(4, .int (x4 + 1)), (3, .int 1), (0, .ref (ad 0)), (1, .int x1), (2, .int x2)]) hx hb dX8_isLight_44 hl (k := 4) rfl rfl (by decide) rfl (fun ls hl => ?_)
            refine lv_goto (tgt := 5) hx hb dX8_isLight_47 (by decide) ?_
            exact ih5 S x1 x2 1 (x4 + 1) _ _ ls h hw (lv_sub hl [2, 3, 4, 1, 0] rfl)
          · have h := (it_d h).2 c
            refine lv_aload_n hx hb dX8_isLight_27 rfl (lv_at hl 0 rfl) ?_
            refine x_getR C hw gtX8_107 dX8_isLight_28 ?_
            refine lv_iload hx hb dX8_isLight_31 (lv_at hl 4 rfl) ?_
            obtain ⟨v1, hv, h⟩ := bb_some h
            refine x_ald C hw alM_33 hv dX8_isLight_33 ?_
            refine lv_iload_n hx hb dX8_isLight_34 rfl (lv_at hl 2 rfl) ?_
            refine lv_icmp_ge (tgt := 42) hx hb dX8_isLight_35 (by decide) (fun c => ?_) (fun c => ?_)
            · have h := (it_d h).1 c
              refine lv_iconst (v := 0) hx hb dX8_isLight_42 (by decide) ?_
              refine lv_istore_n (lv' := [(3, .int 0), (0, .ref (ad 0)), (1, .int x1), (2, .int x2), (4, .int x4)]) hx hb dX8_isLight_43 rfl hl (by decide) rfl (fun ls hl => ?_)
              refine lv_iinc (v := (x4 + 1)) (lv' := [(4, .int (x4 + 1)), (3, .int 0), (0, .ref (ad 0)), (1, .int x1), (2, .int x2)]) hx hb dX8_isLight_44 hl (k := 4) rfl rfl (by decide) rfl (fun ls hl => ?_)
              refine lv_goto (tgt := 5) hx hb dX8_isLight_47 (by decide) ?_
              exact ih5 S x1 x2 0 (x4 + 1) _ _ ls h hw (lv_sub hl [2, 3, 4, 1, 0] rfl)
            · have h := (it_d h).2 c
              refine lv_iconst (v := 1) hx hb dX8_isLight_38 (by decide) ?_
              refine lv_goto (tgt := 43) hx hb dX8_isLight_39 (by decide) ?_
              refine lv_istore_n (lv' := [(3, .int 1), (0, .ref (ad 0)), (1, .int x1), (2, .int x2), (4, .int x4)]) hx hb dX8_isLight_43 rfl hl (by decide) rfl (fun ls hl => ?_)
              refine lv_iinc (v := (x4 + 1)) (lv' := [(4, .int (x4 + 1)), (3, .int 1), (0, .ref (ad 0)), (1, .int x1), (2, .int x2)]) hx hb dX8_isLight_44 hl (k := 4) rfl rfl (by decide) rfl (fun ls hl => ?_)
              refine lv_goto (tgt := 5) hx hb dX8_isLight_47 (by decide) ?_
              exact ih5 S x1 x2 1 (x4 + 1) _ _ ls h hw (lv_sub hl [2, 3, 4, 1, 0] rfl)
  unfold fX8_isLight at h
  refine lv_iconst (v := 1) hx hb dX8_isLight_0 (by decide) ?_
  refine lv_istore_n (lv' := [(3, .int 1), (0, .ref (ad 0)), (1, .int x1), (2, .int x2)]) hx hb dX8_isLight_1 rfl hl (by decide) rfl (fun ls hl => ?_)
  refine lv_iconst (v := 0) hx hb dX8_isLight_2 (by decide) ?_
  refine lv_istore (lv' := [(4, .int 0), (3, .int 1), (0, .ref (ad 0)), (1, .int x1), (2, .int x2)]) hx hb dX8_isLight_3 hl (by decide) rfl (fun ls hl => ?_)
  exact B5 N S x1 x2 1 0 _ _ ls h hw (lv_sub hl [2, 3, 4, 1, 0] rfl)
set_option maxHeartbeats 4000000 in
set_option maxRecDepth 100000 in
theorem mX8_loads {N : Nat} {l : Launch} {D : va_G} {ad : Nat → Nat} {cI cZ : ClassId} {S Sz : SS} {x1 x2 : Int32} (h : fX8_loads N S x1 x2 = some Sz) : MV l D lyM ad cI cZ yX8_loads cX8_loads 4 0 [.ref (ad 0), .int x1, .int x2] S Sz := by
  refine x_startV RX8 (by decide) rfl (Nat.le_of_ble_eq_true rfl) ?_
  intro p e s m args below meth c A C hw ls hl
  have hx := C.1
  have hb := C.2.1
  have hown := C.2.2.2.1
  have hts := C.2.2.2.2.1
  have hl : lv_has ls 4 [(0, .ref (ad 0)), (1, .int x1), (2, .int x2)] := hl
  have B2 : ∀ n : Nat, ∀ (S : SS) (x1 x2 x3 : Int32) (H : Heap) (locs : List Loc) (ls : Array Slot), fX8_loads_b2 N n S x1 x2 x3 = some Sz → WH D A s.heap lyM ad cI cZ S H locs → lv_has ls 4 [(0, .ref (ad 0)), (1, .int x1), (2, .int x2), (3, .int x3)] → W p l e (rmK 0) s m args below meth c H locs 0 0 (MQ below (Qv D lyM ad cI cZ A Sz) args s 0 0 A) (F0 m 2 ls []) := by
    intro n
    induction n with
    | zero =>
      intro S x1 x2 x3 H locs ls h hw hl
      rw [fX8_loads_b2] at h
      cases h
    | succ n2 ih2 =>
      have B31 : ∀ (S : SS) (x1 x2 x3 t1 t2 t3 : Int32) (H : Heap) (locs : List Loc) (ls : Array Slot), fX8_loads_b31 N (fun S x1 x2 x3 => fX8_loads_b2 N n2 S x1 x2 x3) S x1 x2 x3 t1 t2 t3 = some Sz → WH D A s.heap lyM ad cI cZ S H locs → lv_has ls 4 [(0, .ref (ad 0)), (1, .int x1), (2, .int x2), (3, .int x3)] → W p l e (rmK 0) s m args below meth c H locs 0 0 (MQ below (Qv D lyM ad cI cZ A Sz) args s 0 0 A) (F0 m 31 ls [.int t3, .int t2, .int t1, .ref (ad 33)]) := by
        intro S x1 x2 x3 t1 t2 t3 H locs ls h hw hl
        unfold fX8_loads_b31 at h
        refine lv_iadd hx hb dX8_loads_31 ?_
        obtain ⟨S1, hv, h⟩ := bb_some h
        refine x_ast C hw alM_33 hv dX8_loads_32 (fun H locs hw => ?_)
        refine lv_iinc (v := (x3 + 1)) (lv' := [(3, .int (x3 + 1)), (0, .ref (ad 0)), (1, .int x1), (2, .int x2)]) hx hb dX8_loads_33 hl (k := 3) rfl rfl (by decide) rfl (fun ls hl => ?_)
        refine lv_goto (tgt := 2) hx hb dX8_loads_36 (by decide) ?_
        exact ih2 S1 x1 x2 (x3 + 1) _ _ ls h hw (lv_sub hl [1, 2, 3, 0] rfl)
      intro S x1 x2 x3 H locs ls h hw hl
      rw [fX8_loads_b2] at h
      refine lv_iload_n hx hb dX8_loads_2 rfl (lv_at hl 3 rfl) ?_
      refine lv_aload_n hx hb dX8_loads_3 rfl (lv_at hl 0 rfl) ?_
      refine x_getI C hw gtX8_115 dX8_loads_4 ?_
      refine lv_icmp_ge (tgt := 39) hx hb dX8_loads_7 (by decide) (fun c => ?_) (fun c => ?_)
      · have h := (it_d h).1 c
        exact x_vret C hw h dX8_loads_39
      · have h := (it_d h).2 c
        refine lv_aload_n hx hb dX8_loads_10 rfl (lv_at hl 0 rfl) ?_
        refine x_getR C hw gtX8_107 dX8_loads_11 ?_
        refine lv_iload_n hx hb dX8_loads_14 rfl (lv_at hl 3 rfl) ?_
        refine lv_dup2_11 hx hb dX8_loads_15 rfl rfl ?_
        obtain ⟨v1, hv, h⟩ := bb_some h
        refine x_ald C hw alM_33 hv dX8_loads_16 ?_
        refine lv_iload_n hx hb dX8_loads_17 rfl (lv_at hl 1 rfl) ?_
        refine lv_iload_n hx hb dX8_loads_18 rfl (lv_at hl 3 rfl) ?_
        refine lv_ishr hx hb dX8_loads_19 ?_
        refine lv_iconst (v := 1) hx hb dX8_loads_20 (by decide) ?_
        refine lv_iand hx hb dX8_loads_21 ?_
        refine lv_iconst (v := 1) hx hb dX8_loads_22 (by decide) ?_
        refine lv_icmp_ne (tgt := 30) hx hb dX8_loads_23 (by decide) (fun c => ?_) (fun c => ?_)
        · have h := (it_d h).2 c
          refine lv_iconst (v := 0) hx hb dX8_loads_30 (by decide) ?_
          exact B31 S x1 x2 x3 x3 v1 0 _ _ ls h hw (lv_sub hl [0, 1, 2, 3] rfl)
        · have h := (it_d h).1 c
          refine lv_iload_n hx hb dX8_loads_26 rfl (lv_at hl 2 rfl) ?_
          refine lv_goto (tgt := 31) hx hb dX8_loads_27 (by decide) ?_
          exact B31 S x1 x2 x3 x3 v1 x2 _ _ ls h hw (lv_sub hl [0, 1, 2, 3] rfl)
  unfold fX8_loads at h
  refine lv_iconst (v := 0) hx hb dX8_loads_0 (by decide) ?_
  refine lv_istore_n (lv' := [(3, .int 0), (0, .ref (ad 0)), (1, .int x1), (2, .int x2)]) hx hb dX8_loads_1 rfl hl (by decide) rfl (fun ls hl => ?_)
  exact B2 N S x1 x2 0 _ _ ls h hw (lv_sub hl [1, 2, 3, 0] rfl)
set_option maxHeartbeats 4000000 in
set_option maxRecDepth 100000 in
theorem mX8_tryAll {N : Nat} {l : Launch} {D : va_G} {ad : Nat → Nat} {cI cZ : ClassId} {S Sz : SS} {x1 : Int32} (h : fX8_tryAll N S x1 = some Sz) : MV l D lyM ad cI cZ yX8_tryAll cX8_tryAll 5 1 [.ref (ad 0), .int x1] S Sz := by
  refine x_startV RX8 (by decide) rfl (Nat.le_of_ble_eq_true rfl) ?_
  intro p e s m args below meth c A C hw ls hl
  have hx := C.1
  have hb := C.2.1
  have hown := C.2.2.2.1
  have hts := C.2.2.2.2.1
  have hl : lv_has ls 5 [(0, .ref (ad 0)), (1, .int x1)] := hl
  have B40 : ∀ n : Nat, ∀ (S : SS) (x1 x2 x3 : Int32) (H : Heap) (locs : List Loc) (ls : Array Slot), fX8_tryAll_b40 N n S x1 x2 x3 = some Sz → WH D A s.heap lyM ad cI cZ S H locs → lv_has ls 5 [(0, .ref (ad 0)), (1, .int x1), (2, .int x2), (3, .int x3)] → W p l e (rmK 1) s m args below meth c H locs 0 0 (MQ below (Qv D lyM ad cI cZ A Sz) args s 0 0 A) (F0 m 40 ls []) := by
    intro n
    induction n with
    | zero =>
      intro S x1 x2 x3 H locs ls h hw hl
      rw [fX8_tryAll_b40] at h
      cases h
    | succ n40 ih40 =>
      have B292 : ∀ (S : SS) (x1 x2 x3 : Int32) (H : Heap) (locs : List Loc) (ls : Array Slot), fX8_tryAll_b292 N (fun S x1 x2 x3 => fX8_tryAll_b40 N n40 S x1 x2 x3) S x1 x2 x3 = some Sz → WH D A s.heap lyM ad cI cZ S H locs → lv_has ls 5 [(0, .ref (ad 0)), (1, .int x1), (2, .int x2), (3, .int x3)] → W p l e (rmK 1) s m args below meth c H locs 0 0 (MQ below (Qv D lyM ad cI cZ A Sz) args s 0 0 A) (F0 m 292 ls []) := by
        intro S x1 x2 x3 H locs ls h hw hl
        unfold fX8_tryAll_b292 at h
        refine lv_iinc (v := (x2 + 1)) (lv' := [(2, .int (x2 + 1)), (0, .ref (ad 0)), (1, .int x1), (3, .int x3)]) hx hb dX8_tryAll_292 hl (k := 2) rfl rfl (by decide) rfl (fun ls hl => ?_)
        refine lv_aload_n hx hb dX8_tryAll_295 rfl (lv_at hl 1 rfl) ?_
        refine x_getR C hw gtX8_104 dX8_tryAll_296 ?_
        refine lv_iload_n hx hb dX8_tryAll_299 rfl (lv_at hl 0 rfl) ?_
        refine lv_iconst (v := (-1)) hx hb dX8_tryAll_300 (by decide) ?_
        obtain ⟨S1, hv, h⟩ := bb_some h
        refine x_ast C hw alM_32 hv dX8_tryAll_301 (fun H locs hw => ?_)
        refine lv_goto (tgt := 40) hx hb dX8_tryAll_302 (by decide) ?_
        exact ih40 S1 x1 (x2 + 1) x3 _ _ ls h hw (lv_sub hl [1, 2, 0, 3] rfl)
      have B241 : ∀ (S : SS) (x1 x2 x3 : Int32) (H : Heap) (locs : List Loc) (ls : Array Slot), fX8_tryAll_b241 N (fun S x1 x2 x3 => fX8_tryAll_b40 N n40 S x1 x2 x3) S x1 x2 x3 = some Sz → WH D A s.heap lyM ad cI cZ S H locs → lv_has ls 5 [(0, .ref (ad 0)), (1, .int x1), (2, .int x2), (3, .int x3)] → W p l e (rmK 1) s m args below meth c H locs 0 0 (MQ below (Qv D lyM ad cI cZ A Sz) args s 0 0 A) (F0 m 241 ls []) := by
        intro S x1 x2 x3 H locs ls h hw hl
        unfold fX8_tryAll_b241 at h
        refine lv_aload_n hx hb dX8_tryAll_241 rfl (lv_at hl 0 rfl) ?_
        refine x_getR C hw gtX8_104 dX8_tryAll_242 ?_
        refine lv_iload_n hx hb dX8_tryAll_245 rfl (lv_at hl 2 rfl) ?_
        obtain ⟨v1, hv, h⟩ := bb_some h
        refine x_ald C hw alM_32 hv dX8_tryAll_246 ?_
        refine lv_aload_n hx hb dX8_tryAll_247 rfl (lv_at hl 0 rfl) ?_
        refine x_getI C hw gtX8_215 dX8_tryAll_248 ?_
        refine lv_icmp_le (tgt := 260) hx hb dX8_tryAll_251 (by decide) (fun c => ?_) (fun c => ?_)
        · have h := (it_d h).1 c
          refine lv_aload_n hx hb dX8_tryAll_260 rfl (lv_at hl 0 rfl) ?_
          refine x_getR C hw gtX8_104 dX8_tryAll_261 ?_
          refine lv_iload_n hx hb dX8_tryAll_264 rfl (lv_at hl 2 rfl) ?_
          obtain ⟨v2, hv, h⟩ := bb_some h
          refine x_ald C hw alM_32 hv dX8_tryAll_265 ?_
          refine lv_aload_n hx hb dX8_tryAll_266 rfl (lv_at hl 0 rfl) ?_
          refine x_getI C hw gtX8_215 dX8_tryAll_267 ?_
          refine lv_icmp_ge (tgt := 292) hx hb dX8_tryAll_270 (by decide) (fun c => ?_) (fun c => ?_)
          · have h := (it_d h).1 c
            exact B292 S x1 x2 x3 _ _ ls h hw (lv_sub hl [0, 1, 2, 3] rfl)
          · have h := (it_d h).2 c
            refine lv_aload_n hx hb dX8_tryAll_273 rfl (lv_at hl 0 rfl) ?_
            refine lv_aload_n hx hb dX8_tryAll_274 rfl (lv_at hl 0 rfl) ?_
            refine x_getR C hw gtX8_98 dX8_tryAll_275 ?_
            refine lv_aload_n hx hb dX8_tryAll_278 rfl (lv_at hl 0 rfl) ?_
            refine x_getR C hw gtX8_104 dX8_tryAll_279 ?_
            refine lv_iload_n hx hb dX8_tryAll_282 rfl (lv_at hl 2 rfl) ?_
            obtain ⟨v3, hv, h⟩ := bb_some h
            refine x_ald C hw alM_32 hv dX8_tryAll_283 ?_
            obtain ⟨v4, hv, h⟩ := bb_some h
            refine x_ald C hw alM_30 hv dX8_tryAll_284 ?_
            refine lv_iconst (v := 1) hx hb dX8_tryAll_285 (by decide) ?_
            obtain ⟨S1, hv, h⟩ := bb_some h
            refine x_callVV C hw (mX8_loads hv) lkX8_221 rfl (Nat.le_of_ble_eq_true rfl) hl.1 rfl (Nat.le_of_ble_eq_true rfl) dX8_tryAll_286 (fun H locs hw => ?_)
            refine lv_iinc (v := (x3 + 1)) (lv' := [(3, .int (x3 + 1)), (0, .ref (ad 0)), (1, .int x1), (2, .int x2)]) hx hb dX8_tryAll_289 hl (k := 3) rfl rfl (by decide) rfl (fun ls hl => ?_)
            exact B292 S1 x1 x2 (x3 + 1) _ _ ls h hw (lv_sub hl [1, 2, 3, 0] rfl)
        · have h := (it_d h).2 c
          refine lv_iinc (v := (x2 + (-1))) (lv' := [(2, .int (x2 + (-1))), (0, .ref (ad 0)), (1, .int x1), (3, .int x3)]) hx hb dX8_tryAll_254 hl (k := 2) rfl rfl (by decide) rfl (fun ls hl => ?_)
          refine lv_goto (tgt := 40) hx hb dX8_tryAll_257 (by decide) ?_
          exact ih40 S x1 (x2 + (-1)) x3 _ _ ls h hw (lv_sub hl [1, 2, 0, 3] rfl)
      have B177 : ∀ n : Nat, ∀ (S : SS) (x1 x2 x3 : Int32) (H : Heap) (locs : List Loc) (ls : Array Slot), fX8_tryAll_b177 N (fun S x1 x2 x3 => fX8_tryAll_b40 N n40 S x1 x2 x3) n S x1 x2 x3 = some Sz → WH D A s.heap lyM ad cI cZ S H locs → lv_has ls 5 [(0, .ref (ad 0)), (1, .int x1), (2, .int x2), (3, .int x3)] → W p l e (rmK 1) s m args below meth c H locs 0 0 (MQ below (Qv D lyM ad cI cZ A Sz) args s 0 0 A) (F0 m 177 ls []) := by
        intro n
        induction n with
        | zero =>
          intro S x1 x2 x3 H locs ls h hw hl
          rw [fX8_tryAll_b177] at h
          cases h
        | succ n177 ih177 =>
          have B228 : ∀ (S : SS) (x1 x2 x3 : Int32) (H : Heap) (locs : List Loc) (ls : Array Slot), fX8_tryAll_b228 N (fun S x1 x2 x3 => fX8_tryAll_b40 N n40 S x1 x2 x3) (fun S x1 x2 x3 => fX8_tryAll_b177 N (fun S x1 x2 x3 => fX8_tryAll_b40 N n40 S x1 x2 x3) n177 S x1 x2 x3) S x1 x2 x3 = some Sz → WH D A s.heap lyM ad cI cZ S H locs → lv_has ls 5 [(0, .ref (ad 0)), (1, .int x1), (2, .int x2), (3, .int x3)] → W p l e (rmK 1) s m args below meth c H locs 0 0 (MQ below (Qv D lyM ad cI cZ A Sz) args s 0 0 A) (F0 m 228 ls []) := by
            intro S x1 x2 x3 H locs ls h hw hl
            unfold fX8_tryAll_b228 at h
            refine lv_aload_n hx hb dX8_tryAll_228 rfl (lv_at hl 0 rfl) ?_
            refine x_getR C hw gtX8_104 dX8_tryAll_229 ?_
            refine lv_iload_n hx hb dX8_tryAll_232 rfl (lv_at hl 2 rfl) ?_
            refine lv_dup2_11 hx hb dX8_tryAll_233 rfl rfl ?_
            obtain ⟨v1, hv, h⟩ := bb_some h
            refine x_ald C hw alM_32 hv dX8_tryAll_234 ?_
            refine lv_iconst (v := 1) hx hb dX8_tryAll_235 (by decide) ?_
            refine lv_iadd hx hb dX8_tryAll_236 ?_
            obtain ⟨S1, hv, h⟩ := bb_some h
            refine x_ast C hw alM_32 hv dX8_tryAll_237 (fun H locs hw => ?_)
            refine lv_goto (tgt := 177) hx hb dX8_tryAll_238 (by decide) ?_
            exact ih177 S1 x1 x2 x3 _ _ ls h hw (lv_sub hl [0, 1, 2, 3] rfl)
          intro S x1 x2 x3 H locs ls h hw hl
          rw [fX8_tryAll_b177] at h
          refine lv_aload_n hx hb dX8_tryAll_177 rfl (lv_at hl 0 rfl) ?_
          refine x_getR C hw gtX8_104 dX8_tryAll_178 ?_
          refine lv_iload_n hx hb dX8_tryAll_181 rfl (lv_at hl 2 rfl) ?_
          obtain ⟨v1, hv, h⟩ := bb_some h
          refine x_ald C hw alM_32 hv dX8_tryAll_182 ?_
          refine lv_aload_n hx hb dX8_tryAll_183 rfl (lv_at hl 0 rfl) ?_
          refine x_getI C hw gtX8_215 dX8_tryAll_184 ?_
          refine lv_icmp_ge (tgt := 241) hx hb dX8_tryAll_187 (by decide) (fun c => ?_) (fun c => ?_)
          · have h := (it_d h).1 c
            exact B241 S x1 x2 x3 _ _ ls h hw (lv_sub hl [0, 1, 2, 3] rfl)
          · have h := (it_d h).2 c
            refine lv_aload_n hx hb dX8_tryAll_190 rfl (lv_at hl 0 rfl) ?_
            refine x_getR C hw gtX8_101 dX8_tryAll_191 ?_
            refine lv_bipush (v := 20) hx hb dX8_tryAll_194 (by decide) ?_
            refine lv_iload_n hx hb dX8_tryAll_196 rfl (lv_at hl 2 rfl) ?_
            refine lv_imul hx hb dX8_tryAll_197 ?_
            refine lv_aload_n hx hb dX8_tryAll_198 rfl (lv_at hl 0 rfl) ?_
            refine x_getR C hw gtX8_104 dX8_tryAll_199 ?_
            refine lv_iload_n hx hb dX8_tryAll_202 rfl (lv_at hl 2 rfl) ?_
            obtain ⟨v2, hv, h⟩ := bb_some h
            refine x_ald C hw alM_32 hv dX8_tryAll_203 ?_
            refine lv_iadd hx hb dX8_tryAll_204 ?_
            obtain ⟨v3, hv, h⟩ := bb_some h
            refine x_zald C hw alM_31 hv dX8_tryAll_205 ?_
            refine lv_if_eq (tgt := 228) hx hb dX8_tryAll_206 (by decide) (fun c => ?_) (fun c => ?_)
            · have h := (it_d h).1 c
              exact B228 S x1 x2 x3 _ _ ls h hw (lv_sub hl [0, 1, 2, 3] rfl)
            · have h := (it_d h).2 c
              refine lv_aload_n hx hb dX8_tryAll_209 rfl (lv_at hl 0 rfl) ?_
              refine lv_aload_n hx hb dX8_tryAll_210 rfl (lv_at hl 0 rfl) ?_
              refine x_getR C hw gtX8_98 dX8_tryAll_211 ?_
              refine lv_aload_n hx hb dX8_tryAll_214 rfl (lv_at hl 0 rfl) ?_
              refine x_getR C hw gtX8_104 dX8_tryAll_215 ?_
              refine lv_iload_n hx hb dX8_tryAll_218 rfl (lv_at hl 2 rfl) ?_
              obtain ⟨v4, hv, h⟩ := bb_some h
              refine x_ald C hw alM_32 hv dX8_tryAll_219 ?_
              obtain ⟨v5, hv, h⟩ := bb_some h
              refine x_ald C hw alM_30 hv dX8_tryAll_220 ?_
              refine lv_iload_n hx hb dX8_tryAll_221 rfl (lv_at hl 1 rfl) ?_
              obtain ⟨r1, S1, hv, h⟩ := b2_some h
              refine x_callVI C hw (mX8_isLight hv) lkX8_225 rfl (Nat.le_of_ble_eq_true rfl) hl.1 rfl (Nat.le_of_ble_eq_true rfl) dX8_tryAll_222 (fun H locs hw => ?_)
              refine lv_if_ne (tgt := 241) hx hb dX8_tryAll_225 (by decide) (fun c => ?_) (fun c => ?_)
              · have h := (it_d h).2 c
                exact B241 S1 x1 x2 x3 _ _ ls h hw (lv_sub hl [0, 1, 2, 3] rfl)
              · have h := (it_d h).1 c
                exact B228 S1 x1 x2 x3 _ _ ls h hw (lv_sub hl [0, 1, 2, 3] rfl)
      have B167 : ∀ (S : SS) (x1 x2 x3 : Int32) (H : Heap) (locs : List Loc) (ls : Array Slot), fX8_tryAll_b167 N (fun S x1 x2 x3 => fX8_tryAll_b40 N n40 S x1 x2 x3) S x1 x2 x3 = some Sz → WH D A s.heap lyM ad cI cZ S H locs → lv_has ls 5 [(0, .ref (ad 0)), (1, .int x1), (2, .int x2), (3, .int x3)] → W p l e (rmK 1) s m args below meth c H locs 0 0 (MQ below (Qv D lyM ad cI cZ A Sz) args s 0 0 A) (F0 m 167 ls []) := by
        intro S x1 x2 x3 H locs ls h hw hl
        unfold fX8_tryAll_b167 at h
        refine lv_aload_n hx hb dX8_tryAll_167 rfl (lv_at hl 0 rfl) ?_
        refine x_getR C hw gtX8_104 dX8_tryAll_168 ?_
        refine lv_iload_n hx hb dX8_tryAll_171 rfl (lv_at hl 2 rfl) ?_
        refine lv_dup2_11 hx hb dX8_tryAll_172 rfl rfl ?_
        obtain ⟨v1, hv, h⟩ := bb_some h
        refine x_ald C hw alM_32 hv dX8_tryAll_173 ?_
        refine lv_iconst (v := 1) hx hb dX8_tryAll_174 (by decide) ?_
        refine lv_iadd hx hb dX8_tryAll_175 ?_
        obtain ⟨S1, hv, h⟩ := bb_some h
        refine x_ast C hw alM_32 hv dX8_tryAll_176 (fun H locs hw => ?_)
        exact B177 N S1 x1 x2 x3 _ _ ls h hw (lv_sub hl [0, 1, 2, 3] rfl)
      have B68 : ∀ n : Nat, ∀ (S : SS) (x1 x2 x3 x4 : Int32) (H : Heap) (locs : List Loc) (ls : Array Slot), fX8_tryAll_b68 N (fun S x1 x2 x3 => fX8_tryAll_b40 N n40 S x1 x2 x3) n S x1 x2 x3 x4 = some Sz → WH D A s.heap lyM ad cI cZ S H locs → lv_has ls 5 [(0, .ref (ad 0)), (1, .int x1), (2, .int x2), (3, .int x3), (4, .int x4)] → W p l e (rmK 1) s m args below meth c H locs 0 0 (MQ below (Qv D lyM ad cI cZ A Sz) args s 0 0 A) (F0 m 68 ls []) := by
        intro n
        induction n with
        | zero =>
          intro S x1 x2 x3 x4 H locs ls h hw hl
          rw [fX8_tryAll_b68] at h
          cases h
        | succ n68 ih68 =>
          have B113 : ∀ (S : SS) (x1 x2 x3 x4 t1 t2 : Int32) (H : Heap) (locs : List Loc) (ls : Array Slot), fX8_tryAll_b113 N (fun S x1 x2 x3 => fX8_tryAll_b40 N n40 S x1 x2 x3) (fun S x1 x2 x3 x4 => fX8_tryAll_b68 N (fun S x1 x2 x3 => fX8_tryAll_b40 N n40 S x1 x2 x3) n68 S x1 x2 x3 x4) S x1 x2 x3 x4 t1 t2 = some Sz → WH D A s.heap lyM ad cI cZ S H locs → lv_has ls 5 [(0, .ref (ad 0)), (1, .int x1), (2, .int x2), (3, .int x3), (4, .int x4)] → W p l e (rmK 1) s m args below meth c H locs 0 0 (MQ below (Qv D lyM ad cI cZ A Sz) args s 0 0 A) (F0 m 113 ls [.int t2, .int t1, .ref (ad 23)]) := by
            intro S x1 x2 x3 x4 t1 t2 H locs ls h hw hl
            unfold fX8_tryAll_b113 at h
            obtain ⟨S1, hv, h⟩ := bb_some h
            refine x_ast C hw alM_23 hv dX8_tryAll_113 (fun H locs hw => ?_)
            refine lv_iinc (v := (x4 + 1)) (lv' := [(4, .int (x4 + 1)), (0, .ref (ad 0)), (1, .int x1), (2, .int x2), (3, .int x3)]) hx hb dX8_tryAll_114 hl (k := 4) rfl rfl (by decide) rfl (fun ls hl => ?_)
            refine lv_goto (tgt := 68) hx hb dX8_tryAll_117 (by decide) ?_
            exact ih68 S1 x1 x2 x3 (x4 + 1) _ _ ls h hw (lv_sub hl [1, 2, 3, 4, 0] rfl)
          intro S x1 x2 x3 x4 H locs ls h hw hl
          rw [fX8_tryAll_b68] at h
          refine lv_iload hx hb dX8_tryAll_68 (lv_at hl 4 rfl) ?_
          refine lv_aload_n hx hb dX8_tryAll_70 rfl (lv_at hl 0 rfl) ?_
          refine x_getI C hw gtX8_208 dX8_tryAll_71 ?_
          refine lv_icmp_ge (tgt := 120) hx hb dX8_tryAll_74 (by decide) (fun c => ?_) (fun c => ?_)
          · have h := (it_d h).1 c
            refine lv_iinc (v := (x2 + (-1))) (lv' := [(2, .int (x2 + (-1))), (0, .ref (ad 0)), (1, .int x1), (3, .int x3), (4, .int x4)]) hx hb dX8_tryAll_120 hl (k := 2) rfl rfl (by decide) rfl (fun ls hl => ?_)
            refine lv_goto (tgt := 40) hx hb dX8_tryAll_123 (by decide) ?_
            exact ih40 S x1 (x2 + (-1)) x3 _ _ ls h hw (lv_sub hl [1, 2, 0, 3] rfl)
          · have h := (it_d h).2 c
            refine lv_aload_n hx hb dX8_tryAll_77 rfl (lv_at hl 0 rfl) ?_
            refine x_getR C hw gtX8_76 dX8_tryAll_78 ?_
            refine lv_iload hx hb dX8_tryAll_81 (lv_at hl 4 rfl) ?_
            refine lv_aload_n hx hb dX8_tryAll_83 rfl (lv_at hl 0 rfl) ?_
            refine x_getR C hw gtX8_104 dX8_tryAll_84 ?_
            refine lv_iload hx hb dX8_tryAll_87 (lv_at hl 4 rfl) ?_
            obtain ⟨v1, hv, h⟩ := bb_some h
            refine x_ald C hw alM_32 hv dX8_tryAll_89 ?_
            refine lv_aload_n hx hb dX8_tryAll_90 rfl (lv_at hl 0 rfl) ?_
            refine x_getI C hw gtX8_215 dX8_tryAll_91 ?_
            refine lv_icmp_ne (tgt := 101) hx hb dX8_tryAll_94 (by decide) (fun c => ?_) (fun c => ?_)
            · have h := (it_d h).2 c
              refine lv_aload_n hx hb dX8_tryAll_101 rfl (lv_at hl 0 rfl) ?_
              refine x_getR C hw gtX8_98 dX8_tryAll_102 ?_
              refine lv_aload_n hx hb dX8_tryAll_105 rfl (lv_at hl 0 rfl) ?_
              refine x_getR C hw gtX8_104 dX8_tryAll_106 ?_
              refine lv_iload hx hb dX8_tryAll_109 (lv_at hl 4 rfl) ?_
              obtain ⟨v2, hv, h⟩ := bb_some h
              refine x_ald C hw alM_32 hv dX8_tryAll_111 ?_
              obtain ⟨v3, hv, h⟩ := bb_some h
              refine x_ald C hw alM_30 hv dX8_tryAll_112 ?_
              exact B113 S x1 x2 x3 x4 x4 v3 _ _ ls h hw (lv_sub hl [0, 1, 2, 3, 4] rfl)
            · have h := (it_d h).1 c
              refine lv_iconst (v := 0) hx hb dX8_tryAll_97 (by decide) ?_
              refine lv_goto (tgt := 113) hx hb dX8_tryAll_98 (by decide) ?_
              exact B113 S x1 x2 x3 x4 x4 0 _ _ ls h hw (lv_sub hl [0, 1, 2, 3, 4] rfl)
      intro S x1 x2 x3 H locs ls h hw hl
      rw [fX8_tryAll_b40] at h
      refine lv_iload_n hx hb dX8_tryAll_40 rfl (lv_at hl 2 rfl) ?_
      refine lv_if_lt (tgt := 305) hx hb dX8_tryAll_41 (by decide) (fun c => ?_) (fun c => ?_)
      · have h := (it_d h).1 c
        exact x_vret C hw h dX8_tryAll_305
      · have h := (it_d h).2 c
        refine lv_iload_n hx hb dX8_tryAll_44 rfl (lv_at hl 2 rfl) ?_
        refine lv_aload_n hx hb dX8_tryAll_45 rfl (lv_at hl 0 rfl) ?_
        refine x_getI C hw gtX8_208 dX8_tryAll_46 ?_
        refine lv_icmp_ne (tgt := 126) hx hb dX8_tryAll_49 (by decide) (fun c => ?_) (fun c => ?_)
        · have h := (it_d h).2 c
          refine lv_aload_n hx hb dX8_tryAll_126 rfl (lv_at hl 0 rfl) ?_
          refine x_getR C hw gtX8_104 dX8_tryAll_127 ?_
          refine lv_iload_n hx hb dX8_tryAll_130 rfl (lv_at hl 2 rfl) ?_
          obtain ⟨v1, hv, h⟩ := bb_some h
          refine x_ald C hw alM_32 hv dX8_tryAll_131 ?_
          refine lv_if_lt (tgt := 167) hx hb dX8_tryAll_132 (by decide) (fun c => ?_) (fun c => ?_)
          · have h := (it_d h).1 c
            exact B167 S x1 x2 x3 _ _ ls h hw (lv_sub hl [0, 1, 2, 3] rfl)
          · have h := (it_d h).2 c
            refine lv_aload_n hx hb dX8_tryAll_135 rfl (lv_at hl 0 rfl) ?_
            refine x_getR C hw gtX8_104 dX8_tryAll_136 ?_
            refine lv_iload_n hx hb dX8_tryAll_139 rfl (lv_at hl 2 rfl) ?_
            obtain ⟨v2, hv, h⟩ := bb_some h
            refine x_ald C hw alM_32 hv dX8_tryAll_140 ?_
            refine lv_aload_n hx hb dX8_tryAll_141 rfl (lv_at hl 0 rfl) ?_
            refine x_getI C hw gtX8_215 dX8_tryAll_142 ?_
            refine lv_icmp_ge (tgt := 167) hx hb dX8_tryAll_145 (by decide) (fun c => ?_) (fun c => ?_)
            · have h := (it_d h).1 c
              exact B167 S x1 x2 x3 _ _ ls h hw (lv_sub hl [0, 1, 2, 3] rfl)
            · have h := (it_d h).2 c
              refine lv_aload_n hx hb dX8_tryAll_148 rfl (lv_at hl 0 rfl) ?_
              refine lv_aload_n hx hb dX8_tryAll_149 rfl (lv_at hl 0 rfl) ?_
              refine x_getR C hw gtX8_98 dX8_tryAll_150 ?_
              refine lv_aload_n hx hb dX8_tryAll_153 rfl (lv_at hl 0 rfl) ?_
              refine x_getR C hw gtX8_104 dX8_tryAll_154 ?_
              refine lv_iload_n hx hb dX8_tryAll_157 rfl (lv_at hl 2 rfl) ?_
              obtain ⟨v3, hv, h⟩ := bb_some h
              refine x_ald C hw alM_32 hv dX8_tryAll_158 ?_
              obtain ⟨v4, hv, h⟩ := bb_some h
              refine x_ald C hw alM_30 hv dX8_tryAll_159 ?_
              refine lv_iconst (v := (-1)) hx hb dX8_tryAll_160 (by decide) ?_
              obtain ⟨S1, hv, h⟩ := bb_some h
              refine x_callVV C hw (mX8_loads hv) lkX8_221 rfl (Nat.le_of_ble_eq_true rfl) hl.1 rfl (Nat.le_of_ble_eq_true rfl) dX8_tryAll_161 (fun H locs hw => ?_)
              refine lv_iinc (v := (x3 + (-1))) (lv' := [(3, .int (x3 + (-1))), (0, .ref (ad 0)), (1, .int x1), (2, .int x2)]) hx hb dX8_tryAll_164 hl (k := 3) rfl rfl (by decide) rfl (fun ls hl => ?_)
              exact B167 S1 x1 x2 (x3 + (-1)) _ _ ls h hw (lv_sub hl [1, 2, 3, 0] rfl)
        · have h := (it_d h).1 c
          refine lv_iload_n hx hb dX8_tryAll_52 rfl (lv_at hl 3 rfl) ?_
          refine lv_aload_n hx hb dX8_tryAll_53 rfl (lv_at hl 0 rfl) ?_
          refine x_getI C hw gtX8_218 dX8_tryAll_54 ?_
          refine lv_icmp_le (tgt := 120) hx hb dX8_tryAll_57 (by decide) (fun c => ?_) (fun c => ?_)
          · have h := (it_d h).1 c
            refine lv_iinc (v := (x2 + (-1))) (lv' := [(2, .int (x2 + (-1))), (0, .ref (ad 0)), (1, .int x1), (3, .int x3)]) hx hb dX8_tryAll_120 hl (k := 2) rfl rfl (by decide) rfl (fun ls hl => ?_)
            refine lv_goto (tgt := 40) hx hb dX8_tryAll_123 (by decide) ?_
            exact ih40 S x1 (x2 + (-1)) x3 _ _ ls h hw (lv_sub hl [1, 2, 0, 3] rfl)
          · have h := (it_d h).2 c
            refine lv_aload_n hx hb dX8_tryAll_60 rfl (lv_at hl 0 rfl) ?_
            refine lv_iload_n hx hb dX8_tryAll_61 rfl (lv_at hl 3 rfl) ?_
            obtain ⟨S2, hv, h⟩ := bb_some h
            refine x_putO C hw gpX8_218 hv rfl rfl dX8_tryAll_62 (fun H locs hw => ?_)
            refine lv_iconst (v := 0) hx hb dX8_tryAll_65 (by decide) ?_
            refine lv_istore (lv' := [(4, .int 0), (0, .ref (ad 0)), (1, .int x1), (2, .int x2), (3, .int x3)]) hx hb dX8_tryAll_66 hl (by decide) rfl (fun ls hl => ?_)
            exact B68 N S2 x1 x2 x3 0 _ _ ls h hw (lv_sub hl [1, 2, 3, 4, 0] rfl)
  have B33 : ∀ (S : SS) (x1 x2 x3 : Int32) (H : Heap) (locs : List Loc) (ls : Array Slot), fX8_tryAll_b33 N S x1 x2 x3 = some Sz → WH D A s.heap lyM ad cI cZ S H locs → lv_has ls 5 [(0, .ref (ad 0)), (1, .int x1), (2, .int x2), (3, .int x3)] → W p l e (rmK 1) s m args below meth c H locs 0 0 (MQ below (Qv D lyM ad cI cZ A Sz) args s 0 0 A) (F0 m 33 ls []) := by
    intro S x1 x2 x3 H locs ls h hw hl
    unfold fX8_tryAll_b33 at h
    refine lv_aload_n hx hb dX8_tryAll_33 rfl (lv_at hl 0 rfl) ?_
    refine x_getR C hw gtX8_104 dX8_tryAll_34 ?_
    refine lv_iconst (v := 0) hx hb dX8_tryAll_37 (by decide) ?_
    refine lv_iconst (v := (-1)) hx hb dX8_tryAll_38 (by decide) ?_
    obtain ⟨S1, hv, h⟩ := bb_some h
    refine x_ast C hw alM_32 hv dX8_tryAll_39 (fun H locs hw => ?_)
    exact B40 N S1 x1 x2 x3 _ _ ls h hw (lv_sub hl [0, 1, 2, 3] rfl)
  have B12 : ∀ n : Nat, ∀ (S : SS) (x1 x2 x3 x4 : Int32) (H : Heap) (locs : List Loc) (ls : Array Slot), fX8_tryAll_b12 N n S x1 x2 x3 x4 = some Sz → WH D A s.heap lyM ad cI cZ S H locs → lv_has ls 5 [(0, .ref (ad 0)), (1, .int x1), (2, .int x2), (3, .int x3), (4, .int x4)] → W p l e (rmK 1) s m args below meth c H locs 0 0 (MQ below (Qv D lyM ad cI cZ A Sz) args s 0 0 A) (F0 m 12 ls []) := by
    intro n
    induction n with
    | zero =>
      intro S x1 x2 x3 x4 H locs ls h hw hl
      rw [fX8_tryAll_b12] at h
      cases h
    | succ n ih12 =>
      intro S x1 x2 x3 x4 H locs ls h hw hl
      rw [fX8_tryAll_b12] at h
      refine lv_iload hx hb dX8_tryAll_12 (lv_at hl 4 rfl) ?_
      refine lv_bipush (v := 20) hx hb dX8_tryAll_14 (by decide) ?_
      refine lv_icmp_ge (tgt := 33) hx hb dX8_tryAll_16 (by decide) (fun c => ?_) (fun c => ?_)
      · have h := (it_d h).1 c
        exact B33 S x1 x2 x3 _ _ ls h hw (lv_sub hl [0, 1, 2, 3] rfl)
      · have h := (it_d h).2 c
        refine lv_aload_n hx hb dX8_tryAll_19 rfl (lv_at hl 0 rfl) ?_
        refine x_getR C hw gtX8_107 dX8_tryAll_20 ?_
        refine lv_iload hx hb dX8_tryAll_23 (lv_at hl 4 rfl) ?_
        refine lv_iconst (v := 0) hx hb dX8_tryAll_25 (by decide) ?_
        obtain ⟨S1, hv, h⟩ := bb_some h
        refine x_ast C hw alM_33 hv dX8_tryAll_26 (fun H locs hw => ?_)
        refine lv_iinc (v := (x4 + 1)) (lv' := [(4, .int (x4 + 1)), (0, .ref (ad 0)), (1, .int x1), (2, .int x2), (3, .int x3)]) hx hb dX8_tryAll_27 hl (k := 4) rfl rfl (by decide) rfl (fun ls hl => ?_)
        refine lv_goto (tgt := 12) hx hb dX8_tryAll_30 (by decide) ?_
        exact ih12 S1 x1 x2 x3 (x4 + 1) _ _ ls h hw (lv_sub hl [1, 2, 3, 4, 0] rfl)
  unfold fX8_tryAll at h
  refine lv_aload_n hx hb dX8_tryAll_0 rfl (lv_at hl 0 rfl) ?_
  refine lv_iconst (v := (-1)) hx hb dX8_tryAll_1 (by decide) ?_
  obtain ⟨S1, hv, h⟩ := bb_some h
  refine x_putO C hw gpX8_218 hv rfl rfl dX8_tryAll_2 (fun H locs hw => ?_)
  refine lv_iconst (v := 0) hx hb dX8_tryAll_5 (by decide) ?_
  refine lv_istore_n (lv' := [(2, .int 0), (0, .ref (ad 0)), (1, .int x1)]) hx hb dX8_tryAll_6 rfl hl (by decide) rfl (fun ls hl => ?_)
  refine lv_iconst (v := 0) hx hb dX8_tryAll_7 (by decide) ?_
  refine lv_istore_n (lv' := [(3, .int 0), (2, .int 0), (0, .ref (ad 0)), (1, .int x1)]) hx hb dX8_tryAll_8 rfl hl (by decide) rfl (fun ls hl => ?_)
  refine lv_iconst (v := 0) hx hb dX8_tryAll_9 (by decide) ?_
  refine lv_istore (lv' := [(4, .int 0), (3, .int 0), (2, .int 0), (0, .ref (ad 0)), (1, .int x1)]) hx hb dX8_tryAll_10 hl (by decide) rfl (fun ls hl => ?_)
  exact B12 N S1 x1 0 0 0 _ _ ls h hw (lv_sub hl [3, 4, 2, 1, 0] rfl)
set_option maxHeartbeats 4000000 in
set_option maxRecDepth 100000 in
theorem mX8_best {N : Nat} {l : Launch} {D : va_G} {ad : Nat → Nat} {cI cZ : ClassId} {S Sz : SS} {x1 x2 x3 : Int32} {rz : Int32} (h : fX8_best N S x1 x2 x3 = some (rz, Sz)) : MI l D lyM ad cI cZ yX8_best cX8_best 4 (some .int) 6 [.ref (ad 0), .int x1, .int x2, .int x3] S rz Sz := by
  refine x_startI RX8 (by decide) rfl (Nat.le_of_ble_eq_true rfl) ?_
  intro p e s m args below meth c A C hw ls hl
  have hx := C.1
  have hb := C.2.1
  have hown := C.2.2.2.1
  have hts := C.2.2.2.2.1
  have hl : lv_has ls 4 [(0, .ref (ad 0)), (1, .int x1), (2, .int x2), (3, .int x3)] := hl
  have B23 : ∀ (S : SS) (H : Heap) (locs : List Loc) (ls : Array Slot), fX8_best_b23 N S = some (rz, Sz) → WH D A s.heap lyM ad cI cZ S H locs → lv_has ls 4 [(0, .ref (ad 0))] → W p l e (rmK 6) s m args below meth c H locs 0 0 (MQ below (Qi D lyM ad cI cZ A rz Sz) args s 0 0 A) (F0 m 23 ls []) := by
    intro S  H locs ls h hw hl
    unfold fX8_best_b23 at h
    refine lv_aload_n hx hb dX8_best_23 rfl (lv_at hl 0 rfl) ?_
    refine lv_ldc (v := (-1000001)) hx hb hown (hts _ kwX8_123) dX8_best_24 ?_
    obtain ⟨r1, S1, hv, h⟩ := b2_some h
    refine x_callVI C hw (mX8_finding hv) lkX8_124 rfl (Nat.le_of_ble_eq_true rfl) hl.1 rfl (Nat.le_of_ble_eq_true rfl) dX8_best_26 (fun H locs hw => ?_)
    exact x_iret C hw h dX8_best_29
  unfold fX8_best at h
  refine lv_iload_n hx hb dX8_best_0 rfl (lv_at hl 1 rfl) ?_
  obtain ⟨r1, S1, hv, h⟩ := b2_some h
  refine x_callSI C hw (mX8_isUnion hv) lkX8_136 rfl (Nat.le_of_ble_eq_true rfl) hl.1 rfl (Nat.le_of_ble_eq_true rfl) dX8_best_1 (fun H locs hw => ?_)
  refine lv_if_eq (tgt := 23) hx hb dX8_best_4 (by decide) (fun c => ?_) (fun c => ?_)
  · have h := (it_d h).1 c
    exact B23 S1 _ _ ls h hw (lv_sub hl [0] rfl)
  · have h := (it_d h).2 c
    refine lv_iload_n hx hb dX8_best_7 rfl (lv_at hl 2 rfl) ?_
    obtain ⟨r2, S2, hv, h⟩ := b2_some h
    refine x_callSI C hw (mX8_isDay hv) lkX8_119 rfl (Nat.le_of_ble_eq_true rfl) hl.1 rfl (Nat.le_of_ble_eq_true rfl) dX8_best_8 (fun H locs hw => ?_)
    refine lv_if_eq (tgt := 23) hx hb dX8_best_11 (by decide) (fun c => ?_) (fun c => ?_)
    · have h := (it_d h).1 c
      exact B23 S2 _ _ ls h hw (lv_sub hl [0] rfl)
    · have h := (it_d h).2 c
      refine lv_iload_n hx hb dX8_best_14 rfl (lv_at hl 3 rfl) ?_
      refine lv_iconst (v := 1) hx hb dX8_best_15 (by decide) ?_
      refine lv_iconst (v := 4) hx hb dX8_best_16 (by decide) ?_
      obtain ⟨r3, S3, hv, h⟩ := b2_some h
      refine x_callSI C hw (mX8_within hv) lkX8_111 rfl (Nat.le_of_ble_eq_true rfl) hl.1 rfl (Nat.le_of_ble_eq_true rfl) dX8_best_17 (fun H locs hw => ?_)
      refine lv_if_ne (tgt := 30) hx hb dX8_best_20 (by decide) (fun c => ?_) (fun c => ?_)
      · have h := (it_d h).2 c
        refine lv_aload_n hx hb dX8_best_30 rfl (lv_at hl 0 rfl) ?_
        refine lv_iload_n hx hb dX8_best_31 rfl (lv_at hl 1 rfl) ?_
        refine lv_iload_n hx hb dX8_best_32 rfl (lv_at hl 2 rfl) ?_
        obtain ⟨S4, hv, h⟩ := bb_some h
        refine x_callVV C hw (mX8_findPanels hv) lkX8_228 rfl (Nat.le_of_ble_eq_true rfl) hl.1 rfl (Nat.le_of_ble_eq_true rfl) dX8_best_33 (fun H locs hw => ?_)
        refine lv_aload_n hx hb dX8_best_36 rfl (lv_at hl 0 rfl) ?_
        refine lv_iload_n hx hb dX8_best_37 rfl (lv_at hl 3 rfl) ?_
        obtain ⟨S5, hv, h⟩ := bb_some h
        refine x_callVV C hw (mX8_tryAll hv) lkX8_231 rfl (Nat.le_of_ble_eq_true rfl) hl.1 rfl (Nat.le_of_ble_eq_true rfl) dX8_best_38 (fun H locs hw => ?_)
        refine lv_aload_n hx hb dX8_best_41 rfl (lv_at hl 0 rfl) ?_
        refine lv_iconst (v := 1) hx hb dX8_best_42 (by decide) ?_
        obtain ⟨S6, hv, h⟩ := bb_some h
        refine x_putO C hw gpX8_211 hv (by decide) (by decide) dX8_best_43 (fun H locs hw => ?_)
        refine lv_aload_n hx hb dX8_best_46 rfl (lv_at hl 0 rfl) ?_
        refine x_getI C hw gtX8_218 dX8_best_47 ?_
        exact x_iret C hw h dX8_best_50
      · have h := (it_d h).1 c
        exact B23 S3 _ _ ls h hw (lv_sub hl [0] rfl)
set_option maxHeartbeats 4000000 in
set_option maxRecDepth 100000 in
theorem mX8_isGrade {N : Nat} {l : Launch} {D : va_G} {ad : Nat → Nat} {cI cZ : ClassId} {S Sz : SS} {x0 : Int32} {rz : Int32} (h : fX8_isGrade N S x0 = some (rz, Sz)) : MI l D lyM ad cI cZ yX8_isGrade cX8_isGrade 1 (some .boolean) 1 [.int x0] S rz Sz := by
  refine x_startI RX8 (by decide) rfl (Nat.le_of_ble_eq_true rfl) ?_
  intro p e s m args below meth c A C hw ls hl
  have hx := C.1
  have hb := C.2.1
  have hown := C.2.2.2.1
  have hts := C.2.2.2.2.1
  have hl : lv_has ls 1 [(0, .int x0)] := hl
  unfold fX8_isGrade at h
  refine lv_iload_n hx hb dX8_isGrade_0 rfl (lv_at hl 0 rfl) ?_
  refine lv_iconst (v := 1) hx hb dX8_isGrade_1 (by decide) ?_
  refine lv_bipush (v := 10) hx hb dX8_isGrade_2 (by decide) ?_
  obtain ⟨r1, S1, hv, h⟩ := b2_some h
  refine x_callSI C hw (mX8_within hv) lkX8_111 rfl (Nat.le_of_ble_eq_true rfl) hl.1 rfl (Nat.le_of_ble_eq_true rfl) dX8_isGrade_4 (fun H locs hw => ?_)
  exact x_zret C hw h dX8_isGrade_7
set_option maxHeartbeats 4000000 in
set_option maxRecDepth 100000 in
theorem mX8_canAsk {N : Nat} {l : Launch} {D : va_G} {ad : Nat → Nat} {cI cZ : ClassId} {S Sz : SS} {x1 x2 x3 x4 : Int32} {rz : Int32} (h : fX8_canAsk N S x1 x2 x3 x4 = some (rz, Sz)) : MI l D lyM ad cI cZ yX8_canAsk cX8_canAsk 5 (some .boolean) 2 [.ref (ad 0), .int x1, .int x2, .int x3, .int x4] S rz Sz := by
  refine x_startI RX8 (by decide) rfl (Nat.le_of_ble_eq_true rfl) ?_
  intro p e s m args below meth c A C hw ls hl
  have hx := C.1
  have hb := C.2.1
  have hown := C.2.2.2.1
  have hts := C.2.2.2.2.1
  have hl : lv_has ls 5 [(0, .ref (ad 0)), (1, .int x1), (2, .int x2), (3, .int x3), (4, .int x4)] := hl
  unfold fX8_canAsk at h
  refine lv_aload_n hx hb dX8_canAsk_0 rfl (lv_at hl 0 rfl) ?_
  refine lv_iload_n hx hb dX8_canAsk_1 rfl (lv_at hl 1 rfl) ?_
  obtain ⟨r1, S1, hv, h⟩ := b2_some h
  refine x_callVI C hw (mX8_isPerson hv) lkX8_132 rfl (Nat.le_of_ble_eq_true rfl) hl.1 rfl (Nat.le_of_ble_eq_true rfl) dX8_canAsk_2 (fun H locs hw => ?_)
  refine lv_if_eq (tgt := 34) hx hb dX8_canAsk_5 (by decide) (fun c => ?_) (fun c => ?_)
  · have h := (it_d h).1 c
    refine lv_iconst (v := 0) hx hb dX8_canAsk_34 (by decide) ?_
    exact x_zret C hw h dX8_canAsk_35
  · have h := (it_d h).2 c
    refine lv_iload_n hx hb dX8_canAsk_8 rfl (lv_at hl 2 rfl) ?_
    obtain ⟨r2, S2, hv, h⟩ := b2_some h
    refine x_callSI C hw (mX8_isUnion hv) lkX8_136 rfl (Nat.le_of_ble_eq_true rfl) hl.1 rfl (Nat.le_of_ble_eq_true rfl) dX8_canAsk_9 (fun H locs hw => ?_)
    refine lv_if_eq (tgt := 34) hx hb dX8_canAsk_12 (by decide) (fun c => ?_) (fun c => ?_)
    · have h := (it_d h).1 c
      refine lv_iconst (v := 0) hx hb dX8_canAsk_34 (by decide) ?_
      exact x_zret C hw h dX8_canAsk_35
    · have h := (it_d h).2 c
      refine lv_iload_n hx hb dX8_canAsk_15 rfl (lv_at hl 3 rfl) ?_
      obtain ⟨r3, S3, hv, h⟩ := b2_some h
      refine x_callSI C hw (mX8_isGrade hv) lkX8_139 rfl (Nat.le_of_ble_eq_true rfl) hl.1 rfl (Nat.le_of_ble_eq_true rfl) dX8_canAsk_16 (fun H locs hw => ?_)
      refine lv_if_eq (tgt := 34) hx hb dX8_canAsk_19 (by decide) (fun c => ?_) (fun c => ?_)
      · have h := (it_d h).1 c
        refine lv_iconst (v := 0) hx hb dX8_canAsk_34 (by decide) ?_
        exact x_zret C hw h dX8_canAsk_35
      · have h := (it_d h).2 c
        refine lv_iload hx hb dX8_canAsk_22 (lv_at hl 4 rfl) ?_
        obtain ⟨r4, S4, hv, h⟩ := b2_some h
        refine x_callSI C hw (mX8_isDay hv) lkX8_119 rfl (Nat.le_of_ble_eq_true rfl) hl.1 rfl (Nat.le_of_ble_eq_true rfl) dX8_canAsk_24 (fun H locs hw => ?_)
        refine lv_if_eq (tgt := 34) hx hb dX8_canAsk_27 (by decide) (fun c => ?_) (fun c => ?_)
        · have h := (it_d h).1 c
          refine lv_iconst (v := 0) hx hb dX8_canAsk_34 (by decide) ?_
          exact x_zret C hw h dX8_canAsk_35
        · have h := (it_d h).2 c
          refine lv_iconst (v := 1) hx hb dX8_canAsk_30 (by decide) ?_
          refine lv_goto (tgt := 35) hx hb dX8_canAsk_31 (by decide) ?_
          exact x_zret C hw h dX8_canAsk_35
set_option maxHeartbeats 4000000 in
set_option maxRecDepth 100000 in
theorem mX8_check {N : Nat} {l : Launch} {D : va_G} {ad : Nat → Nat} {cI cZ : ClassId} {S Sz : SS} {x1 : Int32} {rz : Int32} (h : fX8_check N S x1 = some (rz, Sz)) : MI l D lyM ad cI cZ yX8_check cX8_check 5 (some .int) 3 [.ref (ad 0), .int x1] S rz Sz := by
  refine x_startI RX8 (by decide) rfl (Nat.le_of_ble_eq_true rfl) ?_
  intro p e s m args below meth c A C hw ls hl
  have hx := C.1
  have hb := C.2.1
  have hown := C.2.2.2.1
  have hts := C.2.2.2.2.1
  have hl : lv_has ls 5 [(0, .ref (ad 0)), (1, .int x1)] := hl
  have B82 : ∀ (S : SS) (x2 x3 : Int32) (H : Heap) (locs : List Loc) (ls : Array Slot), fX8_check_b82 N S x2 x3 = some (rz, Sz) → WH D A s.heap lyM ad cI cZ S H locs → lv_has ls 5 [(2, .int x2), (3, .int x3)] → W p l e (rmK 3) s m args below meth c H locs 0 0 (MQ below (Qi D lyM ad cI cZ A rz Sz) args s 0 0 A) (F0 m 82 ls []) := by
    intro S x2 x3 H locs ls h hw hl
    unfold fX8_check_b82 at h
    refine lv_iload_n hx hb dX8_check_82 rfl (lv_at hl 0 rfl) ?_
    refine lv_iload_n hx hb dX8_check_83 rfl (lv_at hl 1 rfl) ?_
    refine lv_icmp_le (tgt := 92) hx hb dX8_check_84 (by decide) (fun c => ?_) (fun c => ?_)
    · have h := (it_d h).1 c
      refine lv_iconst (v := 0) hx hb dX8_check_92 (by decide) ?_
      exact x_iret C hw h dX8_check_93
    · have h := (it_d h).2 c
      refine lv_bipush (v := 99) hx hb dX8_check_87 (by decide) ?_
      refine lv_goto (tgt := 93) hx hb dX8_check_89 (by decide) ?_
      exact x_iret C hw h dX8_check_93
  have B34 : ∀ n : Nat, ∀ (S : SS) (x2 x3 x4 : Int32) (H : Heap) (locs : List Loc) (ls : Array Slot), fX8_check_b34 N n S x2 x3 x4 = some (rz, Sz) → WH D A s.heap lyM ad cI cZ S H locs → lv_has ls 5 [(0, .ref (ad 0)), (2, .int x2), (3, .int x3), (4, .int x4)] → W p l e (rmK 3) s m args below meth c H locs 0 0 (MQ below (Qi D lyM ad cI cZ A rz Sz) args s 0 0 A) (F0 m 34 ls []) := by
    intro n
    induction n with
    | zero =>
      intro S x2 x3 x4 H locs ls h hw hl
      rw [fX8_check_b34] at h
      cases h
    | succ n ih34 =>
      intro S x2 x3 x4 H locs ls h hw hl
      rw [fX8_check_b34] at h
      refine lv_iload hx hb dX8_check_34 (lv_at hl 3 rfl) ?_
      refine lv_aload_n hx hb dX8_check_36 rfl (lv_at hl 0 rfl) ?_
      refine x_getI C hw gtX8_159 dX8_check_37 ?_
      refine lv_icmp_ge (tgt := 82) hx hb dX8_check_40 (by decide) (fun c => ?_) (fun c => ?_)
      · have h := (it_d h).1 c
        exact B82 S x2 x3 _ _ ls h hw (lv_sub hl [1, 2] rfl)
      · have h := (it_d h).2 c
        refine lv_aload_n hx hb dX8_check_43 rfl (lv_at hl 0 rfl) ?_
        refine x_getR C hw gtX8_94 dX8_check_44 ?_
        refine lv_iload hx hb dX8_check_47 (lv_at hl 3 rfl) ?_
        obtain ⟨v1, hv, h⟩ := bb_some h
        refine x_zald C hw alM_29 hv dX8_check_49 ?_
        refine lv_if_eq (tgt := 76) hx hb dX8_check_50 (by decide) (fun c => ?_) (fun c => ?_)
        · have h := (it_d h).1 c
          refine lv_iinc (v := (x4 + 1)) (lv' := [(4, .int (x4 + 1)), (0, .ref (ad 0)), (2, .int x2), (3, .int x3)]) hx hb dX8_check_76 hl (k := 3) rfl rfl (by decide) rfl (fun ls hl => ?_)
          refine lv_goto (tgt := 34) hx hb dX8_check_79 (by decide) ?_
          exact ih34 S x2 x3 (x4 + 1) _ _ ls h hw (lv_sub hl [1, 2, 3, 0] rfl)
        · have h := (it_d h).2 c
          refine lv_iload_n hx hb dX8_check_53 rfl (lv_at hl 2 rfl) ?_
          refine lv_iload_n hx hb dX8_check_54 rfl (lv_at hl 1 rfl) ?_
          refine lv_icmp_ge (tgt := 69) hx hb dX8_check_55 (by decide) (fun c => ?_) (fun c => ?_)
          · have h := (it_d h).1 c
            refine lv_iconst (v := 1) hx hb dX8_check_69 (by decide) ?_
            refine lv_iload_n hx hb dX8_check_70 rfl (lv_at hl 2 rfl) ?_
            refine lv_iadd hx hb dX8_check_71 ?_
            exact x_iret C hw h dX8_check_72
          · have h := (it_d h).2 c
            refine lv_aload_n hx hb dX8_check_58 rfl (lv_at hl 0 rfl) ?_
            refine x_getR C hw gtX8_88 dX8_check_59 ?_
            refine lv_iload_n hx hb dX8_check_62 rfl (lv_at hl 2 rfl) ?_
            obtain ⟨v2, hv, h⟩ := bb_some h
            refine x_ald C hw alM_27 hv dX8_check_63 ?_
            refine lv_iload hx hb dX8_check_64 (lv_at hl 3 rfl) ?_
            refine lv_icmp_eq (tgt := 73) hx hb dX8_check_66 (by decide) (fun c => ?_) (fun c => ?_)
            · have h := (it_d h).1 c
              refine lv_iinc (v := (x3 + 1)) (lv' := [(3, .int (x3 + 1)), (0, .ref (ad 0)), (2, .int x2), (4, .int x4)]) hx hb dX8_check_73 hl (k := 2) rfl rfl (by decide) rfl (fun ls hl => ?_)
              refine lv_iinc (v := (x4 + 1)) (lv' := [(4, .int (x4 + 1)), (3, .int (x3 + 1)), (0, .ref (ad 0)), (2, .int x2)]) hx hb dX8_check_76 hl (k := 3) rfl rfl (by decide) rfl (fun ls hl => ?_)
              refine lv_goto (tgt := 34) hx hb dX8_check_79 (by decide) ?_
              exact ih34 S x2 (x3 + 1) (x4 + 1) _ _ ls h hw (lv_sub hl [2, 3, 1, 0] rfl)
            · have h := (it_d h).2 c
              refine lv_iconst (v := 1) hx hb dX8_check_69 (by decide) ?_
              refine lv_iload_n hx hb dX8_check_70 rfl (lv_at hl 2 rfl) ?_
              refine lv_iadd hx hb dX8_check_71 ?_
              exact x_iret C hw h dX8_check_72
  unfold fX8_check at h
  refine lv_aload_n hx hb dX8_check_0 rfl (lv_at hl 0 rfl) ?_
  refine x_getI C hw gtX8_246 dX8_check_1 ?_
  refine lv_istore_n (lv' := [(2, .int (S.1 8)), (0, .ref (ad 0)), (1, .int x1)]) hx hb dX8_check_4 rfl hl (by decide) rfl (fun ls hl => ?_)
  refine lv_aload_n hx hb dX8_check_5 rfl (lv_at hl 1 rfl) ?_
  refine lv_iconst (v := 0) hx hb dX8_check_6 (by decide) ?_
  obtain ⟨S1, hv, h⟩ := bb_some h
  refine x_putO C hw gpX8_246 hv rfl rfl dX8_check_7 (fun H locs hw => ?_)
  refine lv_iload_n hx hb dX8_check_10 rfl (lv_at hl 2 rfl) ?_
  obtain ⟨r1, S2, hv, h⟩ := b2_some h
  refine x_callSI C hw (mX8_isDay hv) lkX8_119 rfl (Nat.le_of_ble_eq_true rfl) hl.1 rfl (Nat.le_of_ble_eq_true rfl) dX8_check_11 (fun H locs hw => ?_)
  refine lv_if_ne (tgt := 24) hx hb dX8_check_14 (by decide) (fun c => ?_) (fun c => ?_)
  · have h := (it_d h).2 c
    refine lv_aload_n hx hb dX8_check_24 rfl (lv_at hl 1 rfl) ?_
    refine lv_iload_n hx hb dX8_check_25 rfl (lv_at hl 2 rfl) ?_
    obtain ⟨S3, hv, h⟩ := bb_some h
    refine x_callVV C hw (mX8_findStanding hv) lkX8_175 rfl (Nat.le_of_ble_eq_true rfl) hl.1 rfl (Nat.le_of_ble_eq_true rfl) dX8_check_26 (fun H locs hw => ?_)
    refine lv_iconst (v := 0) hx hb dX8_check_29 (by decide) ?_
    refine lv_istore_n (lv' := [(3, .int 0), (2, .int (S.1 8)), (0, .ref (ad 0)), (1, .int x1)]) hx hb dX8_check_30 rfl hl (by decide) rfl (fun ls hl => ?_)
    refine lv_iconst (v := 0) hx hb dX8_check_31 (by decide) ?_
    refine lv_istore (lv' := [(4, .int 0), (3, .int 0), (2, .int (S.1 8)), (0, .ref (ad 0)), (1, .int x1)]) hx hb dX8_check_32 hl (by decide) rfl (fun ls hl => ?_)
    exact B34 N S3 (S.1 8) 0 0 _ _ ls h hw (lv_sub hl [3, 2, 1, 0] rfl)
  · have h := (it_d h).1 c
    refine lv_aload_n hx hb dX8_check_17 rfl (lv_at hl 1 rfl) ?_
    refine lv_ldc (v := (-1000001)) hx hb hown (hts _ kwX8_123) dX8_check_18 ?_
    obtain ⟨r2, S4, hv, h⟩ := b2_some h
    refine x_callVI C hw (mX8_finding hv) lkX8_124 rfl (Nat.le_of_ble_eq_true rfl) hl.1 rfl (Nat.le_of_ble_eq_true rfl) dX8_check_20 (fun H locs hw => ?_)
    exact x_iret C hw h dX8_check_23
set_option maxHeartbeats 4000000 in
set_option maxRecDepth 100000 in
theorem mX8_count {N : Nat} {l : Launch} {D : va_G} {ad : Nat → Nat} {cI cZ : ClassId} {S Sz : SS} {x1 : Int32} {rz : Int32} (h : fX8_count N S x1 = some (rz, Sz)) : MI l D lyM ad cI cZ yX8_count cX8_count 2 (some .int) 1 [.ref (ad 0), .int x1] S rz Sz := by
  refine x_startI RX8 (by decide) rfl (Nat.le_of_ble_eq_true rfl) ?_
  intro p e s m args below meth c A C hw ls hl
  have hx := C.1
  have hb := C.2.1
  have hown := C.2.2.2.1
  have hts := C.2.2.2.2.1
  have hl : lv_has ls 2 [(0, .ref (ad 0)), (1, .int x1)] := hl
  unfold fX8_count at h
  refine lv_iload_n hx hb dX8_count_0 rfl (lv_at hl 1 rfl) ?_
  rcases Decidable.em (x1 = 0) with c0 | c0
  · have h := (it_d h).1 c0
    refine lv_tableIn (off := 43) (tgt := 44) hx hb dX8_count_1 (by rw [c0]; decide) (by rw [c0]; decide) (by rw [c0]; decide) (by decide) ?_
    refine lv_aload_n hx hb dX8_count_44 rfl (lv_at hl 0 rfl) ?_
    refine x_getI C hw gtX8_115 dX8_count_45 ?_
    exact x_iret C hw h dX8_count_48
  · have h := (it_d h).2 c0
    rcases Decidable.em (x1 = 1) with c1 | c1
    · have h := (it_d h).1 c1
      refine lv_tableIn (off := 48) (tgt := 49) hx hb dX8_count_1 (by rw [c1]; decide) (by rw [c1]; decide) (by rw [c1]; decide) (by decide) ?_
      refine lv_aload_n hx hb dX8_count_49 rfl (lv_at hl 0 rfl) ?_
      refine x_getI C hw gtX8_146 dX8_count_50 ?_
      exact x_iret C hw h dX8_count_53
    · have h := (it_d h).2 c1
      rcases Decidable.em (x1 = 2) with c2 | c2
      · have h := (it_d h).1 c2
        refine lv_tableIn (off := 53) (tgt := 54) hx hb dX8_count_1 (by rw [c2]; decide) (by rw [c2]; decide) (by rw [c2]; decide) (by decide) ?_
        refine lv_aload_n hx hb dX8_count_54 rfl (lv_at hl 0 rfl) ?_
        refine x_getI C hw gtX8_159 dX8_count_55 ?_
        exact x_iret C hw h dX8_count_58
      · have h := (it_d h).2 c2
        rcases Decidable.em (x1 = 3) with c3 | c3
        · have h := (it_d h).1 c3
          refine lv_tableIn (off := 58) (tgt := 59) hx hb dX8_count_1 (by rw [c3]; decide) (by rw [c3]; decide) (by rw [c3]; decide) (by decide) ?_
          refine lv_aload_n hx hb dX8_count_59 rfl (lv_at hl 0 rfl) ?_
          refine x_getI C hw gtX8_153 dX8_count_60 ?_
          exact x_iret C hw h dX8_count_63
        · have h := (it_d h).2 c3
          rcases Decidable.em (x1 = 4) with c4 | c4
          · have h := (it_d h).1 c4
            refine lv_tableIn (off := 63) (tgt := 64) hx hb dX8_count_1 (by rw [c4]; decide) (by rw [c4]; decide) (by rw [c4]; decide) (by decide) ?_
            refine lv_aload_n hx hb dX8_count_64 rfl (lv_at hl 0 rfl) ?_
            refine x_getI C hw gtX8_234 dX8_count_65 ?_
            exact x_iret C hw h dX8_count_68
          · have h := (it_d h).2 c4
            rcases Decidable.em (x1 = 5) with c5 | c5
            · have h := (it_d h).1 c5
              refine lv_tableIn (off := 68) (tgt := 69) hx hb dX8_count_1 (by rw [c5]; decide) (by rw [c5]; decide) (by rw [c5]; decide) (by decide) ?_
              refine lv_aload_n hx hb dX8_count_69 rfl (lv_at hl 0 rfl) ?_
              refine x_getI C hw gtX8_208 dX8_count_70 ?_
              exact x_iret C hw h dX8_count_73
            · have h := (it_d h).2 c5
              rcases Decidable.em (x1 = 6) with c6 | c6
              · have h := (it_d h).1 c6
                refine lv_tableIn (off := 73) (tgt := 74) hx hb dX8_count_1 (by rw [c6]; decide) (by rw [c6]; decide) (by rw [c6]; decide) (by decide) ?_
                refine lv_aload_n hx hb dX8_count_74 rfl (lv_at hl 0 rfl) ?_
                refine x_getI C hw gtX8_246 dX8_count_75 ?_
                exact x_iret C hw h dX8_count_78
              · have h := (it_d h).2 c6
                have hsw : (x1 : Int32).toInt < 0 ∨ 6 < (x1 : Int32).toInt := by
                  have z0 := ne_ti c0
                  have z1 := ne_ti c1
                  have z2 := ne_ti c2
                  have z3 := ne_ti c3
                  have z4 := ne_ti c4
                  have z5 := ne_ti c5
                  have z6 := ne_ti c6
                  simp only [show (0 : Int32).toInt = 0 from rfl, show (1 : Int32).toInt = 1 from rfl, show (2 : Int32).toInt = 2 from rfl, show (3 : Int32).toInt = 3 from rfl, show (4 : Int32).toInt = 4 from rfl, show (5 : Int32).toInt = 5 from rfl, show (6 : Int32).toInt = 6 from rfl] at z0 z1 z2 z3 z4 z5 z6
                  omega
                refine lv_tableOut (tgt := 79) hx hb dX8_count_1 hsw (by decide) ?_
                refine lv_aload_n hx hb dX8_count_79 rfl (lv_at hl 0 rfl) ?_
                refine lv_ldc (v := (-1000001)) hx hb hown (hts _ kwX8_123) dX8_count_80 ?_
                obtain ⟨r1, S1, hv, h⟩ := b2_some h
                refine x_callVI C hw (mX8_finding hv) lkX8_124 rfl (Nat.le_of_ble_eq_true rfl) hl.1 rfl (Nat.le_of_ble_eq_true rfl) dX8_count_82 (fun H locs hw => ?_)
                exact x_iret C hw h dX8_count_85
set_option maxHeartbeats 4000000 in
set_option maxRecDepth 100000 in
theorem mX8_entry {N : Nat} {l : Launch} {D : va_G} {ad : Nat → Nat} {cI cZ : ClassId} {S Sz : SS} {x1 x2 : Int32} {rz : Int32} (h : fX8_entry N S x1 x2 = some (rz, Sz)) : MI l D lyM ad cI cZ yX8_entry cX8_entry 3 (some .int) 1 [.ref (ad 0), .int x1, .int x2] S rz Sz := by
  refine x_startI RX8 (by decide) rfl (Nat.le_of_ble_eq_true rfl) ?_
  intro p e s m args below meth c A C hw ls hl
  have hx := C.1
  have hb := C.2.1
  have hown := C.2.2.2.1
  have hts := C.2.2.2.2.1
  have hl : lv_has ls 3 [(0, .ref (ad 0)), (1, .int x1), (2, .int x2)] := hl
  unfold fX8_entry at h
  refine lv_iload_n hx hb dX8_entry_0 rfl (lv_at hl 1 rfl) ?_
  refine lv_iconst (v := 0) hx hb dX8_entry_1 (by decide) ?_
  refine lv_aload_n hx hb dX8_entry_2 rfl (lv_at hl 0 rfl) ?_
  refine x_getI C hw gtX8_159 dX8_entry_3 ?_
  refine lv_iconst (v := 1) hx hb dX8_entry_6 (by decide) ?_
  refine lv_isub hx hb dX8_entry_7 ?_
  obtain ⟨r1, S1, hv, h⟩ := b2_some h
  refine x_callSI C hw (mX8_within hv) lkX8_111 rfl (Nat.le_of_ble_eq_true rfl) hl.1 rfl (Nat.le_of_ble_eq_true rfl) dX8_entry_8 (fun H locs hw => ?_)
  refine lv_if_ne (tgt := 21) hx hb dX8_entry_11 (by decide) (fun c => ?_) (fun c => ?_)
  · have h := (it_d h).2 c
    refine lv_iload_n hx hb dX8_entry_21 rfl (lv_at hl 2 rfl) ?_
    rcases Decidable.em (x2 = 0) with c0 | c0
    · have h := (it_d h).1 c0
      refine lv_tableIn (off := 34) (tgt := 56) hx hb dX8_entry_22 (by rw [c0]; decide) (by rw [c0]; decide) (by rw [c0]; decide) (by decide) ?_
      refine lv_aload_n hx hb dX8_entry_56 rfl (lv_at hl 0 rfl) ?_
      refine x_getR C hw gtX8_49 dX8_entry_57 ?_
      refine lv_iload_n hx hb dX8_entry_60 rfl (lv_at hl 1 rfl) ?_
      obtain ⟨v1, hv, h⟩ := bb_some h
      refine x_ald C hw alM_14 hv dX8_entry_61 ?_
      exact x_iret C hw h dX8_entry_62
    · have h := (it_d h).2 c0
      rcases Decidable.em (x2 = 1) with c1 | c1
      · have h := (it_d h).1 c1
        refine lv_tableIn (off := 41) (tgt := 63) hx hb dX8_entry_22 (by rw [c1]; decide) (by rw [c1]; decide) (by rw [c1]; decide) (by decide) ?_
        refine lv_aload_n hx hb dX8_entry_63 rfl (lv_at hl 0 rfl) ?_
        refine x_getR C hw gtX8_52 dX8_entry_64 ?_
        refine lv_iload_n hx hb dX8_entry_67 rfl (lv_at hl 1 rfl) ?_
        obtain ⟨v2, hv, h⟩ := bb_some h
        refine x_ald C hw alM_15 hv dX8_entry_68 ?_
        exact x_iret C hw h dX8_entry_69
      · have h := (it_d h).2 c1
        rcases Decidable.em (x2 = 2) with c2 | c2
        · have h := (it_d h).1 c2
          refine lv_tableIn (off := 48) (tgt := 70) hx hb dX8_entry_22 (by rw [c2]; decide) (by rw [c2]; decide) (by rw [c2]; decide) (by decide) ?_
          refine lv_aload_n hx hb dX8_entry_70 rfl (lv_at hl 0 rfl) ?_
          refine x_getR C hw gtX8_55 dX8_entry_71 ?_
          refine lv_iload_n hx hb dX8_entry_74 rfl (lv_at hl 1 rfl) ?_
          obtain ⟨v3, hv, h⟩ := bb_some h
          refine x_ald C hw alM_16 hv dX8_entry_75 ?_
          exact x_iret C hw h dX8_entry_76
        · have h := (it_d h).2 c2
          rcases Decidable.em (x2 = 3) with c3 | c3
          · have h := (it_d h).1 c3
            refine lv_tableIn (off := 55) (tgt := 77) hx hb dX8_entry_22 (by rw [c3]; decide) (by rw [c3]; decide) (by rw [c3]; decide) (by decide) ?_
            refine lv_aload_n hx hb dX8_entry_77 rfl (lv_at hl 0 rfl) ?_
            refine x_getR C hw gtX8_58 dX8_entry_78 ?_
            refine lv_iload_n hx hb dX8_entry_81 rfl (lv_at hl 1 rfl) ?_
            obtain ⟨v4, hv, h⟩ := bb_some h
            refine x_ald C hw alM_17 hv dX8_entry_82 ?_
            exact x_iret C hw h dX8_entry_83
          · have h := (it_d h).2 c3
            rcases Decidable.em (x2 = 4) with c4 | c4
            · have h := (it_d h).1 c4
              refine lv_tableIn (off := 62) (tgt := 84) hx hb dX8_entry_22 (by rw [c4]; decide) (by rw [c4]; decide) (by rw [c4]; decide) (by decide) ?_
              refine lv_aload_n hx hb dX8_entry_84 rfl (lv_at hl 0 rfl) ?_
              refine x_getR C hw gtX8_61 dX8_entry_85 ?_
              refine lv_iload_n hx hb dX8_entry_88 rfl (lv_at hl 1 rfl) ?_
              obtain ⟨v5, hv, h⟩ := bb_some h
              refine x_ald C hw alM_18 hv dX8_entry_89 ?_
              exact x_iret C hw h dX8_entry_90
            · have h := (it_d h).2 c4
              have hsw : (x2 : Int32).toInt < 0 ∨ 4 < (x2 : Int32).toInt := by
                have z0 := ne_ti c0
                have z1 := ne_ti c1
                have z2 := ne_ti c2
                have z3 := ne_ti c3
                have z4 := ne_ti c4
                simp only [show (0 : Int32).toInt = 0 from rfl, show (1 : Int32).toInt = 1 from rfl, show (2 : Int32).toInt = 2 from rfl, show (3 : Int32).toInt = 3 from rfl, show (4 : Int32).toInt = 4 from rfl] at z0 z1 z2 z3 z4
                omega
              refine lv_tableOut (tgt := 91) hx hb dX8_entry_22 hsw (by decide) ?_
              refine lv_aload_n hx hb dX8_entry_91 rfl (lv_at hl 0 rfl) ?_
              refine lv_ldc (v := (-1000001)) hx hb hown (hts _ kwX8_123) dX8_entry_92 ?_
              obtain ⟨r2, S2, hv, h⟩ := b2_some h
              refine x_callVI C hw (mX8_finding hv) lkX8_124 rfl (Nat.le_of_ble_eq_true rfl) hl.1 rfl (Nat.le_of_ble_eq_true rfl) dX8_entry_94 (fun H locs hw => ?_)
              exact x_iret C hw h dX8_entry_97
  · have h := (it_d h).1 c
    refine lv_aload_n hx hb dX8_entry_14 rfl (lv_at hl 0 rfl) ?_
    refine lv_ldc (v := (-1000001)) hx hb hown (hts _ kwX8_123) dX8_entry_15 ?_
    obtain ⟨r3, S3, hv, h⟩ := b2_some h
    refine x_callVI C hw (mX8_finding hv) lkX8_124 rfl (Nat.le_of_ble_eq_true rfl) hl.1 rfl (Nat.le_of_ble_eq_true rfl) dX8_entry_17 (fun H locs hw => ?_)
    exact x_iret C hw h dX8_entry_20
set_option maxHeartbeats 4000000 in
set_option maxRecDepth 100000 in
theorem mX8_exam {N : Nat} {l : Launch} {D : va_G} {ad : Nat → Nat} {cI cZ : ClassId} {S Sz : SS} {rz : Int32} (h : fX8_exam N S  = some (rz, Sz)) : MI l D lyM ad cI cZ yX8_exam cX8_exam 1 (some .int) 1 [.ref (ad 0)] S rz Sz := by
  refine x_startI RX8 (by decide) rfl (Nat.le_of_ble_eq_true rfl) ?_
  intro p e s m args below meth c A C hw ls hl
  have hx := C.1
  have hb := C.2.1
  have hown := C.2.2.2.1
  have hts := C.2.2.2.2.1
  have hl : lv_has ls 1 [(0, .ref (ad 0))] := hl
  unfold fX8_exam at h
  refine lv_aload_n hx hb dX8_exam_0 rfl (lv_at hl 0 rfl) ?_
  refine x_getI C hw gtX8_234 dX8_exam_1 ?_
  refine lv_bipush (v := 20) hx hb dX8_exam_4 (by decide) ?_
  refine lv_icmp_ne (tgt := 16) hx hb dX8_exam_6 (by decide) (fun c => ?_) (fun c => ?_)
  · have h := (it_d h).2 c
    refine lv_aload_n hx hb dX8_exam_16 rfl (lv_at hl 0 rfl) ?_
    refine lv_dup hx hb dX8_exam_17 rfl ?_
    refine x_getI C hw gtX8_234 dX8_exam_18 ?_
    refine lv_iconst (v := 1) hx hb dX8_exam_21 (by decide) ?_
    refine lv_iadd hx hb dX8_exam_22 ?_
    obtain ⟨S1, hv, h⟩ := bb_some h
    refine x_putO C hw gpX8_234 hv rfl rfl dX8_exam_23 (fun H locs hw => ?_)
    refine lv_aload_n hx hb dX8_exam_26 rfl (lv_at hl 0 rfl) ?_
    refine x_getI C hw gtX8_234 dX8_exam_27 ?_
    refine lv_iconst (v := 1) hx hb dX8_exam_30 (by decide) ?_
    refine lv_isub hx hb dX8_exam_31 ?_
    exact x_iret C hw h dX8_exam_32
  · have h := (it_d h).1 c
    refine lv_aload_n hx hb dX8_exam_9 rfl (lv_at hl 0 rfl) ?_
    refine lv_ldc (v := (-1000004)) hx hb hown (hts _ kwX8_131) dX8_exam_10 ?_
    obtain ⟨r1, S2, hv, h⟩ := b2_some h
    refine x_callVI C hw (mX8_finding hv) lkX8_124 rfl (Nat.le_of_ble_eq_true rfl) hl.1 rfl (Nat.le_of_ble_eq_true rfl) dX8_exam_12 (fun H locs hw => ?_)
    exact x_iret C hw h dX8_exam_15
set_option maxHeartbeats 4000000 in
set_option maxRecDepth 100000 in
theorem mX8_force {N : Nat} {l : Launch} {D : va_G} {ad : Nat → Nat} {cI cZ : ClassId} {S Sz : SS} {x1 x2 x3 : Int32} {rz : Int32} (h : fX8_force N S x1 x2 x3 = some (rz, Sz)) : MI l D lyM ad cI cZ yX8_force cX8_force 5 (some .int) 2 [.ref (ad 0), .int x1, .int x2, .int x3] S rz Sz := by
  refine x_startI RX8 (by decide) rfl (Nat.le_of_ble_eq_true rfl) ?_
  intro p e s m args below meth c A C hw ls hl
  have hx := C.1
  have hb := C.2.1
  have hown := C.2.2.2.1
  have hts := C.2.2.2.2.1
  have hl : lv_has ls 5 [(0, .ref (ad 0)), (1, .int x1), (2, .int x2), (3, .int x3)] := hl
  have B21 : ∀ (S : SS) (H : Heap) (locs : List Loc) (ls : Array Slot), fX8_force_b21 N S = some (rz, Sz) → WH D A s.heap lyM ad cI cZ S H locs → lv_has ls 5 [(0, .ref (ad 0))] → W p l e (rmK 2) s m args below meth c H locs 0 0 (MQ below (Qi D lyM ad cI cZ A rz Sz) args s 0 0 A) (F0 m 21 ls []) := by
    intro S  H locs ls h hw hl
    unfold fX8_force_b21 at h
    refine lv_aload_n hx hb dX8_force_21 rfl (lv_at hl 0 rfl) ?_
    refine lv_ldc (v := (-1000001)) hx hb hown (hts _ kwX8_123) dX8_force_22 ?_
    obtain ⟨r1, S1, hv, h⟩ := b2_some h
    refine x_callVI C hw (mX8_finding hv) lkX8_124 rfl (Nat.le_of_ble_eq_true rfl) hl.1 rfl (Nat.le_of_ble_eq_true rfl) dX8_force_24 (fun H locs hw => ?_)
    exact x_iret C hw h dX8_force_27
  unfold fX8_force at h
  refine lv_iload_n hx hb dX8_force_0 rfl (lv_at hl 1 rfl) ?_
  obtain ⟨r1, S1, hv, h⟩ := b2_some h
  refine x_callSI C hw (mX8_isUnion hv) lkX8_136 rfl (Nat.le_of_ble_eq_true rfl) hl.1 rfl (Nat.le_of_ble_eq_true rfl) dX8_force_1 (fun H locs hw => ?_)
  refine lv_if_eq (tgt := 21) hx hb dX8_force_4 (by decide) (fun c => ?_) (fun c => ?_)
  · have h := (it_d h).1 c
    exact B21 S1 _ _ ls h hw (lv_sub hl [0] rfl)
  · have h := (it_d h).2 c
    refine lv_iload_n hx hb dX8_force_7 rfl (lv_at hl 2 rfl) ?_
    obtain ⟨r2, S2, hv, h⟩ := b2_some h
    refine x_callSI C hw (mX8_isGrade hv) lkX8_139 rfl (Nat.le_of_ble_eq_true rfl) hl.1 rfl (Nat.le_of_ble_eq_true rfl) dX8_force_8 (fun H locs hw => ?_)
    refine lv_if_eq (tgt := 21) hx hb dX8_force_11 (by decide) (fun c => ?_) (fun c => ?_)
    · have h := (it_d h).1 c
      exact B21 S2 _ _ ls h hw (lv_sub hl [0] rfl)
    · have h := (it_d h).2 c
      refine lv_iload_n hx hb dX8_force_14 rfl (lv_at hl 3 rfl) ?_
      obtain ⟨r3, S3, hv, h⟩ := b2_some h
      refine x_callSI C hw (mX8_isDay hv) lkX8_119 rfl (Nat.le_of_ble_eq_true rfl) hl.1 rfl (Nat.le_of_ble_eq_true rfl) dX8_force_15 (fun H locs hw => ?_)
      refine lv_if_ne (tgt := 28) hx hb dX8_force_18 (by decide) (fun c => ?_) (fun c => ?_)
      · have h := (it_d h).2 c
        refine lv_aload_n hx hb dX8_force_28 rfl (lv_at hl 0 rfl) ?_
        refine lv_iload_n hx hb dX8_force_29 rfl (lv_at hl 1 rfl) ?_
        refine lv_iload_n hx hb dX8_force_30 rfl (lv_at hl 2 rfl) ?_
        refine lv_iload_n hx hb dX8_force_31 rfl (lv_at hl 3 rfl) ?_
        obtain ⟨r4, S4, hv, h⟩ := b2_some h
        refine x_callVI C hw (mX8_ruleOf hv) lkX8_149 rfl (Nat.le_of_ble_eq_true rfl) hl.1 rfl (Nat.le_of_ble_eq_true rfl) dX8_force_32 (fun H locs hw => ?_)
        refine lv_istore (lv' := [(4, .int r4), (0, .ref (ad 0)), (1, .int x1), (2, .int x2), (3, .int x3)]) hx hb dX8_force_35 hl (by decide) rfl (fun ls hl => ?_)
        refine lv_iload hx hb dX8_force_37 (lv_at hl 0 rfl) ?_
        refine lv_if_ge (tgt := 51) hx hb dX8_force_39 (by decide) (fun c => ?_) (fun c => ?_)
        · have h := (it_d h).1 c
          refine lv_iload hx hb dX8_force_51 (lv_at hl 0 rfl) ?_
          exact x_iret C hw h dX8_force_53
        · have h := (it_d h).2 c
          refine lv_aload_n hx hb dX8_force_42 rfl (lv_at hl 1 rfl) ?_
          refine lv_ldc (v := (-1000002)) hx hb hown (hts _ kwX8_152) dX8_force_43 ?_
          obtain ⟨r5, S5, hv, h⟩ := b2_some h
          refine x_callVI C hw (mX8_finding hv) lkX8_124 rfl (Nat.le_of_ble_eq_true rfl) hl.1 rfl (Nat.le_of_ble_eq_true rfl) dX8_force_45 (fun H locs hw => ?_)
          refine lv_goto (tgt := 53) hx hb dX8_force_48 (by decide) ?_
          exact x_iret C hw h dX8_force_53
      · have h := (it_d h).1 c
        exact B21 S3 _ _ ls h hw (lv_sub hl [0] rfl)
