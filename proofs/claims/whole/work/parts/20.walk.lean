set_option maxHeartbeats 4000000 in
set_option maxRecDepth 100000 in
theorem mJ6_bitCount {ly : LY} {N : Nat} {l : Launch} {D : va_G} {ad : Nat → Nat} {cI cZ : ClassId} {S Sz : SS} {x0 : Int32} {rz : Int32} (h : fJ6_bitCount N S x0 = some (rz, Sz)) : MI l D ly ad cI cZ yJ6_bitCount_0f7a4 cJ6_bitCount_0f7a4 1 (some .int) 0 [.int x0] S rz Sz := by
  refine x_startI RJ6 (by decide) rfl (Nat.le_of_ble_eq_true rfl) ?_
  intro p e s m args below meth c A C hw ls hl
  have hx := C.1
  have hb := C.2.1
  have hown := C.2.2.2.1
  have hts := C.2.2.2.2.1
  have hl : lv_has ls 1 [(0, .int x0)] := hl
  unfold fJ6_bitCount at h
  refine lv_iload_n hx hb dJ6_bitCount_0f7a4_0 rfl (lv_at hl 0 rfl) ?_
  refine lv_iload_n hx hb dJ6_bitCount_0f7a4_1 rfl (lv_at hl 0 rfl) ?_
  refine lv_iconst (v := 1) hx hb dJ6_bitCount_0f7a4_2 (by decide) ?_
  refine lv_iushr (v := ((x0 : Int32).toUInt32 >>> ((1 : Int32).toUInt32 &&& Int32.toUInt32 31)).toInt32) hx hb dJ6_bitCount_0f7a4_3 rfl ?_
  refine lv_ldcw (v := 1431655765) hx hb hown (hts _ kwJ6_265) dJ6_bitCount_0f7a4_4 ?_
  refine lv_iand hx hb dJ6_bitCount_0f7a4_7 ?_
  refine lv_isub hx hb dJ6_bitCount_0f7a4_8 ?_
  obtain ⟨w1, hv, h⟩ := bb_some h
  refine x_nm hv ?_
  refine lv_istore_n (lv' := [(0, .int w1)]) hx hb dJ6_bitCount_0f7a4_9 rfl hl (by decide) rfl (fun ls hl => ?_)
  refine lv_iload_n hx hb dJ6_bitCount_0f7a4_10 rfl (lv_at hl 0 rfl) ?_
  refine lv_ldcw (v := 858993459) hx hb hown (hts _ kwJ6_266) dJ6_bitCount_0f7a4_11 ?_
  refine lv_iand hx hb dJ6_bitCount_0f7a4_14 ?_
  refine lv_iload_n hx hb dJ6_bitCount_0f7a4_15 rfl (lv_at hl 0 rfl) ?_
  refine lv_iconst (v := 2) hx hb dJ6_bitCount_0f7a4_16 (by decide) ?_
  refine lv_iushr (v := ((w1 : Int32).toUInt32 >>> ((2 : Int32).toUInt32 &&& Int32.toUInt32 31)).toInt32) hx hb dJ6_bitCount_0f7a4_17 rfl ?_
  refine lv_ldcw (v := 858993459) hx hb hown (hts _ kwJ6_266) dJ6_bitCount_0f7a4_18 ?_
  refine lv_iand hx hb dJ6_bitCount_0f7a4_21 ?_
  refine lv_iadd hx hb dJ6_bitCount_0f7a4_22 ?_
  obtain ⟨w2, hv, h⟩ := bb_some h
  refine x_nm hv ?_
  refine lv_istore_n (lv' := [(0, .int w2)]) hx hb dJ6_bitCount_0f7a4_23 rfl hl (by decide) rfl (fun ls hl => ?_)
  refine lv_iload_n hx hb dJ6_bitCount_0f7a4_24 rfl (lv_at hl 0 rfl) ?_
  refine lv_iload_n hx hb dJ6_bitCount_0f7a4_25 rfl (lv_at hl 0 rfl) ?_
  refine lv_iconst (v := 4) hx hb dJ6_bitCount_0f7a4_26 (by decide) ?_
  refine lv_iushr (v := ((w2 : Int32).toUInt32 >>> ((4 : Int32).toUInt32 &&& Int32.toUInt32 31)).toInt32) hx hb dJ6_bitCount_0f7a4_27 rfl ?_
  refine lv_iadd hx hb dJ6_bitCount_0f7a4_28 ?_
  refine lv_ldcw (v := 252645135) hx hb hown (hts _ kwJ6_267) dJ6_bitCount_0f7a4_29 ?_
  refine lv_iand hx hb dJ6_bitCount_0f7a4_32 ?_
  obtain ⟨w3, hv, h⟩ := bb_some h
  refine x_nm hv ?_
  refine lv_istore_n (lv' := [(0, .int w3)]) hx hb dJ6_bitCount_0f7a4_33 rfl hl (by decide) rfl (fun ls hl => ?_)
  refine lv_iload_n hx hb dJ6_bitCount_0f7a4_34 rfl (lv_at hl 0 rfl) ?_
  refine lv_iload_n hx hb dJ6_bitCount_0f7a4_35 rfl (lv_at hl 0 rfl) ?_
  refine lv_bipush (v := 8) hx hb dJ6_bitCount_0f7a4_36 (by decide) ?_
  refine lv_iushr (v := ((w3 : Int32).toUInt32 >>> ((8 : Int32).toUInt32 &&& Int32.toUInt32 31)).toInt32) hx hb dJ6_bitCount_0f7a4_38 rfl ?_
  refine lv_iadd hx hb dJ6_bitCount_0f7a4_39 ?_
  obtain ⟨w4, hv, h⟩ := bb_some h
  refine x_nm hv ?_
  refine lv_istore_n (lv' := [(0, .int w4)]) hx hb dJ6_bitCount_0f7a4_40 rfl hl (by decide) rfl (fun ls hl => ?_)
  refine lv_iload_n hx hb dJ6_bitCount_0f7a4_41 rfl (lv_at hl 0 rfl) ?_
  refine lv_iload_n hx hb dJ6_bitCount_0f7a4_42 rfl (lv_at hl 0 rfl) ?_
  refine lv_bipush (v := 16) hx hb dJ6_bitCount_0f7a4_43 (by decide) ?_
  refine lv_iushr (v := ((w4 : Int32).toUInt32 >>> ((16 : Int32).toUInt32 &&& Int32.toUInt32 31)).toInt32) hx hb dJ6_bitCount_0f7a4_45 rfl ?_
  refine lv_iadd hx hb dJ6_bitCount_0f7a4_46 ?_
  obtain ⟨w5, hv, h⟩ := bb_some h
  refine x_nm hv ?_
  refine lv_istore_n (lv' := [(0, .int w5)]) hx hb dJ6_bitCount_0f7a4_47 rfl hl (by decide) rfl (fun ls hl => ?_)
  refine lv_iload_n hx hb dJ6_bitCount_0f7a4_48 rfl (lv_at hl 0 rfl) ?_
  refine lv_bipush (v := 63) hx hb dJ6_bitCount_0f7a4_49 (by decide) ?_
  refine lv_iand hx hb dJ6_bitCount_0f7a4_51 ?_
  exact x_iret C hw h dJ6_bitCount_0f7a4_52
set_option maxHeartbeats 4000000 in
set_option maxRecDepth 100000 in
theorem mX2_counts {N : Nat} {l : Launch} {D : va_G} {ad : Nat → Nat} {cI cZ : ClassId} {S Sz : SS} {x1 x2 x3 : Int32} {rz : Int32} (h : fX2_counts N S x1 x2 x3 = some (rz, Sz)) : MI l D lyX ad cI cZ yX2_counts cX2_counts 4 (some .boolean) 0 [.ref (ad 4), .int x1, .int x2, .int x3] S rz Sz := by
  refine x_startI RX2 (by decide) rfl (Nat.le_of_ble_eq_true rfl) ?_
  intro p e s m args below meth c A C hw ls hl
  have hx := C.1
  have hb := C.2.1
  have hown := C.2.2.2.1
  have hts := C.2.2.2.2.1
  have hl : lv_has ls 4 [(0, .ref (ad 4)), (1, .int x1), (2, .int x2), (3, .int x3)] := hl
  unfold fX2_counts at h
  refine lv_aload_n hx hb dX2_counts_0 rfl (lv_at hl 0 rfl) ?_
  refine x_getR C hw gtX2_25 dX2_counts_1 ?_
  refine lv_iload_n hx hb dX2_counts_4 rfl (lv_at hl 1 rfl) ?_
  obtain ⟨v1, hv, h⟩ := bb_some h
  refine x_ald C hw alX_23 hv dX2_counts_5 ?_
  refine lv_iload_n hx hb dX2_counts_6 rfl (lv_at hl 2 rfl) ?_
  refine lv_icmp_ne (tgt := 33) hx hb dX2_counts_7 (by decide) (fun c => ?_) (fun c => ?_)
  · have h := (it_d h).2 c
    refine lv_iconst (v := 0) hx hb dX2_counts_33 (by decide) ?_
    exact x_zret C hw h dX2_counts_34
  · have h := (it_d h).1 c
    refine lv_aload_n hx hb dX2_counts_10 rfl (lv_at hl 0 rfl) ?_
    refine x_getR C hw gtX2_34 dX2_counts_11 ?_
    refine lv_iload_n hx hb dX2_counts_14 rfl (lv_at hl 1 rfl) ?_
    obtain ⟨v2, hv, h⟩ := bb_some h
    refine x_ald C hw alX_26 hv dX2_counts_15 ?_
    refine lv_iload_n hx hb dX2_counts_16 rfl (lv_at hl 3 rfl) ?_
    refine lv_icmp_gt (tgt := 33) hx hb dX2_counts_17 (by decide) (fun c => ?_) (fun c => ?_)
    · have h := (it_d h).1 c
      refine lv_iconst (v := 0) hx hb dX2_counts_33 (by decide) ?_
      exact x_zret C hw h dX2_counts_34
    · have h := (it_d h).2 c
      refine lv_aload_n hx hb dX2_counts_20 rfl (lv_at hl 0 rfl) ?_
      refine x_getR C hw gtX2_40 dX2_counts_21 ?_
      refine lv_iload_n hx hb dX2_counts_24 rfl (lv_at hl 1 rfl) ?_
      obtain ⟨v3, hv, h⟩ := bb_some h
      refine x_zald C hw alX_28 hv dX2_counts_25 ?_
      refine lv_if_eq (tgt := 33) hx hb dX2_counts_26 (by decide) (fun c => ?_) (fun c => ?_)
      · have h := (it_d h).1 c
        refine lv_iconst (v := 0) hx hb dX2_counts_33 (by decide) ?_
        exact x_zret C hw h dX2_counts_34
      · have h := (it_d h).2 c
        refine lv_iconst (v := 1) hx hb dX2_counts_29 (by decide) ?_
        refine lv_goto (tgt := 34) hx hb dX2_counts_30 (by decide) ?_
        exact x_zret C hw h dX2_counts_34
set_option maxHeartbeats 4000000 in
set_option maxRecDepth 100000 in
theorem mX2_value {N : Nat} {l : Launch} {D : va_G} {ad : Nat → Nat} {cI cZ : ClassId} {S Sz : SS} {x1 x2 x3 : Int32} {rz : Int32} (h : fX2_value N S x1 x2 x3 = some (rz, Sz)) : MI l D lyX ad cI cZ yX2_value cX2_value 4 (some .int) 0 [.ref (ad 4), .int x1, .int x2, .int x3] S rz Sz := by
  refine x_startI RX2 (by decide) rfl (Nat.le_of_ble_eq_true rfl) ?_
  intro p e s m args below meth c A C hw ls hl
  have hx := C.1
  have hb := C.2.1
  have hown := C.2.2.2.1
  have hts := C.2.2.2.2.1
  have hl : lv_has ls 4 [(0, .ref (ad 4)), (1, .int x1), (2, .int x2), (3, .int x3)] := hl
  unfold fX2_value at h
  refine lv_aload_n hx hb dX2_value_0 rfl (lv_at hl 0 rfl) ?_
  refine x_getR C hw gtX2_22 dX2_value_1 ?_
  refine lv_iload_n hx hb dX2_value_4 rfl (lv_at hl 1 rfl) ?_
  refine lv_iconst (v := 3) hx hb dX2_value_5 (by decide) ?_
  refine lv_imul hx hb dX2_value_6 ?_
  refine lv_iload_n hx hb dX2_value_7 rfl (lv_at hl 2 rfl) ?_
  refine lv_iadd hx hb dX2_value_8 ?_
  refine lv_bipush (v := 11) hx hb dX2_value_9 (by decide) ?_
  refine lv_imul hx hb dX2_value_11 ?_
  refine lv_iload_n hx hb dX2_value_12 rfl (lv_at hl 3 rfl) ?_
  refine lv_iadd hx hb dX2_value_13 ?_
  obtain ⟨v1, hv, h⟩ := bb_some h
  refine x_ald C hw alX_22 hv dX2_value_14 ?_
  exact x_iret C hw h dX2_value_15
set_option maxHeartbeats 4000000 in
set_option maxRecDepth 100000 in
theorem mX2_heldOn {N : Nat} {l : Launch} {D : va_G} {ad : Nat → Nat} {cI cZ : ClassId} {S Sz : SS} {x1 x2 x3 : Int32} {rz : Int32} (h : fX2_heldOn N S x1 x2 x3 = some (rz, Sz)) : MI l D lyX ad cI cZ yX2_heldOn cX2_heldOn 6 (some .int) 1 [.ref (ad 4), .int x1, .int x2, .int x3] S rz Sz := by
  refine x_startI RX2 (by decide) rfl (Nat.le_of_ble_eq_true rfl) ?_
  intro p e s m args below meth c A C hw ls hl
  have hx := C.1
  have hb := C.2.1
  have hown := C.2.2.2.1
  have hts := C.2.2.2.2.1
  have hl : lv_has ls 6 [(0, .ref (ad 4)), (1, .int x1), (2, .int x2), (3, .int x3)] := hl
  have B6 : ∀ n : Nat, ∀ (S : SS) (x1 x2 x3 x4 x5 : Int32) (H : Heap) (locs : List Loc) (ls : Array Slot), fX2_heldOn_b6 N n S x1 x2 x3 x4 x5 = some (rz, Sz) → WH D A s.heap lyX ad cI cZ S H locs → lv_has ls 6 [(0, .ref (ad 4)), (1, .int x1), (2, .int x2), (3, .int x3), (4, .int x4), (5, .int x5)] → W p l e (rmK 1) s m args below meth c H locs 0 0 (MQ below (Qi D lyX ad cI cZ A rz Sz) args s 0 0 A) (F0 m 6 ls []) := by
    intro n
    induction n with
    | zero =>
      intro S x1 x2 x3 x4 x5 H locs ls h hw hl
      rw [fX2_heldOn_b6] at h
      cases h
    | succ n ih6 =>
      intro S x1 x2 x3 x4 x5 H locs ls h hw hl
      rw [fX2_heldOn_b6] at h
      refine lv_iload hx hb dX2_heldOn_6 (lv_at hl 5 rfl) ?_
      refine lv_aload_n hx hb dX2_heldOn_8 rfl (lv_at hl 0 rfl) ?_
      refine x_getI C hw gtX2_47 dX2_heldOn_9 ?_
      refine lv_icmp_ge (tgt := 58) hx hb dX2_heldOn_12 (by decide) (fun c => ?_) (fun c => ?_)
      · have h := (it_d h).1 c
        refine lv_iload hx hb dX2_heldOn_58 (lv_at hl 4 rfl) ?_
        exact x_iret C hw h dX2_heldOn_60
      · have h := (it_d h).2 c
        refine lv_aload_n hx hb dX2_heldOn_15 rfl (lv_at hl 0 rfl) ?_
        refine lv_iload hx hb dX2_heldOn_16 (lv_at hl 5 rfl) ?_
        refine lv_iload_n hx hb dX2_heldOn_18 rfl (lv_at hl 1 rfl) ?_
        refine lv_iload_n hx hb dX2_heldOn_19 rfl (lv_at hl 3 rfl) ?_
        obtain ⟨r1, S1, hv, h⟩ := b2_some h
        refine x_callVI C hw (mX2_counts hv) lkX2_82 rfl (Nat.le_of_ble_eq_true rfl) hl.1 rfl (Nat.le_of_ble_eq_true rfl) dX2_heldOn_20 (fun H locs hw => ?_)
        refine lv_if_eq (tgt := 52) hx hb dX2_heldOn_23 (by decide) (fun c => ?_) (fun c => ?_)
        · have h := (it_d h).1 c
          refine lv_iinc (v := (x5 + 1)) (lv' := [(5, .int (x5 + 1)), (0, .ref (ad 4)), (1, .int x1), (2, .int x2), (3, .int x3), (4, .int x4)]) hx hb dX2_heldOn_52 hl (k := 5) rfl rfl (by decide) rfl (fun ls hl => ?_)
          refine lv_goto (tgt := 6) hx hb dX2_heldOn_55 (by decide) ?_
          exact ih6 S1 x1 x2 x3 x4 (x5 + 1) _ _ ls h hw (lv_sub hl [1, 2, 3, 4, 5, 0] rfl)
        · have h := (it_d h).2 c
          refine lv_iload hx hb dX2_heldOn_26 (lv_at hl 4 rfl) ?_
          refine lv_aload_n hx hb dX2_heldOn_28 rfl (lv_at hl 0 rfl) ?_
          refine lv_iload_n hx hb dX2_heldOn_29 rfl (lv_at hl 2 rfl) ?_
          refine lv_aload_n hx hb dX2_heldOn_30 rfl (lv_at hl 0 rfl) ?_
          refine x_getR C hw gtX2_28 dX2_heldOn_31 ?_
          refine lv_iload hx hb dX2_heldOn_34 (lv_at hl 5 rfl) ?_
          obtain ⟨v1, hv, h⟩ := bb_some h
          refine x_ald C hw alX_24 hv dX2_heldOn_36 ?_
          refine lv_aload_n hx hb dX2_heldOn_37 rfl (lv_at hl 0 rfl) ?_
          refine x_getR C hw gtX2_31 dX2_heldOn_38 ?_
          refine lv_iload hx hb dX2_heldOn_41 (lv_at hl 5 rfl) ?_
          obtain ⟨v2, hv, h⟩ := bb_some h
          refine x_ald C hw alX_25 hv dX2_heldOn_43 ?_
          obtain ⟨r2, S2, hv, h⟩ := b2_some h
          refine x_callVI C hw (mX2_value hv) lkX2_69 rfl (Nat.le_of_ble_eq_true rfl) hl.1 rfl (Nat.le_of_ble_eq_true rfl) dX2_heldOn_44 (fun H locs hw => ?_)
          refine x_mx C mkX2_73 (Nat.le_of_ble_eq_true rfl) hl.1 (Nat.le_of_ble_eq_true rfl) dX2_heldOn_47 ?_
          refine lv_istore (lv' := [(4, .int (mx x4 r2)), (0, .ref (ad 4)), (1, .int x1), (2, .int x2), (3, .int x3), (5, .int x5)]) hx hb dX2_heldOn_50 hl (by decide) rfl (fun ls hl => ?_)
          refine lv_iinc (v := (x5 + 1)) (lv' := [(5, .int (x5 + 1)), (4, .int (mx x4 r2)), (0, .ref (ad 4)), (1, .int x1), (2, .int x2), (3, .int x3)]) hx hb dX2_heldOn_52 hl (k := 5) rfl rfl (by decide) rfl (fun ls hl => ?_)
          refine lv_goto (tgt := 6) hx hb dX2_heldOn_55 (by decide) ?_
          exact ih6 S2 x1 x2 x3 (mx x4 r2) (x5 + 1) _ _ ls h hw (lv_sub hl [2, 3, 4, 5, 1, 0] rfl)
  unfold fX2_heldOn at h
  refine lv_iconst (v := 0) hx hb dX2_heldOn_0 (by decide) ?_
  refine lv_istore (lv' := [(4, .int 0), (0, .ref (ad 4)), (1, .int x1), (2, .int x2), (3, .int x3)]) hx hb dX2_heldOn_1 hl (by decide) rfl (fun ls hl => ?_)
  refine lv_iconst (v := 0) hx hb dX2_heldOn_3 (by decide) ?_
  refine lv_istore (lv' := [(5, .int 0), (4, .int 0), (0, .ref (ad 4)), (1, .int x1), (2, .int x2), (3, .int x3)]) hx hb dX2_heldOn_4 hl (by decide) rfl (fun ls hl => ?_)
  exact B6 N S x1 x2 x3 0 0 _ _ ls h hw (lv_sub hl [2, 3, 4, 5, 1, 0] rfl)
set_option maxHeartbeats 4000000 in
set_option maxRecDepth 100000 in
theorem mX4_isExaminer {N : Nat} {l : Launch} {D : va_G} {ad : Nat → Nat} {cI cZ : ClassId} {S Sz : SS} {x1 : Int32} {rz : Int32} (h : fX4_isExaminer N S x1 = some (rz, Sz)) : MI l D lyX ad cI cZ yX4_isExaminer cX4_isExaminer 2 (some .boolean) 0 [.ref (ad 2), .int x1] S rz Sz := by
  refine x_startI RX4 (by decide) rfl (Nat.le_of_ble_eq_true rfl) ?_
  intro p e s m args below meth c A C hw ls hl
  have hx := C.1
  have hb := C.2.1
  have hown := C.2.2.2.1
  have hts := C.2.2.2.2.1
  have hl : lv_has ls 2 [(0, .ref (ad 2)), (1, .int x1)] := hl
  unfold fX4_isExaminer at h
  refine lv_aload_n hx hb dX4_isExaminer_0 rfl (lv_at hl 0 rfl) ?_
  refine x_getR C hw gtX4_9 dX4_isExaminer_1 ?_
  refine lv_iload_n hx hb dX4_isExaminer_4 rfl (lv_at hl 1 rfl) ?_
  obtain ⟨v1, hv, h⟩ := bb_some h
  refine x_ald C hw alX_10 hv dX4_isExaminer_5 ?_
  refine lv_iconst (v := 1) hx hb dX4_isExaminer_6 (by decide) ?_
  refine lv_icmp_ne (tgt := 14) hx hb dX4_isExaminer_7 (by decide) (fun c => ?_) (fun c => ?_)
  · have h := (it_d h).2 c
    refine lv_iconst (v := 0) hx hb dX4_isExaminer_14 (by decide) ?_
    exact x_zret C hw h dX4_isExaminer_15
  · have h := (it_d h).1 c
    refine lv_iconst (v := 1) hx hb dX4_isExaminer_10 (by decide) ?_
    refine lv_goto (tgt := 15) hx hb dX4_isExaminer_11 (by decide) ?_
    exact x_zret C hw h dX4_isExaminer_15
set_option maxHeartbeats 4000000 in
set_option maxRecDepth 100000 in
theorem mX6_hit {N : Nat} {l : Launch} {D : va_G} {ad : Nat → Nat} {cI cZ : ClassId} {S Sz : SS} {x1 x2 x3 : Int32} {rz : Int32} (h : fX6_hit N S x1 x2 x3 = some (rz, Sz)) : MI l D lyX ad cI cZ yX6_hit cX6_hit 5 (some .boolean) 0 [.ref (ad 5), .int x1, .int x2, .int x3] S rz Sz := by
  refine x_startI RX6 (by decide) rfl (Nat.le_of_ble_eq_true rfl) ?_
  intro p e s m args below meth c A C hw ls hl
  have hx := C.1
  have hb := C.2.1
  have hown := C.2.2.2.1
  have hts := C.2.2.2.2.1
  have hl : lv_has ls 5 [(0, .ref (ad 5)), (1, .int x1), (2, .int x2), (3, .int x3)] := hl
  have B3 : ∀ n : Nat, ∀ (S : SS) (x1 x2 x3 x4 : Int32) (H : Heap) (locs : List Loc) (ls : Array Slot), fX6_hit_b3 N n S x1 x2 x3 x4 = some (rz, Sz) → WH D A s.heap lyX ad cI cZ S H locs → lv_has ls 5 [(0, .ref (ad 5)), (1, .int x1), (2, .int x2), (3, .int x3), (4, .int x4)] → W p l e (rmK 0) s m args below meth c H locs 0 0 (MQ below (Qi D lyX ad cI cZ A rz Sz) args s 0 0 A) (F0 m 3 ls []) := by
    intro n
    induction n with
    | zero =>
      intro S x1 x2 x3 x4 H locs ls h hw hl
      rw [fX6_hit_b3] at h
      cases h
    | succ n ih3 =>
      intro S x1 x2 x3 x4 H locs ls h hw hl
      rw [fX6_hit_b3] at h
      refine lv_iload hx hb dX6_hit_3 (lv_at hl 4 rfl) ?_
      refine lv_aload_n hx hb dX6_hit_5 rfl (lv_at hl 0 rfl) ?_
      refine x_getI C hw gtX6_21 dX6_hit_6 ?_
      refine lv_icmp_ge (tgt := 56) hx hb dX6_hit_9 (by decide) (fun c => ?_) (fun c => ?_)
      · have h := (it_d h).1 c
        refine lv_iconst (v := 0) hx hb dX6_hit_56 (by decide) ?_
        exact x_zret C hw h dX6_hit_57
      · have h := (it_d h).2 c
        refine lv_iload_n hx hb dX6_hit_12 rfl (lv_at hl 1 rfl) ?_
        refine lv_aload_n hx hb dX6_hit_13 rfl (lv_at hl 0 rfl) ?_
        refine x_getR C hw gtX6_9 dX6_hit_14 ?_
        refine lv_iload hx hb dX6_hit_17 (lv_at hl 4 rfl) ?_
        obtain ⟨v1, hv, h⟩ := bb_some h
        refine x_ald C hw alX_30 hv dX6_hit_19 ?_
        refine lv_ishr hx hb dX6_hit_20 ?_
        refine lv_iconst (v := 1) hx hb dX6_hit_21 (by decide) ?_
        refine lv_iand hx hb dX6_hit_22 ?_
        refine lv_if_eq (tgt := 50) hx hb dX6_hit_23 (by decide) (fun c => ?_) (fun c => ?_)
        · have h := (it_d h).1 c
          refine lv_iinc (v := (x4 + 1)) (lv' := [(4, .int (x4 + 1)), (0, .ref (ad 5)), (1, .int x1), (2, .int x2), (3, .int x3)]) hx hb dX6_hit_50 hl (k := 4) rfl rfl (by decide) rfl (fun ls hl => ?_)
          refine lv_goto (tgt := 3) hx hb dX6_hit_53 (by decide) ?_
          exact ih3 S x1 x2 x3 (x4 + 1) _ _ ls h hw (lv_sub hl [1, 2, 3, 4, 0] rfl)
        · have h := (it_d h).2 c
          refine lv_aload_n hx hb dX6_hit_26 rfl (lv_at hl 0 rfl) ?_
          refine x_getR C hw gtX6_15 dX6_hit_27 ?_
          refine lv_iload hx hb dX6_hit_30 (lv_at hl 4 rfl) ?_
          obtain ⟨v2, hv, h⟩ := bb_some h
          refine x_ald C hw alX_31 hv dX6_hit_32 ?_
          refine lv_iload_n hx hb dX6_hit_33 rfl (lv_at hl 2 rfl) ?_
          refine lv_icmp_gt (tgt := 50) hx hb dX6_hit_34 (by decide) (fun c => ?_) (fun c => ?_)
          · have h := (it_d h).1 c
            refine lv_iinc (v := (x4 + 1)) (lv' := [(4, .int (x4 + 1)), (0, .ref (ad 5)), (1, .int x1), (2, .int x2), (3, .int x3)]) hx hb dX6_hit_50 hl (k := 4) rfl rfl (by decide) rfl (fun ls hl => ?_)
            refine lv_goto (tgt := 3) hx hb dX6_hit_53 (by decide) ?_
            exact ih3 S x1 x2 x3 (x4 + 1) _ _ ls h hw (lv_sub hl [1, 2, 3, 4, 0] rfl)
          · have h := (it_d h).2 c
            refine lv_aload_n hx hb dX6_hit_37 rfl (lv_at hl 0 rfl) ?_
            refine x_getR C hw gtX6_18 dX6_hit_38 ?_
            refine lv_iload hx hb dX6_hit_41 (lv_at hl 4 rfl) ?_
            obtain ⟨v3, hv, h⟩ := bb_some h
            refine x_ald C hw alX_32 hv dX6_hit_43 ?_
            refine lv_iload_n hx hb dX6_hit_44 rfl (lv_at hl 3 rfl) ?_
            refine lv_icmp_gt (tgt := 50) hx hb dX6_hit_45 (by decide) (fun c => ?_) (fun c => ?_)
            · have h := (it_d h).1 c
              refine lv_iinc (v := (x4 + 1)) (lv' := [(4, .int (x4 + 1)), (0, .ref (ad 5)), (1, .int x1), (2, .int x2), (3, .int x3)]) hx hb dX6_hit_50 hl (k := 4) rfl rfl (by decide) rfl (fun ls hl => ?_)
              refine lv_goto (tgt := 3) hx hb dX6_hit_53 (by decide) ?_
              exact ih3 S x1 x2 x3 (x4 + 1) _ _ ls h hw (lv_sub hl [1, 2, 3, 4, 0] rfl)
            · have h := (it_d h).2 c
              refine lv_iconst (v := 1) hx hb dX6_hit_48 (by decide) ?_
              exact x_zret C hw h dX6_hit_49
  unfold fX6_hit at h
  refine lv_iconst (v := 0) hx hb dX6_hit_0 (by decide) ?_
  refine lv_istore (lv' := [(4, .int 0), (0, .ref (ad 5)), (1, .int x1), (2, .int x2), (3, .int x3)]) hx hb dX6_hit_1 hl (by decide) rfl (fun ls hl => ?_)
  exact B3 N S x1 x2 x3 0 _ _ ls h hw (lv_sub hl [1, 2, 3, 4, 0] rfl)
set_option maxHeartbeats 4000000 in
set_option maxRecDepth 100000 in
theorem mX0_whyNoJudge {N : Nat} {l : Launch} {D : va_G} {ad : Nat → Nat} {cI cZ : ClassId} {S Sz : SS} {x1 x2 x3 x4 x5 : Int32} {rz : Int32} (h : fX0_whyNoJudge N S x1 x2 x3 x4 x5 = some (rz, Sz)) : MI l D lyX ad cI cZ yX0_whyNoJudge cX0_whyNoJudge 6 (some .int) 2 [.ref (ad 1), .int x1, .int x2, .int x3, .int x4, .int x5] S rz Sz := by
  refine x_startI RX0 (by decide) rfl (Nat.le_of_ble_eq_true rfl) ?_
  intro p e s m args below meth c A C hw ls hl
  have hx := C.1
  have hb := C.2.1
  have hown := C.2.2.2.1
  have hts := C.2.2.2.2.1
  have hl : lv_has ls 6 [(0, .ref (ad 1)), (1, .int x1), (2, .int x2), (3, .int x3), (4, .int x4), (5, .int x5)] := hl
  unfold fX0_whyNoJudge at h
  refine lv_aload_n hx hb dX0_whyNoJudge_0 rfl (lv_at hl 0 rfl) ?_
  refine x_getR C hw gtX0_12 dX0_whyNoJudge_1 ?_
  refine lv_iload hx hb dX0_whyNoJudge_4 (lv_at hl 4 rfl) ?_
  obtain ⟨r1, S1, hv, h⟩ := b2_some h
  refine x_callVI C hw (mX4_isExaminer hv) lkX0_85 rfl (Nat.le_of_ble_eq_true rfl) hl.1 rfl (Nat.le_of_ble_eq_true rfl) dX0_whyNoJudge_6 (fun H locs hw => ?_)
  refine lv_if_ne (tgt := 14) hx hb dX0_whyNoJudge_9 (by decide) (fun c => ?_) (fun c => ?_)
  · have h := (it_d h).2 c
    refine lv_iload hx hb dX0_whyNoJudge_14 (lv_at hl 4 rfl) ?_
    refine lv_iload_n hx hb dX0_whyNoJudge_16 rfl (lv_at hl 1 rfl) ?_
    refine lv_icmp_eq (tgt := 42) hx hb dX0_whyNoJudge_17 (by decide) (fun c => ?_) (fun c => ?_)
    · have h := (it_d h).1 c
      refine lv_iconst (v := 3) hx hb dX0_whyNoJudge_42 (by decide) ?_
      exact x_iret C hw h dX0_whyNoJudge_43
    · have h := (it_d h).2 c
      refine lv_aload_n hx hb dX0_whyNoJudge_20 rfl (lv_at hl 0 rfl) ?_
      refine x_getR C hw gtX0_12 dX0_whyNoJudge_21 ?_
      refine x_getR C hw gtX0_89 dX0_whyNoJudge_24 ?_
      refine lv_iload hx hb dX0_whyNoJudge_27 (lv_at hl 4 rfl) ?_
      obtain ⟨v1, hv, h⟩ := bb_some h
      refine x_ald C hw alX_12 hv dX0_whyNoJudge_29 ?_
      refine lv_aload_n hx hb dX0_whyNoJudge_30 rfl (lv_at hl 0 rfl) ?_
      refine x_getR C hw gtX0_12 dX0_whyNoJudge_31 ?_
      refine x_getR C hw gtX0_89 dX0_whyNoJudge_34 ?_
      refine lv_iload_n hx hb dX0_whyNoJudge_37 rfl (lv_at hl 1 rfl) ?_
      obtain ⟨v2, hv, h⟩ := bb_some h
      refine x_ald C hw alX_12 hv dX0_whyNoJudge_38 ?_
      refine lv_icmp_ne (tgt := 44) hx hb dX0_whyNoJudge_39 (by decide) (fun c => ?_) (fun c => ?_)
      · have h := (it_d h).2 c
        refine lv_aload_n hx hb dX0_whyNoJudge_44 rfl (lv_at hl 0 rfl) ?_
        refine x_getR C hw gtX0_12 dX0_whyNoJudge_45 ?_
        refine x_getR C hw gtX0_43 dX0_whyNoJudge_48 ?_
        refine lv_iload hx hb dX0_whyNoJudge_51 (lv_at hl 4 rfl) ?_
        obtain ⟨v3, hv, h⟩ := bb_some h
        refine x_ald C hw alX_13 hv dX0_whyNoJudge_53 ?_
        refine lv_iload_n hx hb dX0_whyNoJudge_54 rfl (lv_at hl 3 rfl) ?_
        refine lv_icmp_ge (tgt := 60) hx hb dX0_whyNoJudge_55 (by decide) (fun c => ?_) (fun c => ?_)
        · have h := (it_d h).1 c
          refine lv_aload_n hx hb dX0_whyNoJudge_60 rfl (lv_at hl 0 rfl) ?_
          refine x_getR C hw gtX0_28 dX0_whyNoJudge_61 ?_
          refine x_getR C hw gtX0_92 dX0_whyNoJudge_64 ?_
          refine lv_iconst (v := 1) hx hb dX0_whyNoJudge_67 (by decide) ?_
          refine lv_iload hx hb dX0_whyNoJudge_68 (lv_at hl 4 rfl) ?_
          refine lv_ishl hx hb dX0_whyNoJudge_70 ?_
          refine lv_iload_n hx hb dX0_whyNoJudge_71 rfl (lv_at hl 3 rfl) ?_
          refine lv_iload_n hx hb dX0_whyNoJudge_72 rfl (lv_at hl 3 rfl) ?_
          obtain ⟨r2, S2, hv, h⟩ := b2_some h
          refine x_callVI C hw (mX6_hit hv) lkX0_96 rfl (Nat.le_of_ble_eq_true rfl) hl.1 rfl (Nat.le_of_ble_eq_true rfl) dX0_whyNoJudge_73 (fun H locs hw => ?_)
          refine lv_if_eq (tgt := 81) hx hb dX0_whyNoJudge_76 (by decide) (fun c => ?_) (fun c => ?_)
          · have h := (it_d h).1 c
            refine lv_aload_n hx hb dX0_whyNoJudge_81 rfl (lv_at hl 0 rfl) ?_
            refine x_getR C hw gtX0_28 dX0_whyNoJudge_82 ?_
            refine lv_iload hx hb dX0_whyNoJudge_85 (lv_at hl 4 rfl) ?_
            refine lv_iload_n hx hb dX0_whyNoJudge_87 rfl (lv_at hl 2 rfl) ?_
            refine lv_iload_n hx hb dX0_whyNoJudge_88 rfl (lv_at hl 3 rfl) ?_
            obtain ⟨r3, S3, hv, h⟩ := b2_some h
            refine x_callVI C hw (mX2_heldOn hv) lkX0_40 rfl (Nat.le_of_ble_eq_true rfl) hl.1 rfl (Nat.le_of_ble_eq_true rfl) dX0_whyNoJudge_89 (fun H locs hw => ?_)
            refine lv_iload hx hb dX0_whyNoJudge_92 (lv_at hl 5 rfl) ?_
            refine lv_icmp_ge (tgt := 102) hx hb dX0_whyNoJudge_94 (by decide) (fun c => ?_) (fun c => ?_)
            · have h := (it_d h).1 c
              refine lv_iconst (v := 0) hx hb dX0_whyNoJudge_102 (by decide) ?_
              exact x_iret C hw h dX0_whyNoJudge_103
            · have h := (it_d h).2 c
              refine lv_bipush (v := 6) hx hb dX0_whyNoJudge_97 (by decide) ?_
              refine lv_goto (tgt := 103) hx hb dX0_whyNoJudge_99 (by decide) ?_
              exact x_iret C hw h dX0_whyNoJudge_103
          · have h := (it_d h).2 c
            refine lv_iconst (v := 5) hx hb dX0_whyNoJudge_79 (by decide) ?_
            exact x_iret C hw h dX0_whyNoJudge_80
        · have h := (it_d h).2 c
          refine lv_iconst (v := 4) hx hb dX0_whyNoJudge_58 (by decide) ?_
          exact x_iret C hw h dX0_whyNoJudge_59
      · have h := (it_d h).1 c
        refine lv_iconst (v := 3) hx hb dX0_whyNoJudge_42 (by decide) ?_
        exact x_iret C hw h dX0_whyNoJudge_43
  · have h := (it_d h).1 c
    refine lv_iconst (v := 2) hx hb dX0_whyNoJudge_12 (by decide) ?_
    exact x_iret C hw h dX0_whyNoJudge_13
set_option maxHeartbeats 4000000 in
set_option maxRecDepth 100000 in
theorem mX0_whyNoPanel {N : Nat} {l : Launch} {D : va_G} {ad : Nat → Nat} {cI cZ : ClassId} {S Sz : SS} {x1 x2 x3 x4 x5 : Int32} {rz : Int32} (h : fX0_whyNoPanel N S x1 x2 x3 x4 x5 = some (rz, Sz)) : MI l D lyX ad cI cZ yX0_whyNoPanel cX0_whyNoPanel 9 (some .int) 3 [.ref (ad 1), .int x1, .int x2, .int x3, .int x4, .int x5] S rz Sz := by
  refine x_startI RX0 (by decide) rfl (Nat.le_of_ble_eq_true rfl) ?_
  intro p e s m args below meth c A C hw ls hl
  have hx := C.1
  have hb := C.2.1
  have hown := C.2.2.2.1
  have hts := C.2.2.2.2.1
  have hl : lv_has ls 9 [(0, .ref (ad 1)), (1, .int x1), (2, .int x2), (3, .int x3), (4, .int x4), (5, .int x5)] := hl
  have B17 : ∀ n : Nat, ∀ (S : SS) (x1 x2 x3 x4 x5 x6 x7 : Int32) (H : Heap) (locs : List Loc) (ls : Array Slot), fX0_whyNoPanel_b17 N n S x1 x2 x3 x4 x5 x6 x7 = some (rz, Sz) → WH D A s.heap lyX ad cI cZ S H locs → lv_has ls 9 [(0, .ref (ad 1)), (1, .int x1), (2, .int x2), (3, .int x3), (4, .int x4), (5, .int x5), (6, .int x6), (7, .int x7)] → W p l e (rmK 3) s m args below meth c H locs 0 0 (MQ below (Qi D lyX ad cI cZ A rz Sz) args s 0 0 A) (F0 m 17 ls []) := by
    intro n
    induction n with
    | zero =>
      intro S x1 x2 x3 x4 x5 x6 x7 H locs ls h hw hl
      rw [fX0_whyNoPanel_b17] at h
      cases h
    | succ n ih17 =>
      intro S x1 x2 x3 x4 x5 x6 x7 H locs ls h hw hl
      rw [fX0_whyNoPanel_b17] at h
      refine lv_iload hx hb dX0_whyNoPanel_17 (lv_at hl 7 rfl) ?_
      refine lv_aload_n hx hb dX0_whyNoPanel_19 rfl (lv_at hl 0 rfl) ?_
      refine x_getR C hw gtX0_12 dX0_whyNoPanel_20 ?_
      refine x_getI C hw gtX0_77 dX0_whyNoPanel_23 ?_
      refine lv_icmp_ge (tgt := 79) hx hb dX0_whyNoPanel_26 (by decide) (fun c => ?_) (fun c => ?_)
      · have h := (it_d h).1 c
        refine lv_iload hx hb dX0_whyNoPanel_79 (lv_at hl 6 rfl) ?_
        exact x_iret C hw h dX0_whyNoPanel_81
      · have h := (it_d h).2 c
        refine lv_iload hx hb dX0_whyNoPanel_29 (lv_at hl 4 rfl) ?_
        refine lv_iload hx hb dX0_whyNoPanel_31 (lv_at hl 7 rfl) ?_
        refine lv_ishr hx hb dX0_whyNoPanel_33 ?_
        refine lv_iconst (v := 1) hx hb dX0_whyNoPanel_34 (by decide) ?_
        refine lv_iand hx hb dX0_whyNoPanel_35 ?_
        refine lv_if_eq (tgt := 73) hx hb dX0_whyNoPanel_36 (by decide) (fun c => ?_) (fun c => ?_)
        · have h := (it_d h).1 c
          refine lv_iinc (v := (x7 + 1)) (lv' := [(7, .int (x7 + 1)), (0, .ref (ad 1)), (1, .int x1), (2, .int x2), (3, .int x3), (4, .int x4), (5, .int x5), (6, .int x6)]) hx hb dX0_whyNoPanel_73 hl (k := 7) rfl rfl (by decide) rfl (fun ls hl => ?_)
          refine lv_goto (tgt := 17) hx hb dX0_whyNoPanel_76 (by decide) ?_
          exact ih17 S x1 x2 x3 x4 x5 x6 (x7 + 1) _ _ ls h hw (lv_sub hl [1, 2, 3, 4, 5, 6, 7, 0] rfl)
        · have h := (it_d h).2 c
          refine lv_aload_n hx hb dX0_whyNoPanel_39 rfl (lv_at hl 0 rfl) ?_
          refine lv_iload_n hx hb dX0_whyNoPanel_40 rfl (lv_at hl 1 rfl) ?_
          refine lv_iload_n hx hb dX0_whyNoPanel_41 rfl (lv_at hl 2 rfl) ?_
          refine lv_iload_n hx hb dX0_whyNoPanel_42 rfl (lv_at hl 3 rfl) ?_
          refine lv_iload hx hb dX0_whyNoPanel_43 (lv_at hl 7 rfl) ?_
          refine lv_iload hx hb dX0_whyNoPanel_45 (lv_at hl 5 rfl) ?_
          obtain ⟨r1, S1, hv, h⟩ := b2_some h
          refine x_callVI C hw (mX0_whyNoJudge hv) lkX0_81 rfl (Nat.le_of_ble_eq_true rfl) hl.1 rfl (Nat.le_of_ble_eq_true rfl) dX0_whyNoPanel_47 (fun H locs hw => ?_)
          refine lv_istore (lv' := [(8, .int r1), (0, .ref (ad 1)), (1, .int x1), (2, .int x2), (3, .int x3), (4, .int x4), (5, .int x5), (6, .int x6), (7, .int x7)]) hx hb dX0_whyNoPanel_50 hl (by decide) rfl (fun ls hl => ?_)
          refine lv_iload hx hb dX0_whyNoPanel_52 (lv_at hl 0 rfl) ?_
          refine lv_if_eq (tgt := 73) hx hb dX0_whyNoPanel_54 (by decide) (fun c => ?_) (fun c => ?_)
          · have h := (it_d h).1 c
            refine lv_iinc (v := (x7 + 1)) (lv' := [(7, .int (x7 + 1)), (8, .int r1), (0, .ref (ad 1)), (1, .int x1), (2, .int x2), (3, .int x3), (4, .int x4), (5, .int x5), (6, .int x6)]) hx hb dX0_whyNoPanel_73 hl (k := 8) rfl rfl (by decide) rfl (fun ls hl => ?_)
            refine lv_goto (tgt := 17) hx hb dX0_whyNoPanel_76 (by decide) ?_
            exact ih17 S1 x1 x2 x3 x4 x5 x6 (x7 + 1) _ _ ls h hw (lv_sub hl [2, 3, 4, 5, 6, 7, 8, 0] rfl)
          · have h := (it_d h).2 c
            refine lv_iload hx hb dX0_whyNoPanel_57 (lv_at hl 7 rfl) ?_
            refine lv_if_eq (tgt := 69) hx hb dX0_whyNoPanel_59 (by decide) (fun c => ?_) (fun c => ?_)
            · have h := (it_d h).1 c
              refine lv_iload hx hb dX0_whyNoPanel_69 (lv_at hl 0 rfl) ?_
              refine lv_istore (lv' := [(6, .int r1), (8, .int r1), (0, .ref (ad 1)), (1, .int x1), (2, .int x2), (3, .int x3), (4, .int x4), (5, .int x5), (7, .int x7)]) hx hb dX0_whyNoPanel_71 hl (by decide) rfl (fun ls hl => ?_)
              refine lv_iinc (v := (x7 + 1)) (lv' := [(7, .int (x7 + 1)), (6, .int r1), (8, .int r1), (0, .ref (ad 1)), (1, .int x1), (2, .int x2), (3, .int x3), (4, .int x4), (5, .int x5)]) hx hb dX0_whyNoPanel_73 hl (k := 8) rfl rfl (by decide) rfl (fun ls hl => ?_)
              refine lv_goto (tgt := 17) hx hb dX0_whyNoPanel_76 (by decide) ?_
              exact ih17 S1 x1 x2 x3 x4 x5 r1 (x7 + 1) _ _ ls h hw (lv_sub hl [3, 4, 5, 6, 7, 8, 1, 0] rfl)
            · have h := (it_d h).2 c
              refine lv_iload hx hb dX0_whyNoPanel_62 (lv_at hl 0 rfl) ?_
              refine lv_iload hx hb dX0_whyNoPanel_64 (lv_at hl 7 rfl) ?_
              refine lv_icmp_ge (tgt := 73) hx hb dX0_whyNoPanel_66 (by decide) (fun c => ?_) (fun c => ?_)
              · have h := (it_d h).1 c
                refine lv_iinc (v := (x7 + 1)) (lv' := [(7, .int (x7 + 1)), (8, .int r1), (0, .ref (ad 1)), (1, .int x1), (2, .int x2), (3, .int x3), (4, .int x4), (5, .int x5), (6, .int x6)]) hx hb dX0_whyNoPanel_73 hl (k := 8) rfl rfl (by decide) rfl (fun ls hl => ?_)
                refine lv_goto (tgt := 17) hx hb dX0_whyNoPanel_76 (by decide) ?_
                exact ih17 S1 x1 x2 x3 x4 x5 x6 (x7 + 1) _ _ ls h hw (lv_sub hl [2, 3, 4, 5, 6, 7, 8, 0] rfl)
              · have h := (it_d h).2 c
                refine lv_iload hx hb dX0_whyNoPanel_69 (lv_at hl 0 rfl) ?_
                refine lv_istore (lv' := [(6, .int r1), (8, .int r1), (0, .ref (ad 1)), (1, .int x1), (2, .int x2), (3, .int x3), (4, .int x4), (5, .int x5), (7, .int x7)]) hx hb dX0_whyNoPanel_71 hl (by decide) rfl (fun ls hl => ?_)
                refine lv_iinc (v := (x7 + 1)) (lv' := [(7, .int (x7 + 1)), (6, .int r1), (8, .int r1), (0, .ref (ad 1)), (1, .int x1), (2, .int x2), (3, .int x3), (4, .int x4), (5, .int x5)]) hx hb dX0_whyNoPanel_73 hl (k := 8) rfl rfl (by decide) rfl (fun ls hl => ?_)
                refine lv_goto (tgt := 17) hx hb dX0_whyNoPanel_76 (by decide) ?_
                exact ih17 S1 x1 x2 x3 x4 x5 r1 (x7 + 1) _ _ ls h hw (lv_sub hl [3, 4, 5, 6, 7, 8, 1, 0] rfl)
  unfold fX0_whyNoPanel at h
  refine lv_iload hx hb dX0_whyNoPanel_0 (lv_at hl 4 rfl) ?_
  obtain ⟨r1, S1, hv, h⟩ := b2_some h
  refine x_callSI C hw (mJ6_bitCount hv) lkX0_71 rfl (Nat.le_of_ble_eq_true rfl) hl.1 rfl (Nat.le_of_ble_eq_true rfl) dX0_whyNoPanel_2 (fun H locs hw => ?_)
  refine lv_iconst (v := 3) hx hb dX0_whyNoPanel_5 (by decide) ?_
  refine lv_icmp_eq (tgt := 11) hx hb dX0_whyNoPanel_6 (by decide) (fun c => ?_) (fun c => ?_)
  · have h := (it_d h).1 c
    refine lv_iconst (v := 0) hx hb dX0_whyNoPanel_11 (by decide) ?_
    refine lv_istore (lv' := [(6, .int 0), (0, .ref (ad 1)), (1, .int x1), (2, .int x2), (3, .int x3), (4, .int x4), (5, .int x5)]) hx hb dX0_whyNoPanel_12 hl (by decide) rfl (fun ls hl => ?_)
    refine lv_iconst (v := 0) hx hb dX0_whyNoPanel_14 (by decide) ?_
    refine lv_istore (lv' := [(7, .int 0), (6, .int 0), (0, .ref (ad 1)), (1, .int x1), (2, .int x2), (3, .int x3), (4, .int x4), (5, .int x5)]) hx hb dX0_whyNoPanel_15 hl (by decide) rfl (fun ls hl => ?_)
    exact B17 N S1 x1 x2 x3 x4 x5 0 0 _ _ ls h hw (lv_sub hl [2, 3, 4, 5, 6, 7, 1, 0] rfl)
  · have h := (it_d h).2 c
    refine lv_iconst (v := 1) hx hb dX0_whyNoPanel_9 (by decide) ?_
    exact x_iret C hw h dX0_whyNoPanel_10
set_option maxHeartbeats 4000000 in
set_option maxRecDepth 100000 in
theorem mX2_lastGraded {N : Nat} {l : Launch} {D : va_G} {ad : Nat → Nat} {cI cZ : ClassId} {S Sz : SS} {x1 x2 : Int32} {rz : Int32} (h : fX2_lastGraded N S x1 x2 = some (rz, Sz)) : MI l D lyX ad cI cZ yX2_lastGraded cX2_lastGraded 5 (some .int) 1 [.ref (ad 4), .int x1, .int x2] S rz Sz := by
  refine x_startI RX2 (by decide) rfl (Nat.le_of_ble_eq_true rfl) ?_
  intro p e s m args below meth c A C hw ls hl
  have hx := C.1
  have hb := C.2.1
  have hown := C.2.2.2.1
  have hts := C.2.2.2.2.1
  have hl : lv_has ls 5 [(0, .ref (ad 4)), (1, .int x1), (2, .int x2)] := hl
  have B5 : ∀ n : Nat, ∀ (S : SS) (x1 x2 x3 x4 : Int32) (H : Heap) (locs : List Loc) (ls : Array Slot), fX2_lastGraded_b5 N n S x1 x2 x3 x4 = some (rz, Sz) → WH D A s.heap lyX ad cI cZ S H locs → lv_has ls 5 [(0, .ref (ad 4)), (1, .int x1), (2, .int x2), (3, .int x3), (4, .int x4)] → W p l e (rmK 1) s m args below meth c H locs 0 0 (MQ below (Qi D lyX ad cI cZ A rz Sz) args s 0 0 A) (F0 m 5 ls []) := by
    intro n
    induction n with
    | zero =>
      intro S x1 x2 x3 x4 H locs ls h hw hl
      rw [fX2_lastGraded_b5] at h
      cases h
    | succ n ih5 =>
      intro S x1 x2 x3 x4 H locs ls h hw hl
      rw [fX2_lastGraded_b5] at h
      refine lv_iload hx hb dX2_lastGraded_5 (lv_at hl 4 rfl) ?_
      refine lv_aload_n hx hb dX2_lastGraded_7 rfl (lv_at hl 0 rfl) ?_
      refine x_getI C hw gtX2_47 dX2_lastGraded_8 ?_
      refine lv_icmp_ge (tgt := 39) hx hb dX2_lastGraded_11 (by decide) (fun c => ?_) (fun c => ?_)
      · have h := (it_d h).1 c
        refine lv_iload_n hx hb dX2_lastGraded_39 rfl (lv_at hl 3 rfl) ?_
        exact x_iret C hw h dX2_lastGraded_40
      · have h := (it_d h).2 c
        refine lv_aload_n hx hb dX2_lastGraded_14 rfl (lv_at hl 0 rfl) ?_
        refine lv_iload hx hb dX2_lastGraded_15 (lv_at hl 4 rfl) ?_
        refine lv_iload_n hx hb dX2_lastGraded_17 rfl (lv_at hl 1 rfl) ?_
        refine lv_iload_n hx hb dX2_lastGraded_18 rfl (lv_at hl 2 rfl) ?_
        obtain ⟨r1, S1, hv, h⟩ := b2_some h
        refine x_callVI C hw (mX2_counts hv) lkX2_82 rfl (Nat.le_of_ble_eq_true rfl) hl.1 rfl (Nat.le_of_ble_eq_true rfl) dX2_lastGraded_19 (fun H locs hw => ?_)
        refine lv_if_eq (tgt := 33) hx hb dX2_lastGraded_22 (by decide) (fun c => ?_) (fun c => ?_)
        · have h := (it_d h).1 c
          refine lv_iinc (v := (x4 + 1)) (lv' := [(4, .int (x4 + 1)), (0, .ref (ad 4)), (1, .int x1), (2, .int x2), (3, .int x3)]) hx hb dX2_lastGraded_33 hl (k := 4) rfl rfl (by decide) rfl (fun ls hl => ?_)
          refine lv_goto (tgt := 5) hx hb dX2_lastGraded_36 (by decide) ?_
          exact ih5 S1 x1 x2 x3 (x4 + 1) _ _ ls h hw (lv_sub hl [1, 2, 3, 4, 0] rfl)
        · have h := (it_d h).2 c
          refine lv_aload_n hx hb dX2_lastGraded_25 rfl (lv_at hl 0 rfl) ?_
          refine x_getR C hw gtX2_34 dX2_lastGraded_26 ?_
          refine lv_iload hx hb dX2_lastGraded_29 (lv_at hl 4 rfl) ?_
          obtain ⟨v1, hv, h⟩ := bb_some h
          refine x_ald C hw alX_26 hv dX2_lastGraded_31 ?_
          refine lv_istore_n (lv' := [(3, .int v1), (0, .ref (ad 4)), (1, .int x1), (2, .int x2), (4, .int x4)]) hx hb dX2_lastGraded_32 rfl hl (by decide) rfl (fun ls hl => ?_)
          refine lv_iinc (v := (x4 + 1)) (lv' := [(4, .int (x4 + 1)), (3, .int v1), (0, .ref (ad 4)), (1, .int x1), (2, .int x2)]) hx hb dX2_lastGraded_33 hl (k := 4) rfl rfl (by decide) rfl (fun ls hl => ?_)
          refine lv_goto (tgt := 5) hx hb dX2_lastGraded_36 (by decide) ?_
          exact ih5 S1 x1 x2 v1 (x4 + 1) _ _ ls h hw (lv_sub hl [2, 3, 4, 1, 0] rfl)
  unfold fX2_lastGraded at h
  refine lv_iconst (v := (-1)) hx hb dX2_lastGraded_0 (by decide) ?_
  refine lv_istore_n (lv' := [(3, .int (-1)), (0, .ref (ad 4)), (1, .int x1), (2, .int x2)]) hx hb dX2_lastGraded_1 rfl hl (by decide) rfl (fun ls hl => ?_)
  refine lv_iconst (v := 0) hx hb dX2_lastGraded_2 (by decide) ?_
  refine lv_istore (lv' := [(4, .int 0), (3, .int (-1)), (0, .ref (ad 4)), (1, .int x1), (2, .int x2)]) hx hb dX2_lastGraded_3 hl (by decide) rfl (fun ls hl => ?_)
  exact B5 N S x1 x2 (-1) 0 _ _ ls h hw (lv_sub hl [2, 3, 4, 1, 0] rfl)
set_option maxHeartbeats 4000000 in
set_option maxRecDepth 100000 in
theorem mX4_passedAll {N : Nat} {l : Launch} {D : va_G} {ad : Nat → Nat} {cI cZ : ClassId} {S Sz : SS} {x1 x2 x3 x4 : Int32} {rz : Int32} (h : fX4_passedAll N S x1 x2 x3 x4 = some (rz, Sz)) : MI l D lyX ad cI cZ yX4_passedAll cX4_passedAll 7 (some .boolean) 0 [.ref (ad 2), .int x1, .int x2, .int x3, .int x4] S rz Sz := by
  refine x_startI RX4 (by decide) rfl (Nat.le_of_ble_eq_true rfl) ?_
  intro p e s m args below meth c A C hw ls hl
  have hx := C.1
  have hb := C.2.1
  have hown := C.2.2.2.1
  have hts := C.2.2.2.2.1
  have hl : lv_has ls 7 [(0, .ref (ad 2)), (1, .int x1), (2, .int x2), (3, .int x3), (4, .int x4)] := hl
  have B3 : ∀ n : Nat, ∀ (S : SS) (x1 x2 x3 x4 x5 : Int32) (H : Heap) (locs : List Loc) (ls : Array Slot), fX4_passedAll_b3 N n S x1 x2 x3 x4 x5 = some (rz, Sz) → WH D A s.heap lyX ad cI cZ S H locs → lv_has ls 7 [(0, .ref (ad 2)), (1, .int x1), (2, .int x2), (3, .int x3), (4, .int x4), (5, .int x5)] → W p l e (rmK 0) s m args below meth c H locs 0 0 (MQ below (Qi D lyX ad cI cZ A rz Sz) args s 0 0 A) (F0 m 3 ls []) := by
    intro n
    induction n with
    | zero =>
      intro S x1 x2 x3 x4 x5 H locs ls h hw hl
      rw [fX4_passedAll_b3] at h
      cases h
    | succ n ih3 =>
      intro S x1 x2 x3 x4 x5 H locs ls h hw hl
      rw [fX4_passedAll_b3] at h
      refine lv_iload hx hb dX4_passedAll_3 (lv_at hl 5 rfl) ?_
      refine lv_bipush (v := 8) hx hb dX4_passedAll_5 (by decide) ?_
      refine lv_icmp_ge (tgt := 54) hx hb dX4_passedAll_7 (by decide) (fun c => ?_) (fun c => ?_)
      · have h := (it_d h).1 c
        refine lv_iconst (v := 1) hx hb dX4_passedAll_54 (by decide) ?_
        exact x_zret C hw h dX4_passedAll_55
      · have h := (it_d h).2 c
        refine lv_aload_n hx hb dX4_passedAll_10 rfl (lv_at hl 0 rfl) ?_
        refine x_getR C hw gtX4_24 dX4_passedAll_11 ?_
        refine lv_iload_n hx hb dX4_passedAll_14 rfl (lv_at hl 1 rfl) ?_
        refine lv_bipush (v := 8) hx hb dX4_passedAll_15 (by decide) ?_
        refine lv_imul hx hb dX4_passedAll_17 ?_
        refine lv_iload hx hb dX4_passedAll_18 (lv_at hl 5 rfl) ?_
        refine lv_iadd hx hb dX4_passedAll_20 ?_
        obtain ⟨v1, hv, h⟩ := bb_some h
        refine x_ald C hw alX_14 hv dX4_passedAll_21 ?_
        refine lv_istore (lv' := [(6, .int v1), (0, .ref (ad 2)), (1, .int x1), (2, .int x2), (3, .int x3), (4, .int x4), (5, .int x5)]) hx hb dX4_passedAll_22 hl (by decide) rfl (fun ls hl => ?_)
        refine lv_iload_n hx hb dX4_passedAll_24 rfl (lv_at hl 3 rfl) ?_
        refine lv_iload hx hb dX4_passedAll_25 (lv_at hl 6 rfl) ?_
        refine lv_ishr hx hb dX4_passedAll_27 ?_
        refine lv_iconst (v := 1) hx hb dX4_passedAll_28 (by decide) ?_
        refine lv_iand hx hb dX4_passedAll_29 ?_
        refine lv_if_eq (tgt := 48) hx hb dX4_passedAll_30 (by decide) (fun c => ?_) (fun c => ?_)
        · have h := (it_d h).1 c
          refine lv_iinc (v := (x5 + 1)) (lv' := [(5, .int (x5 + 1)), (6, .int v1), (0, .ref (ad 2)), (1, .int x1), (2, .int x2), (3, .int x3), (4, .int x4)]) hx hb dX4_passedAll_48 hl (k := 6) rfl rfl (by decide) rfl (fun ls hl => ?_)
          refine lv_goto (tgt := 3) hx hb dX4_passedAll_51 (by decide) ?_
          exact ih3 S x1 x2 x3 x4 (x5 + 1) _ _ ls h hw (lv_sub hl [2, 3, 4, 5, 6, 0] rfl)
        · have h := (it_d h).2 c
          refine lv_iload hx hb dX4_passedAll_33 (lv_at hl 0 rfl) ?_
          refine lv_iload_n hx hb dX4_passedAll_35 rfl (lv_at hl 4 rfl) ?_
          refine lv_icmp_lt (tgt := 46) hx hb dX4_passedAll_36 (by decide) (fun c => ?_) (fun c => ?_)
          · have h := (it_d h).1 c
            refine lv_iconst (v := 0) hx hb dX4_passedAll_46 (by decide) ?_
            exact x_zret C hw h dX4_passedAll_47
          · have h := (it_d h).2 c
            refine lv_iload hx hb dX4_passedAll_39 (lv_at hl 0 rfl) ?_
            refine lv_iload hx hb dX4_passedAll_41 (lv_at hl 5 rfl) ?_
            refine lv_icmp_le (tgt := 48) hx hb dX4_passedAll_43 (by decide) (fun c => ?_) (fun c => ?_)
            · have h := (it_d h).1 c
              refine lv_iinc (v := (x5 + 1)) (lv' := [(5, .int (x5 + 1)), (6, .int v1), (0, .ref (ad 2)), (1, .int x1), (2, .int x2), (3, .int x3), (4, .int x4)]) hx hb dX4_passedAll_48 hl (k := 6) rfl rfl (by decide) rfl (fun ls hl => ?_)
              refine lv_goto (tgt := 3) hx hb dX4_passedAll_51 (by decide) ?_
              exact ih3 S x1 x2 x3 x4 (x5 + 1) _ _ ls h hw (lv_sub hl [2, 3, 4, 5, 6, 0] rfl)
            · have h := (it_d h).2 c
              refine lv_iconst (v := 0) hx hb dX4_passedAll_46 (by decide) ?_
              exact x_zret C hw h dX4_passedAll_47
  unfold fX4_passedAll at h
  refine lv_iconst (v := 0) hx hb dX4_passedAll_0 (by decide) ?_
  refine lv_istore (lv' := [(5, .int 0), (0, .ref (ad 2)), (1, .int x1), (2, .int x2), (3, .int x3), (4, .int x4)]) hx hb dX4_passedAll_1 hl (by decide) rfl (fun ls hl => ?_)
  exact B3 N S x1 x2 x3 x4 0 _ _ ls h hw (lv_sub hl [1, 2, 3, 4, 5, 0] rfl)
set_option maxHeartbeats 4000000 in
set_option maxRecDepth 100000 in
theorem mX5_inForce {N : Nat} {l : Launch} {D : va_G} {ad : Nat → Nat} {cI cZ : ClassId} {S Sz : SS} {x1 x2 x3 : Int32} {rz : Int32} (h : fX5_inForce N S x1 x2 x3 = some (rz, Sz)) : MI l D lyX ad cI cZ yX5_inForce cX5_inForce 6 (some .int) 0 [.ref (ad 3), .int x1, .int x2, .int x3] S rz Sz := by
  refine x_startI RX5 (by decide) rfl (Nat.le_of_ble_eq_true rfl) ?_
  intro p e s m args below meth c A C hw ls hl
  have hx := C.1
  have hb := C.2.1
  have hown := C.2.2.2.1
  have hts := C.2.2.2.2.1
  have hl : lv_has ls 6 [(0, .ref (ad 3)), (1, .int x1), (2, .int x2), (3, .int x3)] := hl
  have B6 : ∀ n : Nat, ∀ (S : SS) (x1 x2 x3 x4 x5 : Int32) (H : Heap) (locs : List Loc) (ls : Array Slot), fX5_inForce_b6 N n S x1 x2 x3 x4 x5 = some (rz, Sz) → WH D A s.heap lyX ad cI cZ S H locs → lv_has ls 6 [(0, .ref (ad 3)), (1, .int x1), (2, .int x2), (3, .int x3), (4, .int x4), (5, .int x5)] → W p l e (rmK 0) s m args below meth c H locs 0 0 (MQ below (Qi D lyX ad cI cZ A rz Sz) args s 0 0 A) (F0 m 6 ls []) := by
    intro n
    induction n with
    | zero =>
      intro S x1 x2 x3 x4 x5 H locs ls h hw hl
      rw [fX5_inForce_b6] at h
      cases h
    | succ n ih6 =>
      intro S x1 x2 x3 x4 x5 H locs ls h hw hl
      rw [fX5_inForce_b6] at h
      refine lv_iload hx hb dX5_inForce_6 (lv_at hl 5 rfl) ?_
      refine lv_aload_n hx hb dX5_inForce_8 rfl (lv_at hl 0 rfl) ?_
      refine x_getI C hw gtX5_30 dX5_inForce_9 ?_
      refine lv_icmp_ge (tgt := 74) hx hb dX5_inForce_12 (by decide) (fun c => ?_) (fun c => ?_)
      · have h := (it_d h).1 c
        refine lv_iload hx hb dX5_inForce_74 (lv_at hl 4 rfl) ?_
        exact x_iret C hw h dX5_inForce_76
      · have h := (it_d h).2 c
        refine lv_aload_n hx hb dX5_inForce_15 rfl (lv_at hl 0 rfl) ?_
        refine x_getR C hw gtX5_9 dX5_inForce_16 ?_
        refine lv_iload hx hb dX5_inForce_19 (lv_at hl 5 rfl) ?_
        obtain ⟨v1, hv, h⟩ := bb_some h
        refine x_ald C hw alX_15 hv dX5_inForce_21 ?_
        refine lv_bipush (v := 100) hx hb dX5_inForce_22 (by decide) ?_
        refine lv_iload_n hx hb dX5_inForce_24 rfl (lv_at hl 1 rfl) ?_
        refine lv_imul hx hb dX5_inForce_25 ?_
        refine lv_iload_n hx hb dX5_inForce_26 rfl (lv_at hl 2 rfl) ?_
        refine lv_iadd hx hb dX5_inForce_27 ?_
        refine lv_icmp_ne (tgt := 68) hx hb dX5_inForce_28 (by decide) (fun c => ?_) (fun c => ?_)
        · have h := (it_d h).2 c
          refine lv_iinc (v := (x5 + 1)) (lv' := [(5, .int (x5 + 1)), (0, .ref (ad 3)), (1, .int x1), (2, .int x2), (3, .int x3), (4, .int x4)]) hx hb dX5_inForce_68 hl (k := 5) rfl rfl (by decide) rfl (fun ls hl => ?_)
          refine lv_goto (tgt := 6) hx hb dX5_inForce_71 (by decide) ?_
          exact ih6 S x1 x2 x3 x4 (x5 + 1) _ _ ls h hw (lv_sub hl [1, 2, 3, 4, 5, 0] rfl)
        · have h := (it_d h).1 c
          refine lv_aload_n hx hb dX5_inForce_31 rfl (lv_at hl 0 rfl) ?_
          refine x_getR C hw gtX5_15 dX5_inForce_32 ?_
          refine lv_iload hx hb dX5_inForce_35 (lv_at hl 5 rfl) ?_
          obtain ⟨v2, hv, h⟩ := bb_some h
          refine x_ald C hw alX_16 hv dX5_inForce_37 ?_
          refine lv_iload_n hx hb dX5_inForce_38 rfl (lv_at hl 3 rfl) ?_
          refine lv_icmp_gt (tgt := 68) hx hb dX5_inForce_39 (by decide) (fun c => ?_) (fun c => ?_)
          · have h := (it_d h).1 c
            refine lv_iinc (v := (x5 + 1)) (lv' := [(5, .int (x5 + 1)), (0, .ref (ad 3)), (1, .int x1), (2, .int x2), (3, .int x3), (4, .int x4)]) hx hb dX5_inForce_68 hl (k := 5) rfl rfl (by decide) rfl (fun ls hl => ?_)
            refine lv_goto (tgt := 6) hx hb dX5_inForce_71 (by decide) ?_
            exact ih6 S x1 x2 x3 x4 (x5 + 1) _ _ ls h hw (lv_sub hl [1, 2, 3, 4, 5, 0] rfl)
          · have h := (it_d h).2 c
            refine lv_iload hx hb dX5_inForce_42 (lv_at hl 4 rfl) ?_
            refine lv_if_lt (tgt := 64) hx hb dX5_inForce_44 (by decide) (fun c => ?_) (fun c => ?_)
            · have h := (it_d h).1 c
              refine lv_iload hx hb dX5_inForce_64 (lv_at hl 5 rfl) ?_
              refine lv_istore (lv' := [(4, .int x5), (0, .ref (ad 3)), (1, .int x1), (2, .int x2), (3, .int x3), (5, .int x5)]) hx hb dX5_inForce_66 hl (by decide) rfl (fun ls hl => ?_)
              refine lv_iinc (v := (x5 + 1)) (lv' := [(5, .int (x5 + 1)), (4, .int x5), (0, .ref (ad 3)), (1, .int x1), (2, .int x2), (3, .int x3)]) hx hb dX5_inForce_68 hl (k := 5) rfl rfl (by decide) rfl (fun ls hl => ?_)
              refine lv_goto (tgt := 6) hx hb dX5_inForce_71 (by decide) ?_
              exact ih6 S x1 x2 x3 x5 (x5 + 1) _ _ ls h hw (lv_sub hl [2, 3, 4, 5, 1, 0] rfl)
            · have h := (it_d h).2 c
              refine lv_aload_n hx hb dX5_inForce_47 rfl (lv_at hl 0 rfl) ?_
              refine x_getR C hw gtX5_15 dX5_inForce_48 ?_
              refine lv_iload hx hb dX5_inForce_51 (lv_at hl 5 rfl) ?_
              obtain ⟨v3, hv, h⟩ := bb_some h
              refine x_ald C hw alX_16 hv dX5_inForce_53 ?_
              refine lv_aload_n hx hb dX5_inForce_54 rfl (lv_at hl 0 rfl) ?_
              refine x_getR C hw gtX5_15 dX5_inForce_55 ?_
              refine lv_iload hx hb dX5_inForce_58 (lv_at hl 4 rfl) ?_
              obtain ⟨v4, hv, h⟩ := bb_some h
              refine x_ald C hw alX_16 hv dX5_inForce_60 ?_
              refine lv_icmp_lt (tgt := 68) hx hb dX5_inForce_61 (by decide) (fun c => ?_) (fun c => ?_)
              · have h := (it_d h).1 c
                refine lv_iinc (v := (x5 + 1)) (lv' := [(5, .int (x5 + 1)), (0, .ref (ad 3)), (1, .int x1), (2, .int x2), (3, .int x3), (4, .int x4)]) hx hb dX5_inForce_68 hl (k := 5) rfl rfl (by decide) rfl (fun ls hl => ?_)
                refine lv_goto (tgt := 6) hx hb dX5_inForce_71 (by decide) ?_
                exact ih6 S x1 x2 x3 x4 (x5 + 1) _ _ ls h hw (lv_sub hl [1, 2, 3, 4, 5, 0] rfl)
              · have h := (it_d h).2 c
                refine lv_iload hx hb dX5_inForce_64 (lv_at hl 5 rfl) ?_
                refine lv_istore (lv' := [(4, .int x5), (0, .ref (ad 3)), (1, .int x1), (2, .int x2), (3, .int x3), (5, .int x5)]) hx hb dX5_inForce_66 hl (by decide) rfl (fun ls hl => ?_)
                refine lv_iinc (v := (x5 + 1)) (lv' := [(5, .int (x5 + 1)), (4, .int x5), (0, .ref (ad 3)), (1, .int x1), (2, .int x2), (3, .int x3)]) hx hb dX5_inForce_68 hl (k := 5) rfl rfl (by decide) rfl (fun ls hl => ?_)
                refine lv_goto (tgt := 6) hx hb dX5_inForce_71 (by decide) ?_
                exact ih6 S x1 x2 x3 x5 (x5 + 1) _ _ ls h hw (lv_sub hl [2, 3, 4, 5, 1, 0] rfl)
  unfold fX5_inForce at h
  refine lv_iconst (v := (-1)) hx hb dX5_inForce_0 (by decide) ?_
  refine lv_istore (lv' := [(4, .int (-1)), (0, .ref (ad 3)), (1, .int x1), (2, .int x2), (3, .int x3)]) hx hb dX5_inForce_1 hl (by decide) rfl (fun ls hl => ?_)
  refine lv_iconst (v := 0) hx hb dX5_inForce_3 (by decide) ?_
  refine lv_istore (lv' := [(5, .int 0), (4, .int (-1)), (0, .ref (ad 3)), (1, .int x1), (2, .int x2), (3, .int x3)]) hx hb dX5_inForce_4 hl (by decide) rfl (fun ls hl => ?_)
  exact B6 N S x1 x2 x3 (-1) 0 _ _ ls h hw (lv_sub hl [2, 3, 4, 5, 1, 0] rfl)
set_option maxHeartbeats 4000000 in
set_option maxRecDepth 100000 in
theorem mX0_whyNot {N : Nat} {l : Launch} {D : va_G} {ad : Nat → Nat} {cI cZ : ClassId} {S Sz : SS} {x1 x2 x3 x4 : Int32} {rz : Int32} (h : fX0_whyNot N S x1 x2 x3 x4 = some (rz, Sz)) : MI l D lyX ad cI cZ yX0_whyNot cX0_whyNot 9 (some .int) 2 [.ref (ad 1), .int x1, .int x2, .int x3, .int x4] S rz Sz := by
  refine x_startI RX0 (by decide) rfl (Nat.le_of_ble_eq_true rfl) ?_
  intro p e s m args below meth c A C hw ls hl
  have hx := C.1
  have hb := C.2.1
  have hown := C.2.2.2.1
  have hts := C.2.2.2.2.1
  have hl : lv_has ls 9 [(0, .ref (ad 1)), (1, .int x1), (2, .int x2), (3, .int x3), (4, .int x4)] := hl
  have B173 : ∀ (S : SS) (x1 x4 x5 x7 : Int32) (H : Heap) (locs : List Loc) (ls : Array Slot), fX0_whyNot_b173 N S x1 x4 x5 x7 = some (rz, Sz) → WH D A s.heap lyX ad cI cZ S H locs → lv_has ls 9 [(0, .ref (ad 1)), (1, .int x1), (4, .int x4), (5, .int x5), (7, .int x7)] → W p l e (rmK 2) s m args below meth c H locs 0 0 (MQ below (Qi D lyX ad cI cZ A rz Sz) args s 0 0 A) (F0 m 173 ls []) := by
    intro S x1 x4 x5 x7 H locs ls h hw hl
    unfold fX0_whyNot_b173 at h
    refine lv_aload_n hx hb dX0_whyNot_173 rfl (lv_at hl 0 rfl) ?_
    refine x_getR C hw gtX0_12 dX0_whyNot_174 ?_
    refine lv_iload_n hx hb dX0_whyNot_177 rfl (lv_at hl 1 rfl) ?_
    refine lv_aload_n hx hb dX0_whyNot_178 rfl (lv_at hl 0 rfl) ?_
    refine x_getR C hw gtX0_21 dX0_whyNot_179 ?_
    refine x_getR C hw gtX0_59 dX0_whyNot_182 ?_
    refine lv_iload hx hb dX0_whyNot_185 (lv_at hl 3 rfl) ?_
    obtain ⟨v1, hv, h⟩ := bb_some h
    refine x_ald C hw alX_19 hv dX0_whyNot_187 ?_
    refine lv_iload hx hb dX0_whyNot_188 (lv_at hl 4 rfl) ?_
    refine lv_iconst (v := 0) hx hb dX0_whyNot_190 (by decide) ?_
    refine x_mx C mkX0_62 (Nat.le_of_ble_eq_true rfl) hl.1 (Nat.le_of_ble_eq_true rfl) dX0_whyNot_191 ?_
    refine lv_iload hx hb dX0_whyNot_194 (lv_at hl 2 rfl) ?_
    obtain ⟨r1, S1, hv, h⟩ := b2_some h
    refine x_callVI C hw (mX4_passedAll hv) lkX0_67 rfl (Nat.le_of_ble_eq_true rfl) hl.1 rfl (Nat.le_of_ble_eq_true rfl) dX0_whyNot_196 (fun H locs hw => ?_)
    refine lv_if_eq (tgt := 206) hx hb dX0_whyNot_199 (by decide) (fun c => ?_) (fun c => ?_)
    · have h := (it_d h).1 c
      refine lv_bipush (v := 6) hx hb dX0_whyNot_206 (by decide) ?_
      exact x_iret C hw h dX0_whyNot_208
    · have h := (it_d h).2 c
      refine lv_iconst (v := 0) hx hb dX0_whyNot_202 (by decide) ?_
      refine lv_goto (tgt := 208) hx hb dX0_whyNot_203 (by decide) ?_
      exact x_iret C hw h dX0_whyNot_208
  have B154 : ∀ (S : SS) (x1 x4 x5 x7 t0 : Int32) (H : Heap) (locs : List Loc) (ls : Array Slot), fX0_whyNot_b154 N S x1 x4 x5 x7 t0 = some (rz, Sz) → WH D A s.heap lyX ad cI cZ S H locs → lv_has ls 9 [(0, .ref (ad 1)), (1, .int x1), (4, .int x4), (5, .int x5), (7, .int x7)] → W p l e (rmK 2) s m args below meth c H locs 0 0 (MQ below (Qi D lyX ad cI cZ A rz Sz) args s 0 0 A) (F0 m 154 ls [.int t0]) := by
    intro S x1 x4 x5 x7 t0 H locs ls h hw hl
    unfold fX0_whyNot_b154 at h
    refine lv_istore (lv' := [(8, .int t0), (0, .ref (ad 1)), (1, .int x1), (4, .int x4), (5, .int x5), (7, .int x7)]) hx hb dX0_whyNot_154 hl (by decide) rfl (fun ls hl => ?_)
    refine lv_iload hx hb dX0_whyNot_156 (lv_at hl 5 rfl) ?_
    refine lv_if_lt (tgt := 173) hx hb dX0_whyNot_158 (by decide) (fun c => ?_) (fun c => ?_)
    · have h := (it_d h).1 c
      exact B173 S x1 x4 x5 x7 _ _ ls h hw (lv_sub hl [1, 2, 3, 4, 5] rfl)
    · have h := (it_d h).2 c
      refine lv_iload hx hb dX0_whyNot_161 (lv_at hl 3 rfl) ?_
      refine lv_iload hx hb dX0_whyNot_163 (lv_at hl 5 rfl) ?_
      refine lv_isub hx hb dX0_whyNot_165 ?_
      refine lv_iload hx hb dX0_whyNot_166 (lv_at hl 0 rfl) ?_
      refine lv_icmp_ge (tgt := 173) hx hb dX0_whyNot_168 (by decide) (fun c => ?_) (fun c => ?_)
      · have h := (it_d h).1 c
        exact B173 S x1 x4 x5 x7 _ _ ls h hw (lv_sub hl [1, 2, 3, 4, 5] rfl)
      · have h := (it_d h).2 c
        refine lv_iconst (v := 5) hx hb dX0_whyNot_171 (by decide) ?_
        exact x_iret C hw h dX0_whyNot_172
  have B50 : ∀ (S : SS) (x1 x2 x3 x4 x5 x6 : Int32) (H : Heap) (locs : List Loc) (ls : Array Slot), fX0_whyNot_b50 N S x1 x2 x3 x4 x5 x6 = some (rz, Sz) → WH D A s.heap lyX ad cI cZ S H locs → lv_has ls 9 [(0, .ref (ad 1)), (1, .int x1), (2, .int x2), (3, .int x3), (4, .int x4), (5, .int x5), (6, .int x6)] → W p l e (rmK 2) s m args below meth c H locs 0 0 (MQ below (Qi D lyX ad cI cZ A rz Sz) args s 0 0 A) (F0 m 50 ls []) := by
    intro S x1 x2 x3 x4 x5 x6 H locs ls h hw hl
    unfold fX0_whyNot_b50 at h
    refine lv_aload_n hx hb dX0_whyNot_50 rfl (lv_at hl 0 rfl) ?_
    refine x_getR C hw gtX0_28 dX0_whyNot_51 ?_
    refine lv_iload_n hx hb dX0_whyNot_54 rfl (lv_at hl 1 rfl) ?_
    refine lv_iload_n hx hb dX0_whyNot_55 rfl (lv_at hl 2 rfl) ?_
    refine lv_iload hx hb dX0_whyNot_56 (lv_at hl 4 rfl) ?_
    obtain ⟨r1, S1, hv, h⟩ := b2_some h
    refine x_callVI C hw (mX2_heldOn hv) lkX0_40 rfl (Nat.le_of_ble_eq_true rfl) hl.1 rfl (Nat.le_of_ble_eq_true rfl) dX0_whyNot_58 (fun H locs hw => ?_)
    refine lv_iload_n hx hb dX0_whyNot_61 rfl (lv_at hl 3 rfl) ?_
    refine lv_iconst (v := 1) hx hb dX0_whyNot_62 (by decide) ?_
    refine lv_isub hx hb dX0_whyNot_63 ?_
    refine lv_icmp_eq (tgt := 69) hx hb dX0_whyNot_64 (by decide) (fun c => ?_) (fun c => ?_)
    · have h := (it_d h).1 c
      refine lv_aload_n hx hb dX0_whyNot_69 rfl (lv_at hl 0 rfl) ?_
      refine x_getR C hw gtX0_12 dX0_whyNot_70 ?_
      refine x_getR C hw gtX0_43 dX0_whyNot_73 ?_
      refine lv_iload_n hx hb dX0_whyNot_76 rfl (lv_at hl 1 rfl) ?_
      obtain ⟨v1, hv, h⟩ := bb_some h
      refine x_ald C hw alX_13 hv dX0_whyNot_77 ?_
      refine lv_iload hx hb dX0_whyNot_78 (lv_at hl 4 rfl) ?_
      refine lv_icmp_ge (tgt := 85) hx hb dX0_whyNot_80 (by decide) (fun c => ?_) (fun c => ?_)
      · have h := (it_d h).1 c
        refine lv_iload hx hb dX0_whyNot_85 (lv_at hl 4 rfl) ?_
        refine lv_aload_n hx hb dX0_whyNot_87 rfl (lv_at hl 0 rfl) ?_
        refine x_getR C hw gtX0_12 dX0_whyNot_88 ?_
        refine x_getR C hw gtX0_46 dX0_whyNot_91 ?_
        refine lv_iload_n hx hb dX0_whyNot_94 rfl (lv_at hl 1 rfl) ?_
        obtain ⟨v2, hv, h⟩ := bb_some h
        refine x_ald C hw alX_11 hv dX0_whyNot_95 ?_
        refine lv_isub hx hb dX0_whyNot_96 ?_
        refine lv_aload_n hx hb dX0_whyNot_97 rfl (lv_at hl 0 rfl) ?_
        refine x_getR C hw gtX0_21 dX0_whyNot_98 ?_
        refine x_getR C hw gtX0_49 dX0_whyNot_101 ?_
        refine lv_iload hx hb dX0_whyNot_104 (lv_at hl 5 rfl) ?_
        obtain ⟨v3, hv, h⟩ := bb_some h
        refine x_ald C hw alX_18 hv dX0_whyNot_106 ?_
        refine lv_icmp_ge (tgt := 112) hx hb dX0_whyNot_107 (by decide) (fun c => ?_) (fun c => ?_)
        · have h := (it_d h).1 c
          refine lv_aload_n hx hb dX0_whyNot_112 rfl (lv_at hl 0 rfl) ?_
          refine x_getR C hw gtX0_28 dX0_whyNot_113 ?_
          refine lv_iload_n hx hb dX0_whyNot_116 rfl (lv_at hl 1 rfl) ?_
          refine lv_iload hx hb dX0_whyNot_117 (lv_at hl 4 rfl) ?_
          obtain ⟨r2, S2, hv, h⟩ := b2_some h
          refine x_callVI C hw (mX2_lastGraded hv) lkX0_52 rfl (Nat.le_of_ble_eq_true rfl) hl.1 rfl (Nat.le_of_ble_eq_true rfl) dX0_whyNot_119 (fun H locs hw => ?_)
          refine lv_istore (lv' := [(7, .int r2), (0, .ref (ad 1)), (1, .int x1), (2, .int x2), (3, .int x3), (4, .int x4), (5, .int x5), (6, .int x6)]) hx hb dX0_whyNot_122 hl (by decide) rfl (fun ls hl => ?_)
          refine lv_iload hx hb dX0_whyNot_124 (lv_at hl 7 rfl) ?_
          refine lv_if_eq (tgt := 144) hx hb dX0_whyNot_126 (by decide) (fun c => ?_) (fun c => ?_)
          · have h := (it_d h).1 c
            refine lv_aload_n hx hb dX0_whyNot_144 rfl (lv_at hl 1 rfl) ?_
            refine x_getR C hw gtX0_21 dX0_whyNot_145 ?_
            refine x_getR C hw gtX0_56 dX0_whyNot_148 ?_
            refine lv_iload hx hb dX0_whyNot_151 (lv_at hl 6 rfl) ?_
            obtain ⟨v4, hv, h⟩ := bb_some h
            refine x_ald C hw alX_17 hv dX0_whyNot_153 ?_
            exact B154 S2 x1 x4 x5 r2 v4 _ _ ls h hw (lv_sub hl [1, 2, 5, 6, 0] rfl)
          · have h := (it_d h).2 c
            refine lv_aload_n hx hb dX0_whyNot_129 rfl (lv_at hl 1 rfl) ?_
            refine x_getR C hw gtX0_21 dX0_whyNot_130 ?_
            refine x_getR C hw gtX0_56 dX0_whyNot_133 ?_
            refine lv_iload hx hb dX0_whyNot_136 (lv_at hl 6 rfl) ?_
            obtain ⟨v5, hv, h⟩ := bb_some h
            refine x_ald C hw alX_17 hv dX0_whyNot_138 ?_
            refine lv_iconst (v := 2) hx hb dX0_whyNot_139 (by decide) ?_
            refine lv_idiv hx hb dX0_whyNot_140 (by decide) ?_
            refine lv_goto (tgt := 154) hx hb dX0_whyNot_141 (by decide) ?_
            exact B154 S2 x1 x4 x5 r2 (v5 / 2) _ _ ls h hw (lv_sub hl [1, 2, 5, 6, 0] rfl)
        · have h := (it_d h).2 c
          refine lv_iconst (v := 4) hx hb dX0_whyNot_110 (by decide) ?_
          exact x_iret C hw h dX0_whyNot_111
      · have h := (it_d h).2 c
        refine lv_iconst (v := 3) hx hb dX0_whyNot_83 (by decide) ?_
        exact x_iret C hw h dX0_whyNot_84
    · have h := (it_d h).2 c
      refine lv_iconst (v := 2) hx hb dX0_whyNot_67 (by decide) ?_
      exact x_iret C hw h dX0_whyNot_68
  have B31 : ∀ (S : SS) (x1 x2 x3 x4 x5 t0 : Int32) (H : Heap) (locs : List Loc) (ls : Array Slot), fX0_whyNot_b31 N S x1 x2 x3 x4 x5 t0 = some (rz, Sz) → WH D A s.heap lyX ad cI cZ S H locs → lv_has ls 9 [(0, .ref (ad 1)), (1, .int x1), (2, .int x2), (3, .int x3), (4, .int x4), (5, .int x5)] → W p l e (rmK 2) s m args below meth c H locs 0 0 (MQ below (Qi D lyX ad cI cZ A rz Sz) args s 0 0 A) (F0 m 31 ls [.int t0]) := by
    intro S x1 x2 x3 x4 x5 t0 H locs ls h hw hl
    unfold fX0_whyNot_b31 at h
    refine lv_istore (lv' := [(6, .int t0), (0, .ref (ad 1)), (1, .int x1), (2, .int x2), (3, .int x3), (4, .int x4), (5, .int x5)]) hx hb dX0_whyNot_31 hl (by decide) rfl (fun ls hl => ?_)
    refine lv_iload hx hb dX0_whyNot_33 (lv_at hl 6 rfl) ?_
    refine lv_if_lt (tgt := 48) hx hb dX0_whyNot_35 (by decide) (fun c => ?_) (fun c => ?_)
    · have h := (it_d h).1 c
      refine lv_iconst (v := 1) hx hb dX0_whyNot_48 (by decide) ?_
      exact x_iret C hw h dX0_whyNot_49
    · have h := (it_d h).2 c
      refine lv_iload hx hb dX0_whyNot_38 (lv_at hl 0 rfl) ?_
      refine lv_if_eq (tgt := 50) hx hb dX0_whyNot_40 (by decide) (fun c => ?_) (fun c => ?_)
      · have h := (it_d h).1 c
        exact B50 S x1 x2 x3 x4 x5 t0 _ _ ls h hw (lv_sub hl [1, 2, 3, 4, 5, 6, 0] rfl)
      · have h := (it_d h).2 c
        refine lv_iload_n hx hb dX0_whyNot_43 rfl (lv_at hl 4 rfl) ?_
        refine lv_iconst (v := 4) hx hb dX0_whyNot_44 (by decide) ?_
        refine lv_icmp_le (tgt := 50) hx hb dX0_whyNot_45 (by decide) (fun c => ?_) (fun c => ?_)
        · have h := (it_d h).1 c
          exact B50 S x1 x2 x3 x4 x5 t0 _ _ ls h hw (lv_sub hl [1, 2, 3, 4, 5, 6, 0] rfl)
        · have h := (it_d h).2 c
          refine lv_iconst (v := 1) hx hb dX0_whyNot_48 (by decide) ?_
          exact x_iret C hw h dX0_whyNot_49
  unfold fX0_whyNot at h
  refine lv_aload_n hx hb dX0_whyNot_0 rfl (lv_at hl 0 rfl) ?_
  refine x_getR C hw gtX0_21 dX0_whyNot_1 ?_
  refine lv_iload_n hx hb dX0_whyNot_4 rfl (lv_at hl 2 rfl) ?_
  refine lv_iload_n hx hb dX0_whyNot_5 rfl (lv_at hl 3 rfl) ?_
  refine lv_iload hx hb dX0_whyNot_6 (lv_at hl 4 rfl) ?_
  obtain ⟨r1, S1, hv, h⟩ := b2_some h
  refine x_callVI C hw (mX5_inForce hv) lkX0_32 rfl (Nat.le_of_ble_eq_true rfl) hl.1 rfl (Nat.le_of_ble_eq_true rfl) dX0_whyNot_8 (fun H locs hw => ?_)
  refine lv_istore (lv' := [(5, .int r1), (0, .ref (ad 1)), (1, .int x1), (2, .int x2), (3, .int x3), (4, .int x4)]) hx hb dX0_whyNot_11 hl (by decide) rfl (fun ls hl => ?_)
  refine lv_aload_n hx hb dX0_whyNot_13 rfl (lv_at hl 1 rfl) ?_
  refine x_getR C hw gtX0_12 dX0_whyNot_14 ?_
  refine x_getR C hw gtX0_36 dX0_whyNot_17 ?_
  refine lv_iload_n hx hb dX0_whyNot_20 rfl (lv_at hl 2 rfl) ?_
  obtain ⟨v1, hv, h⟩ := bb_some h
  refine x_ald C hw alX_10 hv dX0_whyNot_21 ?_
  refine lv_iconst (v := 2) hx hb dX0_whyNot_22 (by decide) ?_
  refine lv_icmp_ne (tgt := 30) hx hb dX0_whyNot_23 (by decide) (fun c => ?_) (fun c => ?_)
  · have h := (it_d h).2 c
    refine lv_iconst (v := 0) hx hb dX0_whyNot_30 (by decide) ?_
    exact B31 S1 x1 x2 x3 x4 r1 0 _ _ ls h hw (lv_sub hl [1, 2, 3, 4, 5, 0] rfl)
  · have h := (it_d h).1 c
    refine lv_iconst (v := 1) hx hb dX0_whyNot_26 (by decide) ?_
    refine lv_goto (tgt := 31) hx hb dX0_whyNot_27 (by decide) ?_
    exact B31 S1 x1 x2 x3 x4 r1 1 _ _ ls h hw (lv_sub hl [1, 2, 3, 4, 5, 0] rfl)
set_option maxHeartbeats 4000000 in
set_option maxRecDepth 100000 in
theorem mX1_ableFrom {N : Nat} {l : Launch} {D : va_G} {ad : Nat → Nat} {cI cZ : ClassId} {S Sz : SS} {x1 : Int32} {rz : Int32} (h : fX1_ableFrom N S x1 = some (rz, Sz)) : MI l D lyX ad cI cZ yX1_ableFrom cX1_ableFrom 4 (some .int) 0 [.ref (ad 6), .int x1] S rz Sz := by
  refine x_startI RX1 (by decide) rfl (Nat.le_of_ble_eq_true rfl) ?_
  intro p e s m args below meth c A C hw ls hl
  have hx := C.1
  have hb := C.2.1
  have hown := C.2.2.2.1
  have hts := C.2.2.2.2.1
  have hl : lv_has ls 4 [(0, .ref (ad 6)), (1, .int x1)] := hl
  have B4 : ∀ n : Nat, ∀ (S : SS) (x2 x3 : Int32) (H : Heap) (locs : List Loc) (ls : Array Slot), fX1_ableFrom_b4 N n S x2 x3 = some (rz, Sz) → WH D A s.heap lyX ad cI cZ S H locs → lv_has ls 4 [(0, .ref (ad 6)), (2, .int x2), (3, .int x3)] → W p l e (rmK 0) s m args below meth c H locs 0 0 (MQ below (Qi D lyX ad cI cZ A rz Sz) args s 0 0 A) (F0 m 4 ls []) := by
    intro n
    induction n with
    | zero =>
      intro S x2 x3 H locs ls h hw hl
      rw [fX1_ableFrom_b4] at h
      cases h
    | succ n ih4 =>
      intro S x2 x3 H locs ls h hw hl
      rw [fX1_ableFrom_b4] at h
      refine lv_iload_n hx hb dX1_ableFrom_4 rfl (lv_at hl 2 rfl) ?_
      refine lv_aload_n hx hb dX1_ableFrom_5 rfl (lv_at hl 0 rfl) ?_
      refine x_getI C hw gtX1_27 dX1_ableFrom_6 ?_
      refine lv_icmp_ge (tgt := 30) hx hb dX1_ableFrom_9 (by decide) (fun c => ?_) (fun c => ?_)
      · have h := (it_d h).1 c
        refine lv_iload_n hx hb dX1_ableFrom_30 rfl (lv_at hl 1 rfl) ?_
        exact x_iret C hw h dX1_ableFrom_31
      · have h := (it_d h).2 c
        refine lv_aload_n hx hb dX1_ableFrom_12 rfl (lv_at hl 0 rfl) ?_
        refine x_getR C hw gtX1_18 dX1_ableFrom_13 ?_
        refine lv_iload_n hx hb dX1_ableFrom_16 rfl (lv_at hl 2 rfl) ?_
        obtain ⟨v1, hv, h⟩ := bb_some h
        refine x_ald C hw alX_35 hv dX1_ableFrom_17 ?_
        refine lv_if_le (tgt := 24) hx hb dX1_ableFrom_18 (by decide) (fun c => ?_) (fun c => ?_)
        · have h := (it_d h).1 c
          refine lv_iinc (v := (x3 + 1)) (lv' := [(3, .int (x3 + 1)), (0, .ref (ad 6)), (2, .int x2)]) hx hb dX1_ableFrom_24 hl (k := 2) rfl rfl (by decide) rfl (fun ls hl => ?_)
          refine lv_goto (tgt := 4) hx hb dX1_ableFrom_27 (by decide) ?_
          exact ih4 S x2 (x3 + 1) _ _ ls h hw (lv_sub hl [1, 2, 0] rfl)
        · have h := (it_d h).2 c
          refine lv_iinc (v := (x2 + 1)) (lv' := [(2, .int (x2 + 1)), (0, .ref (ad 6)), (3, .int x3)]) hx hb dX1_ableFrom_21 hl (k := 1) rfl rfl (by decide) rfl (fun ls hl => ?_)
          refine lv_iinc (v := (x3 + 1)) (lv' := [(3, .int (x3 + 1)), (2, .int (x2 + 1)), (0, .ref (ad 6))]) hx hb dX1_ableFrom_24 hl (k := 2) rfl rfl (by decide) rfl (fun ls hl => ?_)
          refine lv_goto (tgt := 4) hx hb dX1_ableFrom_27 (by decide) ?_
          exact ih4 S (x2 + 1) (x3 + 1) _ _ ls h hw (lv_sub hl [2, 1, 0] rfl)
  unfold fX1_ableFrom at h
  refine lv_iconst (v := 0) hx hb dX1_ableFrom_0 (by decide) ?_
  refine lv_istore_n (lv' := [(2, .int 0), (0, .ref (ad 6)), (1, .int x1)]) hx hb dX1_ableFrom_1 rfl hl (by decide) rfl (fun ls hl => ?_)
  refine lv_iload_n hx hb dX1_ableFrom_2 rfl (lv_at hl 2 rfl) ?_
  refine lv_istore_n (lv' := [(3, .int x1), (2, .int 0), (0, .ref (ad 6)), (1, .int x1)]) hx hb dX1_ableFrom_3 rfl hl (by decide) rfl (fun ls hl => ?_)
  exact B4 N S 0 x1 _ _ ls h hw (lv_sub hl [2, 1, 0] rfl)
set_option maxHeartbeats 4000000 in
set_option maxRecDepth 100000 in
theorem mX1_add {N : Nat} {l : Launch} {D : va_G} {ad : Nat → Nat} {cI cZ : ClassId} {S Sz : SS} {x1 : Int32} (h : fX1_add N S x1 = some Sz) : MV l D lyX ad cI cZ yX1_add cX1_add 2 0 [.ref (ad 6), .int x1] S Sz := by
  refine x_startV RX1 (by decide) rfl (Nat.le_of_ble_eq_true rfl) ?_
  intro p e s m args below meth c A C hw ls hl
  have hx := C.1
  have hb := C.2.1
  have hown := C.2.2.2.1
  have hts := C.2.2.2.2.1
  have hl : lv_has ls 2 [(0, .ref (ad 6)), (1, .int x1)] := hl
  unfold fX1_add at h
  refine lv_aload_n hx hb dX1_add_0 rfl (lv_at hl 0 rfl) ?_
  refine x_getR C hw gtX1_9 dX1_add_1 ?_
  refine lv_aload_n hx hb dX1_add_4 rfl (lv_at hl 0 rfl) ?_
  refine x_getI C hw gtX1_27 dX1_add_5 ?_
  refine lv_iload_n hx hb dX1_add_8 rfl (lv_at hl 1 rfl) ?_
  obtain ⟨S1, hv, h⟩ := bb_some h
  refine x_ast C hw alX_33 hv dX1_add_9 (fun H locs hw => ?_)
  refine lv_aload_n hx hb dX1_add_10 rfl (lv_at hl 0 rfl) ?_
  refine lv_dup hx hb dX1_add_11 rfl ?_
  refine x_getI C hw gtX1_27 dX1_add_12 ?_
  refine lv_iconst (v := 1) hx hb dX1_add_15 (by decide) ?_
  refine lv_iadd hx hb dX1_add_16 ?_
  obtain ⟨S2, hv, h⟩ := bb_some h
  refine x_putO C hw gpX1_27 hv rfl rfl dX1_add_17 (fun H locs hw => ?_)
  refine lv_aload_n hx hb dX1_add_20 rfl (lv_at hl 0 rfl) ?_
  refine lv_iconst (v := 0) hx hb dX1_add_21 (by decide) ?_
  obtain ⟨S3, hv, h⟩ := bb_some h
  refine x_putO C hw gpX1_31 hv (by decide) (by decide) dX1_add_22 (fun H locs hw => ?_)
  exact x_vret C hw h dX1_add_25
set_option maxHeartbeats 4000000 in
set_option maxRecDepth 100000 in
theorem mX1_clear {N : Nat} {l : Launch} {D : va_G} {ad : Nat → Nat} {cI cZ : ClassId} {S Sz : SS} (h : fX1_clear N S  = some Sz) : MV l D lyX ad cI cZ yX1_clear cX1_clear 1 0 [.ref (ad 6)] S Sz := by
  refine x_startV RX1 (by decide) rfl (Nat.le_of_ble_eq_true rfl) ?_
  intro p e s m args below meth c A C hw ls hl
  have hx := C.1
  have hb := C.2.1
  have hown := C.2.2.2.1
  have hts := C.2.2.2.2.1
  have hl : lv_has ls 1 [(0, .ref (ad 6))] := hl
  unfold fX1_clear at h
  refine lv_aload_n hx hb dX1_clear_0 rfl (lv_at hl 0 rfl) ?_
  refine lv_iconst (v := 0) hx hb dX1_clear_1 (by decide) ?_
  obtain ⟨S1, hv, h⟩ := bb_some h
  refine x_putO C hw gpX1_27 hv rfl rfl dX1_clear_2 (fun H locs hw => ?_)
  refine lv_aload_n hx hb dX1_clear_5 rfl (lv_at hl 0 rfl) ?_
  refine lv_iconst (v := 0) hx hb dX1_clear_6 (by decide) ?_
  obtain ⟨S2, hv, h⟩ := bb_some h
  refine x_putO C hw gpX1_31 hv (by decide) (by decide) dX1_clear_7 (fun H locs hw => ?_)
  exact x_vret C hw h dX1_clear_10
set_option maxHeartbeats 4000000 in
set_option maxRecDepth 100000 in
theorem mX1_fullAhead {N : Nat} {l : Launch} {D : va_G} {ad : Nat → Nat} {cI cZ : ClassId} {S Sz : SS} {x1 x2 : Int32} {rz : Int32} (h : fX1_fullAhead N S x1 x2 = some (rz, Sz)) : MI l D lyX ad cI cZ yX1_fullAhead cX1_fullAhead 7 (some .int) 0 [.ref (ad 6), .int x1, .int x2] S rz Sz := by
  refine x_startI RX1 (by decide) rfl (Nat.le_of_ble_eq_true rfl) ?_
  intro p e s m args below meth c A C hw ls hl
  have hx := C.1
  have hb := C.2.1
  have hown := C.2.2.2.1
  have hts := C.2.2.2.2.1
  have hl : lv_has ls 7 [(0, .ref (ad 6)), (1, .int x1), (2, .int x2)] := hl
  have B62 : ∀ (S : SS) (x2 x3 x4 x5 : Int32) (H : Heap) (locs : List Loc) (ls : Array Slot), fX1_fullAhead_b62 N S x2 x3 x4 x5 = some (rz, Sz) → WH D A s.heap lyX ad cI cZ S H locs → lv_has ls 7 [(2, .int x2), (3, .int x3), (4, .int x4), (5, .int x5)] → W p l e (rmK 0) s m args below meth c H locs 0 0 (MQ below (Qi D lyX ad cI cZ A rz Sz) args s 0 0 A) (F0 m 62 ls []) := by
    intro S x2 x3 x4 x5 H locs ls h hw hl
    unfold fX1_fullAhead_b62 at h
    refine lv_iload_n hx hb dX1_fullAhead_62 rfl (lv_at hl 0 rfl) ?_
    rcases Decidable.em (x2 = 1) with c1 | c1
    · have h := (it_d h).1 c1
      refine lv_tableIn (off := 25) (tgt := 88) hx hb dX1_fullAhead_63 (by rw [c1]; decide) (by rw [c1]; decide) (by rw [c1]; decide) (by decide) ?_
      refine lv_iload_n hx hb dX1_fullAhead_88 rfl (lv_at hl 1 rfl) ?_
      exact x_iret C hw h dX1_fullAhead_89
    · have h := (it_d h).2 c1
      rcases Decidable.em (x2 = 2) with c2 | c2
      · have h := (it_d h).1 c2
        refine lv_tableIn (off := 27) (tgt := 90) hx hb dX1_fullAhead_63 (by rw [c2]; decide) (by rw [c2]; decide) (by rw [c2]; decide) (by decide) ?_
        refine lv_iload hx hb dX1_fullAhead_90 (lv_at hl 2 rfl) ?_
        exact x_iret C hw h dX1_fullAhead_92
      · have h := (it_d h).2 c2
        rcases Decidable.em (x2 = 3) with c3 | c3
        · have h := (it_d h).1 c3
          refine lv_tableIn (off := 30) (tgt := 93) hx hb dX1_fullAhead_63 (by rw [c3]; decide) (by rw [c3]; decide) (by rw [c3]; decide) (by decide) ?_
          refine lv_iload hx hb dX1_fullAhead_93 (lv_at hl 3 rfl) ?_
          exact x_iret C hw h dX1_fullAhead_95
        · have h := (it_d h).2 c3
          have hsw : (x2 : Int32).toInt < 1 ∨ 3 < (x2 : Int32).toInt := by
            have z1 := ne_ti c1
            have z2 := ne_ti c2
            have z3 := ne_ti c3
            simp only [show (1 : Int32).toInt = 1 from rfl, show (2 : Int32).toInt = 2 from rfl, show (3 : Int32).toInt = 3 from rfl] at z1 z2 z3
            omega
          refine lv_tableOut (tgt := 96) hx hb dX1_fullAhead_63 hsw (by decide) ?_
          refine lv_iconst (v := 0) hx hb dX1_fullAhead_96 (by decide) ?_
          exact x_iret C hw h dX1_fullAhead_97
  have B11 : ∀ n : Nat, ∀ (S : SS) (x1 x2 x3 x4 x5 x6 : Int32) (H : Heap) (locs : List Loc) (ls : Array Slot), fX1_fullAhead_b11 N n S x1 x2 x3 x4 x5 x6 = some (rz, Sz) → WH D A s.heap lyX ad cI cZ S H locs → lv_has ls 7 [(0, .ref (ad 6)), (1, .int x1), (2, .int x2), (3, .int x3), (4, .int x4), (5, .int x5), (6, .int x6)] → W p l e (rmK 0) s m args below meth c H locs 0 0 (MQ below (Qi D lyX ad cI cZ A rz Sz) args s 0 0 A) (F0 m 11 ls []) := by
    intro n
    induction n with
    | zero =>
      intro S x1 x2 x3 x4 x5 x6 H locs ls h hw hl
      rw [fX1_fullAhead_b11] at h
      cases h
    | succ n ih11 =>
      intro S x1 x2 x3 x4 x5 x6 H locs ls h hw hl
      rw [fX1_fullAhead_b11] at h
      refine lv_iload hx hb dX1_fullAhead_11 (lv_at hl 6 rfl) ?_
      refine lv_iload_n hx hb dX1_fullAhead_13 rfl (lv_at hl 1 rfl) ?_
      refine lv_icmp_ge (tgt := 62) hx hb dX1_fullAhead_14 (by decide) (fun c => ?_) (fun c => ?_)
      · have h := (it_d h).1 c
        exact B62 S x2 x3 x4 x5 _ _ ls h hw (lv_sub hl [2, 3, 4, 5] rfl)
      · have h := (it_d h).2 c
        refine lv_iload hx hb dX1_fullAhead_17 (lv_at hl 5 rfl) ?_
        refine lv_iload hx hb dX1_fullAhead_19 (lv_at hl 4 rfl) ?_
        refine lv_aload_n hx hb dX1_fullAhead_21 rfl (lv_at hl 0 rfl) ?_
        refine x_getR C hw gtX1_21 dX1_fullAhead_22 ?_
        refine lv_iload hx hb dX1_fullAhead_25 (lv_at hl 6 rfl) ?_
        obtain ⟨v1, hv, h⟩ := bb_some h
        refine x_ald C hw alX_36 hv dX1_fullAhead_27 ?_
        refine lv_iand hx hb dX1_fullAhead_28 ?_
        refine lv_ior hx hb dX1_fullAhead_29 ?_
        refine lv_istore (lv' := [(5, .int (x5 ||| (x4 &&& v1))), (0, .ref (ad 6)), (1, .int x1), (2, .int x2), (3, .int x3), (4, .int x4), (6, .int x6)]) hx hb dX1_fullAhead_30 hl (by decide) rfl (fun ls hl => ?_)
        refine lv_iload hx hb dX1_fullAhead_32 (lv_at hl 5 rfl) ?_
        refine lv_iload_n hx hb dX1_fullAhead_34 rfl (lv_at hl 4 rfl) ?_
        refine lv_aload_n hx hb dX1_fullAhead_35 rfl (lv_at hl 1 rfl) ?_
        refine x_getR C hw gtX1_21 dX1_fullAhead_36 ?_
        refine lv_iload hx hb dX1_fullAhead_39 (lv_at hl 6 rfl) ?_
        obtain ⟨v2, hv, h⟩ := bb_some h
        refine x_ald C hw alX_36 hv dX1_fullAhead_41 ?_
        refine lv_iand hx hb dX1_fullAhead_42 ?_
        refine lv_ior hx hb dX1_fullAhead_43 ?_
        refine lv_istore (lv' := [(4, .int (x4 ||| (x3 &&& v2))), (5, .int (x5 ||| (x4 &&& v1))), (0, .ref (ad 6)), (1, .int x1), (2, .int x2), (3, .int x3), (6, .int x6)]) hx hb dX1_fullAhead_44 hl (by decide) rfl (fun ls hl => ?_)
        refine lv_iload_n hx hb dX1_fullAhead_46 rfl (lv_at hl 5 rfl) ?_
        refine lv_aload_n hx hb dX1_fullAhead_47 rfl (lv_at hl 2 rfl) ?_
        refine x_getR C hw gtX1_21 dX1_fullAhead_48 ?_
        refine lv_iload hx hb dX1_fullAhead_51 (lv_at hl 6 rfl) ?_
        obtain ⟨v3, hv, h⟩ := bb_some h
        refine x_ald C hw alX_36 hv dX1_fullAhead_53 ?_
        refine lv_ior hx hb dX1_fullAhead_54 ?_
        refine lv_istore_n (lv' := [(3, .int (x3 ||| v3)), (4, .int (x4 ||| (x3 &&& v2))), (5, .int (x5 ||| (x4 &&& v1))), (0, .ref (ad 6)), (1, .int x1), (2, .int x2), (6, .int x6)]) hx hb dX1_fullAhead_55 rfl hl (by decide) rfl (fun ls hl => ?_)
        refine lv_iinc (v := (x6 + 1)) (lv' := [(6, .int (x6 + 1)), (3, .int (x3 ||| v3)), (4, .int (x4 ||| (x3 &&& v2))), (5, .int (x5 ||| (x4 &&& v1))), (0, .ref (ad 6)), (1, .int x1), (2, .int x2)]) hx hb dX1_fullAhead_56 hl (k := 6) rfl rfl (by decide) rfl (fun ls hl => ?_)
        refine lv_goto (tgt := 11) hx hb dX1_fullAhead_59 (by decide) ?_
        exact ih11 S x1 x2 (x3 ||| v3) (x4 ||| (x3 &&& v2)) (x5 ||| (x4 &&& v1)) (x6 + 1) _ _ ls h hw (lv_sub hl [4, 5, 6, 1, 2, 3, 0] rfl)
  unfold fX1_fullAhead at h
  refine lv_iconst (v := 0) hx hb dX1_fullAhead_0 (by decide) ?_
  refine lv_istore_n (lv' := [(3, .int 0), (0, .ref (ad 6)), (1, .int x1), (2, .int x2)]) hx hb dX1_fullAhead_1 rfl hl (by decide) rfl (fun ls hl => ?_)
  refine lv_iconst (v := 0) hx hb dX1_fullAhead_2 (by decide) ?_
  refine lv_istore (lv' := [(4, .int 0), (3, .int 0), (0, .ref (ad 6)), (1, .int x1), (2, .int x2)]) hx hb dX1_fullAhead_3 hl (by decide) rfl (fun ls hl => ?_)
  refine lv_iconst (v := 0) hx hb dX1_fullAhead_5 (by decide) ?_
  refine lv_istore (lv' := [(5, .int 0), (4, .int 0), (3, .int 0), (0, .ref (ad 6)), (1, .int x1), (2, .int x2)]) hx hb dX1_fullAhead_6 hl (by decide) rfl (fun ls hl => ?_)
  refine lv_iconst (v := 0) hx hb dX1_fullAhead_8 (by decide) ?_
  refine lv_istore (lv' := [(6, .int 0), (5, .int 0), (4, .int 0), (3, .int 0), (0, .ref (ad 6)), (1, .int x1), (2, .int x2)]) hx hb dX1_fullAhead_9 hl (by decide) rfl (fun ls hl => ?_)
  exact B11 N S x1 x2 0 0 0 0 _ _ ls h hw (lv_sub hl [4, 5, 6, 3, 2, 1, 0] rfl)
set_option maxHeartbeats 4000000 in
set_option maxRecDepth 100000 in
theorem mX1_holds {N : Nat} {l : Launch} {D : va_G} {ad : Nat → Nat} {cI cZ : ClassId} {S Sz : SS} {x1 : Int32} {rz : Int32} (h : fX1_holds N S x1 = some (rz, Sz)) : MI l D lyX ad cI cZ yX1_holds cX1_holds 3 (some .boolean) 0 [.ref (ad 6), .int x1] S rz Sz := by
  refine x_startI RX1 (by decide) rfl (Nat.le_of_ble_eq_true rfl) ?_
  intro p e s m args below meth c A C hw ls hl
  have hx := C.1
  have hb := C.2.1
  have hown := C.2.2.2.1
  have hts := C.2.2.2.2.1
  have hl : lv_has ls 3 [(0, .ref (ad 6)), (1, .int x1)] := hl
  have B2 : ∀ n : Nat, ∀ (S : SS) (x1 x2 : Int32) (H : Heap) (locs : List Loc) (ls : Array Slot), fX1_holds_b2 N n S x1 x2 = some (rz, Sz) → WH D A s.heap lyX ad cI cZ S H locs → lv_has ls 3 [(0, .ref (ad 6)), (1, .int x1), (2, .int x2)] → W p l e (rmK 0) s m args below meth c H locs 0 0 (MQ below (Qi D lyX ad cI cZ A rz Sz) args s 0 0 A) (F0 m 2 ls []) := by
    intro n
    induction n with
    | zero =>
      intro S x1 x2 H locs ls h hw hl
      rw [fX1_holds_b2] at h
      cases h
    | succ n ih2 =>
      intro S x1 x2 H locs ls h hw hl
      rw [fX1_holds_b2] at h
      refine lv_iload_n hx hb dX1_holds_2 rfl (lv_at hl 2 rfl) ?_
      refine lv_aload_n hx hb dX1_holds_3 rfl (lv_at hl 0 rfl) ?_
      refine x_getI C hw gtX1_27 dX1_holds_4 ?_
      refine lv_icmp_ge (tgt := 28) hx hb dX1_holds_7 (by decide) (fun c => ?_) (fun c => ?_)
      · have h := (it_d h).1 c
        refine lv_iconst (v := 0) hx hb dX1_holds_28 (by decide) ?_
        exact x_zret C hw h dX1_holds_29
      · have h := (it_d h).2 c
        refine lv_aload_n hx hb dX1_holds_10 rfl (lv_at hl 0 rfl) ?_
        refine x_getR C hw gtX1_9 dX1_holds_11 ?_
        refine lv_iload_n hx hb dX1_holds_14 rfl (lv_at hl 2 rfl) ?_
        obtain ⟨v1, hv, h⟩ := bb_some h
        refine x_ald C hw alX_33 hv dX1_holds_15 ?_
        refine lv_iload_n hx hb dX1_holds_16 rfl (lv_at hl 1 rfl) ?_
        refine lv_icmp_ne (tgt := 22) hx hb dX1_holds_17 (by decide) (fun c => ?_) (fun c => ?_)
        · have h := (it_d h).2 c
          refine lv_iinc (v := (x2 + 1)) (lv' := [(2, .int (x2 + 1)), (0, .ref (ad 6)), (1, .int x1)]) hx hb dX1_holds_22 hl (k := 2) rfl rfl (by decide) rfl (fun ls hl => ?_)
          refine lv_goto (tgt := 2) hx hb dX1_holds_25 (by decide) ?_
          exact ih2 S x1 (x2 + 1) _ _ ls h hw (lv_sub hl [1, 2, 0] rfl)
        · have h := (it_d h).1 c
          refine lv_iconst (v := 1) hx hb dX1_holds_20 (by decide) ?_
          exact x_zret C hw h dX1_holds_21
  unfold fX1_holds at h
  refine lv_iconst (v := 0) hx hb dX1_holds_0 (by decide) ?_
  refine lv_istore_n (lv' := [(2, .int 0), (0, .ref (ad 6)), (1, .int x1)]) hx hb dX1_holds_1 rfl hl (by decide) rfl (fun ls hl => ?_)
  exact B2 N S x1 0 _ _ ls h hw (lv_sub hl [1, 2, 0] rfl)
set_option maxHeartbeats 4000000 in
set_option maxRecDepth 100000 in
theorem mX1_listPanels {N : Nat} {l : Launch} {D : va_G} {ad : Nat → Nat} {cI cZ : ClassId} {S Sz : SS} {x1 x2 : Int32} (h : fX1_listPanels N S x1 x2 = some Sz) : MV l D lyX ad cI cZ yX1_listPanels cX1_listPanels 7 0 [.ref (ad 6), .int x1, .int x2] S Sz := by
  refine x_startV RX1 (by decide) rfl (Nat.le_of_ble_eq_true rfl) ?_
  intro p e s m args below meth c A C hw ls hl
  have hx := C.1
  have hb := C.2.1
  have hown := C.2.2.2.1
  have hts := C.2.2.2.2.1
  have hl : lv_has ls 7 [(0, .ref (ad 6)), (1, .int x1), (2, .int x2)] := hl
  have B2 : ∀ n : Nat, ∀ (S : SS) (x1 x2 x3 : Int32) (H : Heap) (locs : List Loc) (ls : Array Slot), fX1_listPanels_b2 N n S x1 x2 x3 = some Sz → WH D A s.heap lyX ad cI cZ S H locs → lv_has ls 7 [(0, .ref (ad 6)), (1, .int x1), (2, .int x2), (3, .int x3)] → W p l e (rmK 0) s m args below meth c H locs 0 0 (MQ below (Qv D lyX ad cI cZ A Sz) args s 0 0 A) (F0 m 2 ls []) := by
    intro n
    induction n with
    | zero =>
      intro S x1 x2 x3 H locs ls h hw hl
      rw [fX1_listPanels_b2] at h
      cases h
    | succ n2 ih2 =>
      have B10 : ∀ n : Nat, ∀ (S : SS) (x1 x2 x3 x4 : Int32) (H : Heap) (locs : List Loc) (ls : Array Slot), fX1_listPanels_b10 N (fun S x1 x2 x3 => fX1_listPanels_b2 N n2 S x1 x2 x3) n S x1 x2 x3 x4 = some Sz → WH D A s.heap lyX ad cI cZ S H locs → lv_has ls 7 [(0, .ref (ad 6)), (1, .int x1), (2, .int x2), (3, .int x3), (4, .int x4)] → W p l e (rmK 0) s m args below meth c H locs 0 0 (MQ below (Qv D lyX ad cI cZ A Sz) args s 0 0 A) (F0 m 10 ls []) := by
        intro n
        induction n with
        | zero =>
          intro S x1 x2 x3 x4 H locs ls h hw hl
          rw [fX1_listPanels_b10] at h
          cases h
        | succ n10 ih10 =>
          have B19 : ∀ n : Nat, ∀ (S : SS) (x1 x2 x3 x4 x5 : Int32) (H : Heap) (locs : List Loc) (ls : Array Slot), fX1_listPanels_b19 N (fun S x1 x2 x3 => fX1_listPanels_b2 N n2 S x1 x2 x3) (fun S x1 x2 x3 x4 => fX1_listPanels_b10 N (fun S x1 x2 x3 => fX1_listPanels_b2 N n2 S x1 x2 x3) n10 S x1 x2 x3 x4) n S x1 x2 x3 x4 x5 = some Sz → WH D A s.heap lyX ad cI cZ S H locs → lv_has ls 7 [(0, .ref (ad 6)), (1, .int x1), (2, .int x2), (3, .int x3), (4, .int x4), (5, .int x5)] → W p l e (rmK 0) s m args below meth c H locs 0 0 (MQ below (Qv D lyX ad cI cZ A Sz) args s 0 0 A) (F0 m 19 ls []) := by
            intro n
            induction n with
            | zero =>
              intro S x1 x2 x3 x4 x5 H locs ls h hw hl
              rw [fX1_listPanels_b19] at h
              cases h
            | succ n ih19 =>
              intro S x1 x2 x3 x4 x5 H locs ls h hw hl
              rw [fX1_listPanels_b19] at h
              refine lv_iload hx hb dX1_listPanels_19 (lv_at hl 5 rfl) ?_
              refine lv_iload hx hb dX1_listPanels_21 (lv_at hl 4 rfl) ?_
              refine lv_icmp_ge (tgt := 90) hx hb dX1_listPanels_23 (by decide) (fun c => ?_) (fun c => ?_)
              · have h := (it_d h).1 c
                refine lv_iinc (v := (x4 + 1)) (lv' := [(4, .int (x4 + 1)), (0, .ref (ad 6)), (1, .int x1), (2, .int x2), (3, .int x3), (5, .int x5)]) hx hb dX1_listPanels_90 hl (k := 4) rfl rfl (by decide) rfl (fun ls hl => ?_)
                refine lv_goto (tgt := 10) hx hb dX1_listPanels_93 (by decide) ?_
                exact ih10 S x1 x2 x3 (x4 + 1) _ _ ls h hw (lv_sub hl [1, 2, 3, 4, 0] rfl)
              · have h := (it_d h).2 c
                refine lv_iconst (v := 1) hx hb dX1_listPanels_26 (by decide) ?_
                refine lv_aload_n hx hb dX1_listPanels_27 rfl (lv_at hl 0 rfl) ?_
                refine x_getR C hw gtX1_24 dX1_listPanels_28 ?_
                refine lv_iload hx hb dX1_listPanels_31 (lv_at hl 5 rfl) ?_
                obtain ⟨v1, hv, h⟩ := bb_some h
                refine x_ald C hw alX_37 hv dX1_listPanels_33 ?_
                refine lv_ishl hx hb dX1_listPanels_34 ?_
                refine lv_iconst (v := 1) hx hb dX1_listPanels_35 (by decide) ?_
                refine lv_aload_n hx hb dX1_listPanels_36 rfl (lv_at hl 0 rfl) ?_
                refine x_getR C hw gtX1_24 dX1_listPanels_37 ?_
                refine lv_iload hx hb dX1_listPanels_40 (lv_at hl 4 rfl) ?_
                obtain ⟨v2, hv, h⟩ := bb_some h
                refine x_ald C hw alX_37 hv dX1_listPanels_42 ?_
                refine lv_ishl hx hb dX1_listPanels_43 ?_
                refine lv_ior hx hb dX1_listPanels_44 ?_
                refine lv_iconst (v := 1) hx hb dX1_listPanels_45 (by decide) ?_
                refine lv_aload_n hx hb dX1_listPanels_46 rfl (lv_at hl 0 rfl) ?_
                refine x_getR C hw gtX1_24 dX1_listPanels_47 ?_
                refine lv_iload_n hx hb dX1_listPanels_50 rfl (lv_at hl 3 rfl) ?_
                obtain ⟨v3, hv, h⟩ := bb_some h
                refine x_ald C hw alX_37 hv dX1_listPanels_51 ?_
                refine lv_ishl hx hb dX1_listPanels_52 ?_
                refine lv_ior hx hb dX1_listPanels_53 ?_
                obtain ⟨w1, hv, h⟩ := bb_some h
                refine x_nm hv ?_
                refine lv_istore (lv' := [(6, .int w1), (0, .ref (ad 6)), (1, .int x1), (2, .int x2), (3, .int x3), (4, .int x4), (5, .int x5)]) hx hb dX1_listPanels_54 hl (by decide) rfl (fun ls hl => ?_)
                refine lv_aload_n hx hb dX1_listPanels_56 rfl (lv_at hl 1 rfl) ?_
                refine x_getR C hw gtX1_15 dX1_listPanels_57 ?_
                refine lv_iload_n hx hb dX1_listPanels_60 rfl (lv_at hl 2 rfl) ?_
                refine lv_bipush (v := 20) hx hb dX1_listPanels_61 (by decide) ?_
                refine lv_imul hx hb dX1_listPanels_63 ?_
                refine lv_aload_n hx hb dX1_listPanels_64 rfl (lv_at hl 1 rfl) ?_
                refine x_getR C hw gtX1_18 dX1_listPanels_65 ?_
                refine lv_iload_n hx hb dX1_listPanels_68 rfl (lv_at hl 2 rfl) ?_
                obtain ⟨v4, hv, h⟩ := bb_some h
                refine x_ald C hw alX_35 hv dX1_listPanels_69 ?_
                refine lv_iadd hx hb dX1_listPanels_70 ?_
                refine lv_iload hx hb dX1_listPanels_71 (lv_at hl 0 rfl) ?_
                obtain ⟨S1, hv, h⟩ := bb_some h
                refine x_ast C hw alX_34 hv dX1_listPanels_73 (fun H locs hw => ?_)
                refine lv_aload_n hx hb dX1_listPanels_74 rfl (lv_at hl 1 rfl) ?_
                refine x_getR C hw gtX1_18 dX1_listPanels_75 ?_
                refine lv_iload_n hx hb dX1_listPanels_78 rfl (lv_at hl 2 rfl) ?_
                refine lv_dup2_11 hx hb dX1_listPanels_79 rfl rfl ?_
                obtain ⟨v5, hv, h⟩ := bb_some h
                refine x_ald C hw alX_35 hv dX1_listPanels_80 ?_
                refine lv_iconst (v := 1) hx hb dX1_listPanels_81 (by decide) ?_
                refine lv_iadd hx hb dX1_listPanels_82 ?_
                obtain ⟨S2, hv, h⟩ := bb_some h
                refine x_ast C hw alX_35 hv dX1_listPanels_83 (fun H locs hw => ?_)
                refine lv_iinc (v := (x5 + 1)) (lv' := [(5, .int (x5 + 1)), (6, .int w1), (0, .ref (ad 6)), (1, .int x1), (2, .int x2), (3, .int x3), (4, .int x4)]) hx hb dX1_listPanels_84 hl (k := 6) rfl rfl (by decide) rfl (fun ls hl => ?_)
                refine lv_goto (tgt := 19) hx hb dX1_listPanels_87 (by decide) ?_
                exact ih19 S2 x1 x2 x3 x4 (x5 + 1) _ _ ls h hw (lv_sub hl [2, 3, 4, 5, 6, 0] rfl)
          intro S x1 x2 x3 x4 H locs ls h hw hl
          rw [fX1_listPanels_b10] at h
          refine lv_iload hx hb dX1_listPanels_10 (lv_at hl 4 rfl) ?_
          refine lv_iload_n hx hb dX1_listPanels_12 rfl (lv_at hl 3 rfl) ?_
          refine lv_icmp_ge (tgt := 96) hx hb dX1_listPanels_13 (by decide) (fun c => ?_) (fun c => ?_)
          · have h := (it_d h).1 c
            refine lv_iinc (v := (x3 + 1)) (lv' := [(3, .int (x3 + 1)), (0, .ref (ad 6)), (1, .int x1), (2, .int x2), (4, .int x4)]) hx hb dX1_listPanels_96 hl (k := 3) rfl rfl (by decide) rfl (fun ls hl => ?_)
            refine lv_goto (tgt := 2) hx hb dX1_listPanels_99 (by decide) ?_
            exact ih2 S x1 x2 (x3 + 1) _ _ ls h hw (lv_sub hl [1, 2, 3, 0] rfl)
          · have h := (it_d h).2 c
            refine lv_iconst (v := 0) hx hb dX1_listPanels_16 (by decide) ?_
            refine lv_istore (lv' := [(5, .int 0), (0, .ref (ad 6)), (1, .int x1), (2, .int x2), (3, .int x3), (4, .int x4)]) hx hb dX1_listPanels_17 hl (by decide) rfl (fun ls hl => ?_)
            exact B19 N S x1 x2 x3 x4 0 _ _ ls h hw (lv_sub hl [1, 2, 3, 4, 5, 0] rfl)
      intro S x1 x2 x3 H locs ls h hw hl
      rw [fX1_listPanels_b2] at h
      refine lv_iload_n hx hb dX1_listPanels_2 rfl (lv_at hl 3 rfl) ?_
      refine lv_iload_n hx hb dX1_listPanels_3 rfl (lv_at hl 2 rfl) ?_
      refine lv_icmp_ge (tgt := 102) hx hb dX1_listPanels_4 (by decide) (fun c => ?_) (fun c => ?_)
      · have h := (it_d h).1 c
        exact x_vret C hw h dX1_listPanels_102
      · have h := (it_d h).2 c
        refine lv_iconst (v := 1) hx hb dX1_listPanels_7 (by decide) ?_
        refine lv_istore (lv' := [(4, .int 1), (0, .ref (ad 6)), (1, .int x1), (2, .int x2), (3, .int x3)]) hx hb dX1_listPanels_8 hl (by decide) rfl (fun ls hl => ?_)
        exact B10 N S x1 x2 x3 1 _ _ ls h hw (lv_sub hl [1, 2, 3, 4, 0] rfl)
  unfold fX1_listPanels at h
  refine lv_iconst (v := 2) hx hb dX1_listPanels_0 (by decide) ?_
  refine lv_istore_n (lv' := [(3, .int 2), (0, .ref (ad 6)), (1, .int x1), (2, .int x2)]) hx hb dX1_listPanels_1 rfl hl (by decide) rfl (fun ls hl => ?_)
  exact B2 N S x1 x2 2 _ _ ls h hw (lv_sub hl [1, 2, 3, 0] rfl)
set_option maxHeartbeats 4000000 in
set_option maxRecDepth 100000 in
theorem mX1_listOptions {N : Nat} {l : Launch} {D : va_G} {ad : Nat → Nat} {cI cZ : ClassId} {S Sz : SS} {x2 x3 x4 : Int32} (h : fX1_listOptions N S x2 x3 x4 = some Sz) : MV l D lyX ad cI cZ yX1_listOptions cX1_listOptions 10 3 [.ref (ad 6), .ref (ad 1), .int x2, .int x3, .int x4] S Sz := by
  refine x_startV RX1 (by decide) rfl (Nat.le_of_ble_eq_true rfl) ?_
  intro p e s m args below meth c A C hw ls hl
  have hx := C.1
  have hb := C.2.1
  have hown := C.2.2.2.1
  have hts := C.2.2.2.2.1
  have hl : lv_has ls 10 [(0, .ref (ad 6)), (1, .ref (ad 1)), (2, .int x2), (3, .int x3), (4, .int x4)] := hl
  have B132 : ∀ (S : SS) (x2 x8 : Int32) (H : Heap) (locs : List Loc) (ls : Array Slot), fX1_listOptions_b132 N S x2 x8 = some Sz → WH D A s.heap lyX ad cI cZ S H locs → lv_has ls 10 [(0, .ref (ad 6)), (2, .int x2), (8, .int x8)] → W p l e (rmK 3) s m args below meth c H locs 0 0 (MQ below (Qv D lyX ad cI cZ A Sz) args s 0 0 A) (F0 m 132 ls []) := by
    intro S x2 x8 H locs ls h hw hl
    unfold fX1_listOptions_b132 at h
    refine lv_aload_n hx hb dX1_listOptions_132 rfl (lv_at hl 0 rfl) ?_
    refine lv_iload_n hx hb dX1_listOptions_133 rfl (lv_at hl 1 rfl) ?_
    refine lv_iload hx hb dX1_listOptions_134 (lv_at hl 2 rfl) ?_
    obtain ⟨S1, hv, h⟩ := bb_some h
    refine x_callVV C hw (mX1_listPanels hv) lkX1_88 rfl (Nat.le_of_ble_eq_true rfl) hl.1 rfl (Nat.le_of_ble_eq_true rfl) dX1_listOptions_136 (fun H locs hw => ?_)
    exact x_vret C hw h dX1_listOptions_139
  have B71 : ∀ n : Nat, ∀ (S : SS) (x2 x3 x4 x5 x7 x8 x9 : Int32) (H : Heap) (locs : List Loc) (ls : Array Slot), fX1_listOptions_b71 N n S x2 x3 x4 x5 x7 x8 x9 = some Sz → WH D A s.heap lyX ad cI cZ S H locs → lv_has ls 10 [(0, .ref (ad 6)), (1, .ref (ad 1)), (2, .int x2), (3, .int x3), (4, .int x4), (5, .int x5), (7, .int x7), (8, .int x8), (9, .int x9)] → W p l e (rmK 3) s m args below meth c H locs 0 0 (MQ below (Qv D lyX ad cI cZ A Sz) args s 0 0 A) (F0 m 71 ls []) := by
    intro n
    induction n with
    | zero =>
      intro S x2 x3 x4 x5 x7 x8 x9 H locs ls h hw hl
      rw [fX1_listOptions_b71] at h
      cases h
    | succ n ih71 =>
      intro S x2 x3 x4 x5 x7 x8 x9 H locs ls h hw hl
      rw [fX1_listOptions_b71] at h
      refine lv_iload hx hb dX1_listOptions_71 (lv_at hl 8 rfl) ?_
      refine lv_aload_n hx hb dX1_listOptions_73 rfl (lv_at hl 1 rfl) ?_
      refine x_getR C hw gtX1_74 dX1_listOptions_74 ?_
      refine x_getI C hw gtX1_78 dX1_listOptions_77 ?_
      refine lv_icmp_ge (tgt := 132) hx hb dX1_listOptions_80 (by decide) (fun c => ?_) (fun c => ?_)
      · have h := (it_d h).1 c
        exact B132 S x2 x8 _ _ ls h hw (lv_sub hl [0, 2, 7] rfl)
      · have h := (it_d h).2 c
        refine lv_iload hx hb dX1_listOptions_83 (lv_at hl 7 rfl) ?_
        refine lv_bipush (v := 6) hx hb dX1_listOptions_85 (by decide) ?_
        refine lv_icmp_ge (tgt := 126) hx hb dX1_listOptions_87 (by decide) (fun c => ?_) (fun c => ?_)
        · have h := (it_d h).1 c
          refine lv_iinc (v := (x9 + 1)) (lv' := [(9, .int (x9 + 1)), (0, .ref (ad 6)), (1, .ref (ad 1)), (2, .int x2), (3, .int x3), (4, .int x4), (5, .int x5), (7, .int x7), (8, .int x8)]) hx hb dX1_listOptions_126 hl (k := 8) rfl rfl (by decide) rfl (fun ls hl => ?_)
          refine lv_goto (tgt := 71) hx hb dX1_listOptions_129 (by decide) ?_
          exact ih71 S x2 x3 x4 x5 x7 x8 (x9 + 1) _ _ ls h hw (lv_sub hl [1, 2, 3, 4, 5, 6, 7, 8, 0] rfl)
        · have h := (it_d h).2 c
          refine lv_aload_n hx hb dX1_listOptions_90 rfl (lv_at hl 1 rfl) ?_
          refine lv_iload hx hb dX1_listOptions_91 (lv_at hl 5 rfl) ?_
          refine lv_iload_n hx hb dX1_listOptions_93 rfl (lv_at hl 3 rfl) ?_
          refine lv_iload hx hb dX1_listOptions_94 (lv_at hl 4 rfl) ?_
          refine lv_iload hx hb dX1_listOptions_96 (lv_at hl 8 rfl) ?_
          refine lv_aload_n hx hb dX1_listOptions_98 rfl (lv_at hl 1 rfl) ?_
          refine x_getR C hw gtX1_61 dX1_listOptions_99 ?_
          refine x_getR C hw gtX1_81 dX1_listOptions_102 ?_
          refine lv_iload hx hb dX1_listOptions_105 (lv_at hl 6 rfl) ?_
          obtain ⟨v1, hv, h⟩ := bb_some h
          refine x_ald C hw alX_20 hv dX1_listOptions_107 ?_
          obtain ⟨r1, S1, hv, h⟩ := b2_some h
          refine x_callVI C hw (mX0_whyNoJudge hv) lkX1_84 rfl (Nat.le_of_ble_eq_true rfl) hl.1 rfl (Nat.le_of_ble_eq_true rfl) dX1_listOptions_108 (fun H locs hw => ?_)
          refine lv_if_ne (tgt := 126) hx hb dX1_listOptions_111 (by decide) (fun c => ?_) (fun c => ?_)
          · have h := (it_d h).2 c
            refine lv_iinc (v := (x9 + 1)) (lv' := [(9, .int (x9 + 1)), (0, .ref (ad 6)), (1, .ref (ad 1)), (2, .int x2), (3, .int x3), (4, .int x4), (5, .int x5), (7, .int x7), (8, .int x8)]) hx hb dX1_listOptions_126 hl (k := 8) rfl rfl (by decide) rfl (fun ls hl => ?_)
            refine lv_goto (tgt := 71) hx hb dX1_listOptions_129 (by decide) ?_
            exact ih71 S1 x2 x3 x4 x5 x7 x8 (x9 + 1) _ _ ls h hw (lv_sub hl [1, 2, 3, 4, 5, 6, 7, 8, 0] rfl)
          · have h := (it_d h).1 c
            refine lv_aload_n hx hb dX1_listOptions_114 rfl (lv_at hl 0 rfl) ?_
            refine x_getR C hw gtX1_24 dX1_listOptions_115 ?_
            refine lv_iload hx hb dX1_listOptions_118 (lv_at hl 7 rfl) ?_
            refine lv_iload hx hb dX1_listOptions_120 (lv_at hl 8 rfl) ?_
            obtain ⟨S2, hv, h⟩ := bb_some h
            refine x_ast C hw alX_37 hv dX1_listOptions_122 (fun H locs hw => ?_)
            refine lv_iinc (v := (x8 + 1)) (lv' := [(8, .int (x8 + 1)), (0, .ref (ad 6)), (1, .ref (ad 1)), (2, .int x2), (3, .int x3), (4, .int x4), (5, .int x5), (7, .int x7), (9, .int x9)]) hx hb dX1_listOptions_123 hl (k := 7) rfl rfl (by decide) rfl (fun ls hl => ?_)
            refine lv_iinc (v := (x9 + 1)) (lv' := [(9, .int (x9 + 1)), (8, .int (x8 + 1)), (0, .ref (ad 6)), (1, .ref (ad 1)), (2, .int x2), (3, .int x3), (4, .int x4), (5, .int x5), (7, .int x7)]) hx hb dX1_listOptions_126 hl (k := 8) rfl rfl (by decide) rfl (fun ls hl => ?_)
            refine lv_goto (tgt := 71) hx hb dX1_listOptions_129 (by decide) ?_
            exact ih71 S2 x2 x3 x4 x5 x7 (x8 + 1) (x9 + 1) _ _ ls h hw (lv_sub hl [2, 3, 4, 5, 6, 7, 8, 1, 0] rfl)
  unfold fX1_listOptions at h
  refine lv_aload_n hx hb dX1_listOptions_0 rfl (lv_at hl 0 rfl) ?_
  refine x_getR C hw gtX1_18 dX1_listOptions_1 ?_
  refine lv_iload_n hx hb dX1_listOptions_4 rfl (lv_at hl 2 rfl) ?_
  refine lv_iconst (v := 0) hx hb dX1_listOptions_5 (by decide) ?_
  obtain ⟨S1, hv, h⟩ := bb_some h
  refine x_ast C hw alX_35 hv dX1_listOptions_6 (fun H locs hw => ?_)
  refine lv_aload_n hx hb dX1_listOptions_7 rfl (lv_at hl 0 rfl) ?_
  refine x_getR C hw gtX1_9 dX1_listOptions_8 ?_
  refine lv_iload_n hx hb dX1_listOptions_11 rfl (lv_at hl 2 rfl) ?_
  obtain ⟨v1, hv, h⟩ := bb_some h
  refine x_ald C hw alX_33 hv dX1_listOptions_12 ?_
  refine lv_istore (lv' := [(5, .int v1), (0, .ref (ad 6)), (1, .ref (ad 1)), (2, .int x2), (3, .int x3), (4, .int x4)]) hx hb dX1_listOptions_13 hl (by decide) rfl (fun ls hl => ?_)
  refine lv_aload_n hx hb dX1_listOptions_15 rfl (lv_at hl 2 rfl) ?_
  refine x_getR C hw gtX1_49 dX1_listOptions_16 ?_
  refine lv_iload hx hb dX1_listOptions_19 (lv_at hl 0 rfl) ?_
  refine lv_iload_n hx hb dX1_listOptions_21 rfl (lv_at hl 4 rfl) ?_
  refine lv_iload hx hb dX1_listOptions_22 (lv_at hl 5 rfl) ?_
  obtain ⟨r1, S2, hv, h⟩ := b2_some h
  refine x_callVI C hw (mX2_heldOn hv) lkX1_55 rfl (Nat.le_of_ble_eq_true rfl) hl.1 rfl (Nat.le_of_ble_eq_true rfl) dX1_listOptions_24 (fun H locs hw => ?_)
  refine lv_iconst (v := 1) hx hb dX1_listOptions_27 (by decide) ?_
  refine lv_iadd hx hb dX1_listOptions_28 ?_
  refine lv_istore (lv' := [(6, .int (r1 + 1)), (5, .int v1), (0, .ref (ad 6)), (1, .ref (ad 1)), (2, .int x2), (3, .int x3), (4, .int x4)]) hx hb dX1_listOptions_29 hl (by decide) rfl (fun ls hl => ?_)
  refine lv_aload_n hx hb dX1_listOptions_31 rfl (lv_at hl 3 rfl) ?_
  refine x_getR C hw gtX1_61 dX1_listOptions_32 ?_
  refine lv_iload_n hx hb dX1_listOptions_35 rfl (lv_at hl 5 rfl) ?_
  refine lv_iload hx hb dX1_listOptions_36 (lv_at hl 0 rfl) ?_
  refine lv_iload hx hb dX1_listOptions_38 (lv_at hl 6 rfl) ?_
  obtain ⟨r2, S3, hv, h⟩ := b2_some h
  refine x_callVI C hw (mX5_inForce hv) lkX1_65 rfl (Nat.le_of_ble_eq_true rfl) hl.1 rfl (Nat.le_of_ble_eq_true rfl) dX1_listOptions_40 (fun H locs hw => ?_)
  refine lv_istore (lv' := [(7, .int r2), (6, .int (r1 + 1)), (5, .int v1), (0, .ref (ad 6)), (1, .ref (ad 1)), (2, .int x2), (3, .int x3), (4, .int x4)]) hx hb dX1_listOptions_43 hl (by decide) rfl (fun ls hl => ?_)
  refine lv_iload hx hb dX1_listOptions_45 (lv_at hl 0 rfl) ?_
  refine lv_if_lt (tgt := 64) hx hb dX1_listOptions_47 (by decide) (fun c => ?_) (fun c => ?_)
  · have h := (it_d h).1 c
    exact x_vret C hw h dX1_listOptions_64
  · have h := (it_d h).2 c
    refine lv_aload_n hx hb dX1_listOptions_50 rfl (lv_at hl 4 rfl) ?_
    refine lv_iload hx hb dX1_listOptions_51 (lv_at hl 2 rfl) ?_
    refine lv_iload_n hx hb dX1_listOptions_53 rfl (lv_at hl 6 rfl) ?_
    refine lv_iload hx hb dX1_listOptions_54 (lv_at hl 1 rfl) ?_
    refine lv_iload hx hb dX1_listOptions_56 (lv_at hl 7 rfl) ?_
    obtain ⟨r3, S4, hv, h⟩ := b2_some h
    refine x_callVI C hw (mX0_whyNot hv) lkX1_70 rfl (Nat.le_of_ble_eq_true rfl) hl.1 rfl (Nat.le_of_ble_eq_true rfl) dX1_listOptions_58 (fun H locs hw => ?_)
    refine lv_if_eq (tgt := 65) hx hb dX1_listOptions_61 (by decide) (fun c => ?_) (fun c => ?_)
    · have h := (it_d h).1 c
      refine lv_iconst (v := 0) hx hb dX1_listOptions_65 (by decide) ?_
      refine lv_istore (lv' := [(8, .int 0), (7, .int r2), (6, .int (r1 + 1)), (5, .int v1), (0, .ref (ad 6)), (1, .ref (ad 1)), (2, .int x2), (3, .int x3), (4, .int x4)]) hx hb dX1_listOptions_66 hl (by decide) rfl (fun ls hl => ?_)
      refine lv_iconst (v := 0) hx hb dX1_listOptions_68 (by decide) ?_
      refine lv_istore (lv' := [(9, .int 0), (8, .int 0), (7, .int r2), (6, .int (r1 + 1)), (5, .int v1), (0, .ref (ad 6)), (1, .ref (ad 1)), (2, .int x2), (3, .int x3), (4, .int x4)]) hx hb dX1_listOptions_69 hl (by decide) rfl (fun ls hl => ?_)
      exact B71 N S4 x2 x3 x4 v1 r2 0 0 _ _ ls h hw (lv_sub hl [5, 6, 7, 8, 9, 4, 2, 1, 0] rfl)
    · have h := (it_d h).2 c
      exact x_vret C hw h dX1_listOptions_64
set_option maxHeartbeats 4000000 in
set_option maxRecDepth 100000 in
theorem mX1_place_n {N : Nat} {l : Launch} {D : va_G} {ad : Nat → Nat} {cI cZ : ClassId} : ∀ (nd : Nat) (S Sz : SS) (x1 x2 x3 rz : Int32), fX1_place N nd S x1 x2 x3 = some (rz, Sz) → MI l D lyX ad cI cZ yX1_place cX1_place 7 (some .boolean) (1 + nd) [.ref (ad 6), .int x1, .int x2, .int x3] S rz Sz := by
  intro nd
  induction nd with
  | zero =>
    intro S Sz x1 x2 x3 rz h
    rw [fX1_place] at h
    cases h
  | succ nd ihp =>
    intro S Sz x1 x2 x3 rz h
    refine x_startI RX1 (by decide) rfl (Nat.le_of_ble_eq_true rfl) ?_
    intro p e s m args below meth c A C hw ls hl
    have hx := C.1
    have hb := C.2.1
    have hown := C.2.2.2.1
    have hts := C.2.2.2.2.1
    have hl : lv_has ls 7 [(0, .ref (ad 6)), (1, .int x1), (2, .int x2), (3, .int x3)] := hl
    have B95 : ∀ (S : SS) (x1 x2 x3 : Int32) (H : Heap) (locs : List Loc) (ls : Array Slot), fX1_place_b95 N (fun S x1 x2 x3 => fX1_place N nd S x1 x2 x3) S x1 x2 x3 = some (rz, Sz) → WH D A s.heap lyX ad cI cZ S H locs → lv_has ls 7 [(0, .ref (ad 6)), (1, .int x1), (2, .int x2), (3, .int x3)] → W p l e (rmK (1 + (nd + 1))) s m args below meth c H locs 0 0 (MQ below (Qi D lyX ad cI cZ A rz Sz) args s 0 0 A) (F0 m 95 ls []) := by
      intro S x1 x2 x3 H locs ls h hw hl
      unfold fX1_place_b95 at h
      refine lv_aload_n hx hb dX1_place_95 rfl (lv_at hl 0 rfl) ?_
      refine x_getR C hw gtX1_21 dX1_place_96 ?_
      refine lv_iload_n hx hb dX1_place_99 rfl (lv_at hl 1 rfl) ?_
      refine lv_iconst (v := 0) hx hb dX1_place_100 (by decide) ?_
      obtain ⟨S1, hv, h⟩ := bb_some h
      refine x_ast C hw alX_36 hv dX1_place_101 (fun H locs hw => ?_)
      refine lv_aload_n hx hb dX1_place_102 rfl (lv_at hl 0 rfl) ?_
      refine lv_iload_n hx hb dX1_place_103 rfl (lv_at hl 1 rfl) ?_
      refine lv_iconst (v := 1) hx hb dX1_place_104 (by decide) ?_
      refine lv_iadd hx hb dX1_place_105 ?_
      refine lv_iload_n hx hb dX1_place_106 rfl (lv_at hl 2 rfl) ?_
      refine lv_iload_n hx hb dX1_place_107 rfl (lv_at hl 3 rfl) ?_
      obtain ⟨r1, S2, hv, h⟩ := b2_some h
      refine x_callVI C hw (ihp _ _ _ _ _ _ hv) lkX1_39 rfl (by omega) hl.1 rfl (Nat.le_of_ble_eq_true rfl) dX1_place_108 (fun H locs hw => ?_)
      exact x_zret C hw h dX1_place_111
    have B32 : ∀ n : Nat, ∀ (S : SS) (x1 x2 x3 x4 x5 : Int32) (H : Heap) (locs : List Loc) (ls : Array Slot), fX1_place_b32 N (fun S x1 x2 x3 => fX1_place N nd S x1 x2 x3) n S x1 x2 x3 x4 x5 = some (rz, Sz) → WH D A s.heap lyX ad cI cZ S H locs → lv_has ls 7 [(0, .ref (ad 6)), (1, .int x1), (2, .int x2), (3, .int x3), (4, .int x4), (5, .int x5)] → W p l e (rmK (1 + (nd + 1))) s m args below meth c H locs 0 0 (MQ below (Qi D lyX ad cI cZ A rz Sz) args s 0 0 A) (F0 m 32 ls []) := by
      intro n
      induction n with
      | zero =>
        intro S x1 x2 x3 x4 x5 H locs ls h hw hl
        rw [fX1_place_b32] at h
        cases h
      | succ n ih32 =>
        intro S x1 x2 x3 x4 x5 H locs ls h hw hl
        rw [fX1_place_b32] at h
        refine lv_iload hx hb dX1_place_32 (lv_at hl 5 rfl) ?_
        refine lv_aload_n hx hb dX1_place_34 rfl (lv_at hl 0 rfl) ?_
        refine x_getR C hw gtX1_18 dX1_place_35 ?_
        refine lv_iload_n hx hb dX1_place_38 rfl (lv_at hl 1 rfl) ?_
        obtain ⟨v1, hv, h⟩ := bb_some h
        refine x_ald C hw alX_35 hv dX1_place_39 ?_
        refine lv_icmp_ge (tgt := 95) hx hb dX1_place_40 (by decide) (fun c => ?_) (fun c => ?_)
        · have h := (it_d h).1 c
          exact B95 S x1 x2 x3 _ _ ls h hw (lv_sub hl [0, 1, 2, 3] rfl)
        · have h := (it_d h).2 c
          refine lv_aload_n hx hb dX1_place_43 rfl (lv_at hl 0 rfl) ?_
          refine x_getR C hw gtX1_15 dX1_place_44 ?_
          refine lv_iload_n hx hb dX1_place_47 rfl (lv_at hl 1 rfl) ?_
          refine lv_bipush (v := 20) hx hb dX1_place_48 (by decide) ?_
          refine lv_imul hx hb dX1_place_50 ?_
          refine lv_iload hx hb dX1_place_51 (lv_at hl 5 rfl) ?_
          refine lv_iadd hx hb dX1_place_53 ?_
          obtain ⟨v2, hv, h⟩ := bb_some h
          refine x_ald C hw alX_34 hv dX1_place_54 ?_
          refine lv_istore (lv' := [(6, .int v2), (0, .ref (ad 6)), (1, .int x1), (2, .int x2), (3, .int x3), (4, .int x4), (5, .int x5)]) hx hb dX1_place_55 hl (by decide) rfl (fun ls hl => ?_)
          refine lv_iload hx hb dX1_place_57 (lv_at hl 0 rfl) ?_
          refine lv_iload hx hb dX1_place_59 (lv_at hl 5 rfl) ?_
          refine lv_iand hx hb dX1_place_61 ?_
          refine lv_if_ne (tgt := 89) hx hb dX1_place_62 (by decide) (fun c => ?_) (fun c => ?_)
          · have h := (it_d h).2 c
            refine lv_iinc (v := (x5 + 1)) (lv' := [(5, .int (x5 + 1)), (6, .int v2), (0, .ref (ad 6)), (1, .int x1), (2, .int x2), (3, .int x3), (4, .int x4)]) hx hb dX1_place_89 hl (k := 6) rfl rfl (by decide) rfl (fun ls hl => ?_)
            refine lv_goto (tgt := 32) hx hb dX1_place_92 (by decide) ?_
            exact ih32 S x1 x2 x3 x4 (x5 + 1) _ _ ls h hw (lv_sub hl [2, 3, 4, 5, 6, 0] rfl)
          · have h := (it_d h).1 c
            refine lv_aload_n hx hb dX1_place_65 rfl (lv_at hl 1 rfl) ?_
            refine x_getR C hw gtX1_21 dX1_place_66 ?_
            refine lv_iload_n hx hb dX1_place_69 rfl (lv_at hl 2 rfl) ?_
            refine lv_iload hx hb dX1_place_70 (lv_at hl 0 rfl) ?_
            obtain ⟨S1, hv, h⟩ := bb_some h
            refine x_ast C hw alX_36 hv dX1_place_72 (fun H locs hw => ?_)
            refine lv_aload_n hx hb dX1_place_73 rfl (lv_at hl 1 rfl) ?_
            refine lv_iload_n hx hb dX1_place_74 rfl (lv_at hl 2 rfl) ?_
            refine lv_iconst (v := 1) hx hb dX1_place_75 (by decide) ?_
            refine lv_iadd hx hb dX1_place_76 ?_
            refine lv_iload_n hx hb dX1_place_77 rfl (lv_at hl 3 rfl) ?_
            refine lv_iconst (v := 1) hx hb dX1_place_78 (by decide) ?_
            refine lv_isub hx hb dX1_place_79 ?_
            refine lv_iload_n hx hb dX1_place_80 rfl (lv_at hl 4 rfl) ?_
            obtain ⟨r1, S2, hv, h⟩ := b2_some h
            refine x_callVI C hw (ihp _ _ _ _ _ _ hv) lkX1_39 rfl (by omega) hl.1 rfl (Nat.le_of_ble_eq_true rfl) dX1_place_81 (fun H locs hw => ?_)
            refine lv_if_eq (tgt := 89) hx hb dX1_place_84 (by decide) (fun c => ?_) (fun c => ?_)
            · have h := (it_d h).1 c
              refine lv_iinc (v := (x5 + 1)) (lv' := [(5, .int (x5 + 1)), (6, .int v2), (0, .ref (ad 6)), (1, .int x1), (2, .int x2), (3, .int x3), (4, .int x4)]) hx hb dX1_place_89 hl (k := 6) rfl rfl (by decide) rfl (fun ls hl => ?_)
              refine lv_goto (tgt := 32) hx hb dX1_place_92 (by decide) ?_
              exact ih32 S2 x1 x2 x3 x4 (x5 + 1) _ _ ls h hw (lv_sub hl [2, 3, 4, 5, 6, 0] rfl)
            · have h := (it_d h).2 c
              refine lv_iconst (v := 1) hx hb dX1_place_87 (by decide) ?_
              exact x_zret C hw h dX1_place_88
    rw [fX1_place] at h
    refine lv_iload_n hx hb dX1_place_0 rfl (lv_at hl 2 rfl) ?_
    refine lv_aload_n hx hb dX1_place_1 rfl (lv_at hl 0 rfl) ?_
    refine lv_iload_n hx hb dX1_place_2 rfl (lv_at hl 1 rfl) ?_
    obtain ⟨r1, S1, hv, h⟩ := b2_some h
    refine x_callVI C hw (mX1_ableFrom hv) lkX1_92 rfl (by omega) hl.1 rfl (Nat.le_of_ble_eq_true rfl) dX1_place_3 (fun H locs hw => ?_)
    refine lv_icmp_le (tgt := 11) hx hb dX1_place_6 (by decide) (fun c => ?_) (fun c => ?_)
    · have h := (it_d h).1 c
      refine lv_iload_n hx hb dX1_place_11 rfl (lv_at hl 1 rfl) ?_
      refine lv_aload_n hx hb dX1_place_12 rfl (lv_at hl 0 rfl) ?_
      refine x_getI C hw gtX1_27 dX1_place_13 ?_
      refine lv_icmp_lt (tgt := 21) hx hb dX1_place_16 (by decide) (fun c => ?_) (fun c => ?_)
      · have h := (it_d h).1 c
        refine lv_aload_n hx hb dX1_place_21 rfl (lv_at hl 0 rfl) ?_
        refine lv_iload_n hx hb dX1_place_22 rfl (lv_at hl 1 rfl) ?_
        refine lv_iload_n hx hb dX1_place_23 rfl (lv_at hl 3 rfl) ?_
        obtain ⟨r2, S2, hv, h⟩ := b2_some h
        refine x_callVI C hw (mX1_fullAhead hv) lkX1_96 rfl (by omega) hl.1 rfl (Nat.le_of_ble_eq_true rfl) dX1_place_24 (fun H locs hw => ?_)
        refine lv_istore (lv' := [(4, .int r2), (0, .ref (ad 6)), (1, .int x1), (2, .int x2), (3, .int x3)]) hx hb dX1_place_27 hl (by decide) rfl (fun ls hl => ?_)
        refine lv_iconst (v := 0) hx hb dX1_place_29 (by decide) ?_
        refine lv_istore (lv' := [(5, .int 0), (4, .int r2), (0, .ref (ad 6)), (1, .int x1), (2, .int x2), (3, .int x3)]) hx hb dX1_place_30 hl (by decide) rfl (fun ls hl => ?_)
        exact B32 N S2 x1 x2 x3 r2 0 _ _ ls h hw (lv_sub hl [2, 3, 4, 5, 1, 0] rfl)
      · have h := (it_d h).2 c
        refine lv_iconst (v := 1) hx hb dX1_place_19 (by decide) ?_
        exact x_zret C hw h dX1_place_20
    · have h := (it_d h).2 c
      refine lv_iconst (v := 0) hx hb dX1_place_9 (by decide) ?_
      exact x_zret C hw h dX1_place_10
theorem mX1_place {N : Nat} {l : Launch} {D : va_G} {ad : Nat → Nat} {cI cZ : ClassId} {S Sz : SS} {x1 x2 x3 rz : Int32} (h : fX1_place N 6 S x1 x2 x3 = some (rz, Sz)) : MI l D lyX ad cI cZ yX1_place cX1_place 7 (some .boolean) (1 + 6) [.ref (ad 6), .int x1, .int x2, .int x3] S rz Sz := mX1_place_n 6 S Sz x1 x2 x3 rz h
set_option maxHeartbeats 4000000 in
set_option maxRecDepth 100000 in
theorem mJ7_fill_36 {N : Nat} {l : Launch} {D : va_G} {ad : Nat → Nat} {cI cZ : ClassId} {S Sz : SS} {x1 : Int32} (h : fJ7_fill_36 N S x1 = some Sz) : MV l D lyX ad cI cZ yJ7_fill_53178 cJ7_fill_53178 4 0 [.ref (ad 36), .int x1] S Sz := by
  refine x_startV RJ7 (by decide) rfl (Nat.le_of_ble_eq_true rfl) ?_
  intro p e s m args below meth c A C hw ls hl
  have hx := C.1
  have hb := C.2.1
  have hown := C.2.2.2.1
  have hts := C.2.2.2.2.1
  have hl : lv_has ls 4 [(0, .ref (ad 36)), (1, .int x1)] := hl
  have B5 : ∀ n : Nat, ∀ (S : SS) (x1 x2 x3 : Int32) (H : Heap) (locs : List Loc) (ls : Array Slot), fJ7_fill_36_b5 N n S x1 x2 x3 = some Sz → WH D A s.heap lyX ad cI cZ S H locs → lv_has ls 4 [(0, .ref (ad 36)), (1, .int x1), (2, .int x2), (3, .int x3)] → W p l e (rmK 0) s m args below meth c H locs 0 0 (MQ below (Qv D lyX ad cI cZ A Sz) args s 0 0 A) (F0 m 5 ls []) := by
    intro n
    induction n with
    | zero =>
      intro S x1 x2 x3 H locs ls h hw hl
      rw [fJ7_fill_36_b5] at h
      cases h
    | succ n ih5 =>
      intro S x1 x2 x3 H locs ls h hw hl
      rw [fJ7_fill_36_b5] at h
      refine lv_iload_n hx hb dJ7_fill_53178_5 rfl (lv_at hl 2 rfl) ?_
      refine lv_iload_n hx hb dJ7_fill_53178_6 rfl (lv_at hl 3 rfl) ?_
      refine lv_icmp_ge (tgt := 20) hx hb dJ7_fill_53178_7 (by decide) (fun c => ?_) (fun c => ?_)
      · have h := (it_d h).1 c
        exact x_vret C hw h dJ7_fill_53178_20
      · have h := (it_d h).2 c
        refine lv_aload_n hx hb dJ7_fill_53178_10 rfl (lv_at hl 0 rfl) ?_
        refine lv_iload_n hx hb dJ7_fill_53178_11 rfl (lv_at hl 2 rfl) ?_
        refine lv_iload_n hx hb dJ7_fill_53178_12 rfl (lv_at hl 1 rfl) ?_
        obtain ⟨S1, hv, h⟩ := bb_some h
        refine x_ast C hw alX_36 hv dJ7_fill_53178_13 (fun H locs hw => ?_)
        refine lv_iinc (v := (x2 + 1)) (lv' := [(2, .int (x2 + 1)), (0, .ref (ad 36)), (1, .int x1), (3, .int x3)]) hx hb dJ7_fill_53178_14 hl (k := 2) rfl rfl (by decide) rfl (fun ls hl => ?_)
        refine lv_goto (tgt := 5) hx hb dJ7_fill_53178_17 (by decide) ?_
        exact ih5 S1 x1 (x2 + 1) x3 _ _ ls h hw (lv_sub hl [1, 2, 0, 3] rfl)
  unfold fJ7_fill_36 at h
  refine lv_iconst (v := 0) hx hb dJ7_fill_53178_0 (by decide) ?_
  refine lv_istore_n (lv' := [(2, .int 0), (0, .ref (ad 36)), (1, .int x1)]) hx hb dJ7_fill_53178_1 rfl hl (by decide) rfl (fun ls hl => ?_)
  refine lv_aload_n hx hb dJ7_fill_53178_2 rfl (lv_at hl 1 rfl) ?_
  refine x_alen (v := 4) C hw alX_36 (by decide) dJ7_fill_53178_3 ?_
  refine lv_istore_n (lv' := [(3, .int 4), (2, .int 0), (0, .ref (ad 36)), (1, .int x1)]) hx hb dJ7_fill_53178_4 rfl hl (by decide) rfl (fun ls hl => ?_)
  exact B5 N S x1 0 4 _ _ ls h hw (lv_sub hl [2, 3, 1, 0] rfl)
