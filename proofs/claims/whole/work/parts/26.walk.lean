set_option maxHeartbeats 4000000 in
set_option maxRecDepth 100000 in
theorem mX8_way {N : Nat} {l : Launch} {D : va_G} {ad : Nat → Nat} {cI cZ : ClassId} {S Sz : SS} {x1 x2 : Int32} {rz : Int32} (h : fX8_way N S x1 x2 = some (rz, Sz)) : MI l D lyM ad cI cZ yX8_way cX8_way 4 (some .int) 2 [.ref (ad 0), .int x1, .int x2] S rz Sz := by
  refine x_startI RX8 (by decide) rfl (Nat.le_of_ble_eq_true rfl) ?_
  intro p e s m args below meth c A C hw ls hl
  have hx := C.1
  have hb := C.2.1
  have hown := C.2.2.2.1
  have hts := C.2.2.2.2.1
  have hl : lv_has ls 4 [(0, .ref (ad 0)), (1, .int x1), (2, .int x2)] := hl
  have B16 : ∀ (S : SS) (H : Heap) (locs : List Loc) (ls : Array Slot), fX8_way_b16 N S = some (rz, Sz) → WH D A s.heap lyM ad cI cZ S H locs → lv_has ls 4 [(0, .ref (ad 0))] → W p l e (rmK 2) s m args below meth c H locs 0 0 (MQ below (Qi D lyM ad cI cZ A rz Sz) args s 0 0 A) (F0 m 16 ls []) := by
    intro S  H locs ls h hw hl
    unfold fX8_way_b16 at h
    refine lv_aload_n hx hb dX8_way_16 rfl (lv_at hl 0 rfl) ?_
    refine lv_ldc (v := (-1000001)) hx hb hown (hts _ kwX8_123) dX8_way_17 ?_
    obtain ⟨r1, S1, hv, h⟩ := b2_some h
    refine x_callVI C hw (mX8_finding hv) lkX8_124 rfl (Nat.le_of_ble_eq_true rfl) hl.1 rfl (Nat.le_of_ble_eq_true rfl) dX8_way_19 (fun H locs hw => ?_)
    exact x_iret C hw h dX8_way_22
  unfold fX8_way at h
  refine lv_iload_n hx hb dX8_way_0 rfl (lv_at hl 1 rfl) ?_
  obtain ⟨r1, S1, hv, h⟩ := b2_some h
  refine x_callSI C hw (mX8_isUnion hv) lkX8_136 rfl (Nat.le_of_ble_eq_true rfl) hl.1 rfl (Nat.le_of_ble_eq_true rfl) dX8_way_1 (fun H locs hw => ?_)
  refine lv_if_eq (tgt := 16) hx hb dX8_way_4 (by decide) (fun c => ?_) (fun c => ?_)
  · have h := (it_d h).1 c
    exact B16 S1 _ _ ls h hw (lv_sub hl [0] rfl)
  · have h := (it_d h).2 c
    refine lv_iload_n hx hb dX8_way_7 rfl (lv_at hl 2 rfl) ?_
    refine lv_iconst (v := 0) hx hb dX8_way_8 (by decide) ?_
    refine lv_iconst (v := 1) hx hb dX8_way_9 (by decide) ?_
    obtain ⟨r2, S2, hv, h⟩ := b2_some h
    refine x_callSI C hw (mX8_within hv) lkX8_111 rfl (Nat.le_of_ble_eq_true rfl) hl.1 rfl (Nat.le_of_ble_eq_true rfl) dX8_way_10 (fun H locs hw => ?_)
    refine lv_if_ne (tgt := 23) hx hb dX8_way_13 (by decide) (fun c => ?_) (fun c => ?_)
    · have h := (it_d h).2 c
      refine lv_aload_n hx hb dX8_way_23 rfl (lv_at hl 0 rfl) ?_
      refine x_getR C hw gtX8_28 dX8_way_24 ?_
      refine lv_iload_n hx hb dX8_way_27 rfl (lv_at hl 1 rfl) ?_
      obtain ⟨v1, hv, h⟩ := bb_some h
      refine x_ald C hw alM_7 hv dX8_way_28 ?_
      refine lv_istore_n (lv' := [(3, .int v1), (0, .ref (ad 0)), (1, .int x1), (2, .int x2)]) hx hb dX8_way_29 rfl hl (by decide) rfl (fun ls hl => ?_)
      refine lv_aload_n hx hb dX8_way_30 rfl (lv_at hl 1 rfl) ?_
      refine x_getR C hw gtX8_28 dX8_way_31 ?_
      refine lv_iload_n hx hb dX8_way_34 rfl (lv_at hl 2 rfl) ?_
      refine lv_iload_n hx hb dX8_way_35 rfl (lv_at hl 3 rfl) ?_
      obtain ⟨S3, hv, h⟩ := bb_some h
      refine x_ast C hw alM_7 hv dX8_way_36 (fun H locs hw => ?_)
      refine lv_iload_n hx hb dX8_way_37 rfl (lv_at hl 0 rfl) ?_
      exact x_iret C hw h dX8_way_38
    · have h := (it_d h).1 c
      exact B16 S2 _ _ ls h hw (lv_sub hl [0] rfl)
set_option maxHeartbeats 4000000 in
set_option maxRecDepth 100000 in
theorem mX8_why {N : Nat} {l : Launch} {D : va_G} {ad : Nat → Nat} {cI cZ : ClassId} {S Sz : SS} {x1 x2 x3 x4 : Int32} {rz : Int32} (h : fX8_why N S x1 x2 x3 x4 = some (rz, Sz)) : MI l D lyM ad cI cZ yX8_why cX8_why 5 (some .int) 4 [.ref (ad 0), .int x1, .int x2, .int x3, .int x4] S rz Sz := by
  refine x_startI RX8 (by decide) rfl (Nat.le_of_ble_eq_true rfl) ?_
  intro p e s m args below meth c A C hw ls hl
  have hx := C.1
  have hb := C.2.1
  have hown := C.2.2.2.1
  have hts := C.2.2.2.2.1
  have hl : lv_has ls 5 [(0, .ref (ad 0)), (1, .int x1), (2, .int x2), (3, .int x3), (4, .int x4)] := hl
  unfold fX8_why at h
  refine lv_aload_n hx hb dX8_why_0 rfl (lv_at hl 0 rfl) ?_
  refine lv_iload_n hx hb dX8_why_1 rfl (lv_at hl 1 rfl) ?_
  refine lv_iload_n hx hb dX8_why_2 rfl (lv_at hl 2 rfl) ?_
  refine lv_iload_n hx hb dX8_why_3 rfl (lv_at hl 3 rfl) ?_
  refine lv_iload hx hb dX8_why_4 (lv_at hl 4 rfl) ?_
  obtain ⟨r1, S1, hv, h⟩ := b2_some h
  refine x_callVI C hw (mX8_canAsk hv) lkX8_182 rfl (Nat.le_of_ble_eq_true rfl) hl.1 rfl (Nat.le_of_ble_eq_true rfl) dX8_why_6 (fun H locs hw => ?_)
  refine lv_if_ne (tgt := 19) hx hb dX8_why_9 (by decide) (fun c => ?_) (fun c => ?_)
  · have h := (it_d h).2 c
    refine lv_aload_n hx hb dX8_why_19 rfl (lv_at hl 0 rfl) ?_
    refine lv_iload hx hb dX8_why_20 (lv_at hl 4 rfl) ?_
    obtain ⟨S2, hv, h⟩ := bb_some h
    refine x_callVV C hw (mX8_findStanding hv) lkX8_175 rfl (Nat.le_of_ble_eq_true rfl) hl.1 rfl (Nat.le_of_ble_eq_true rfl) dX8_why_22 (fun H locs hw => ?_)
    refine lv_aload_n hx hb dX8_why_25 rfl (lv_at hl 0 rfl) ?_
    refine lv_iload_n hx hb dX8_why_26 rfl (lv_at hl 1 rfl) ?_
    refine lv_iload_n hx hb dX8_why_27 rfl (lv_at hl 2 rfl) ?_
    refine lv_iload_n hx hb dX8_why_28 rfl (lv_at hl 3 rfl) ?_
    refine lv_iload hx hb dX8_why_29 (lv_at hl 4 rfl) ?_
    obtain ⟨r2, S3, hv, h⟩ := b2_some h
    refine x_callVI C hw (mX8_whyOf hv) lkX8_186 rfl (Nat.le_of_ble_eq_true rfl) hl.1 rfl (Nat.le_of_ble_eq_true rfl) dX8_why_31 (fun H locs hw => ?_)
    exact x_iret C hw h dX8_why_34
  · have h := (it_d h).1 c
    refine lv_aload_n hx hb dX8_why_12 rfl (lv_at hl 0 rfl) ?_
    refine lv_ldc (v := (-1000001)) hx hb hown (hts _ kwX8_123) dX8_why_13 ?_
    obtain ⟨r3, S4, hv, h⟩ := b2_some h
    refine x_callVI C hw (mX8_finding hv) lkX8_124 rfl (Nat.le_of_ble_eq_true rfl) hl.1 rfl (Nat.le_of_ble_eq_true rfl) dX8_why_15 (fun H locs hw => ?_)
    exact x_iret C hw h dX8_why_18
set_option maxHeartbeats 4000000 in
set_option maxRecDepth 100000 in
theorem mX8_worth {N : Nat} {l : Launch} {D : va_G} {ad : Nat → Nat} {cI cZ : ClassId} {S Sz : SS} {x1 x2 x3 x4 : Int32} {rz : Int32} (h : fX8_worth N S x1 x2 x3 x4 = some (rz, Sz)) : MI l D lyM ad cI cZ yX8_worth cX8_worth 6 (some .int) 2 [.ref (ad 0), .int x1, .int x2, .int x3, .int x4] S rz Sz := by
  refine x_startI RX8 (by decide) rfl (Nat.le_of_ble_eq_true rfl) ?_
  intro p e s m args below meth c A C hw ls hl
  have hx := C.1
  have hb := C.2.1
  have hown := C.2.2.2.1
  have hts := C.2.2.2.2.1
  have hl : lv_has ls 6 [(0, .ref (ad 0)), (1, .int x1), (2, .int x2), (3, .int x3), (4, .int x4)] := hl
  have B37 : ∀ (S : SS) (H : Heap) (locs : List Loc) (ls : Array Slot), fX8_worth_b37 N S = some (rz, Sz) → WH D A s.heap lyM ad cI cZ S H locs → lv_has ls 6 [(0, .ref (ad 0))] → W p l e (rmK 2) s m args below meth c H locs 0 0 (MQ below (Qi D lyM ad cI cZ A rz Sz) args s 0 0 A) (F0 m 37 ls []) := by
    intro S  H locs ls h hw hl
    unfold fX8_worth_b37 at h
    refine lv_aload_n hx hb dX8_worth_37 rfl (lv_at hl 0 rfl) ?_
    refine lv_ldc (v := (-1000001)) hx hb hown (hts _ kwX8_123) dX8_worth_38 ?_
    obtain ⟨r1, S1, hv, h⟩ := b2_some h
    refine x_callVI C hw (mX8_finding hv) lkX8_124 rfl (Nat.le_of_ble_eq_true rfl) hl.1 rfl (Nat.le_of_ble_eq_true rfl) dX8_worth_40 (fun H locs hw => ?_)
    exact x_iret C hw h dX8_worth_43
  unfold fX8_worth at h
  refine lv_iload_n hx hb dX8_worth_0 rfl (lv_at hl 1 rfl) ?_
  obtain ⟨r1, S1, hv, h⟩ := b2_some h
  refine x_callSI C hw (mX8_isUnion hv) lkX8_136 rfl (Nat.le_of_ble_eq_true rfl) hl.1 rfl (Nat.le_of_ble_eq_true rfl) dX8_worth_1 (fun H locs hw => ?_)
  refine lv_if_eq (tgt := 37) hx hb dX8_worth_4 (by decide) (fun c => ?_) (fun c => ?_)
  · have h := (it_d h).1 c
    exact B37 S1 _ _ ls h hw (lv_sub hl [0] rfl)
  · have h := (it_d h).2 c
    refine lv_iload_n hx hb dX8_worth_7 rfl (lv_at hl 2 rfl) ?_
    obtain ⟨r2, S2, hv, h⟩ := b2_some h
    refine x_callSI C hw (mX8_isUnion hv) lkX8_136 rfl (Nat.le_of_ble_eq_true rfl) hl.1 rfl (Nat.le_of_ble_eq_true rfl) dX8_worth_8 (fun H locs hw => ?_)
    refine lv_if_eq (tgt := 37) hx hb dX8_worth_11 (by decide) (fun c => ?_) (fun c => ?_)
    · have h := (it_d h).1 c
      exact B37 S2 _ _ ls h hw (lv_sub hl [0] rfl)
    · have h := (it_d h).2 c
      refine lv_iload_n hx hb dX8_worth_14 rfl (lv_at hl 3 rfl) ?_
      obtain ⟨r3, S3, hv, h⟩ := b2_some h
      refine x_callSI C hw (mX8_isGrade hv) lkX8_139 rfl (Nat.le_of_ble_eq_true rfl) hl.1 rfl (Nat.le_of_ble_eq_true rfl) dX8_worth_15 (fun H locs hw => ?_)
      refine lv_if_eq (tgt := 37) hx hb dX8_worth_18 (by decide) (fun c => ?_) (fun c => ?_)
      · have h := (it_d h).1 c
        exact B37 S3 _ _ ls h hw (lv_sub hl [0] rfl)
      · have h := (it_d h).2 c
        refine lv_iload_n hx hb dX8_worth_21 rfl (lv_at hl 1 rfl) ?_
        refine lv_iload_n hx hb dX8_worth_22 rfl (lv_at hl 2 rfl) ?_
        refine lv_icmp_eq (tgt := 37) hx hb dX8_worth_23 (by decide) (fun c => ?_) (fun c => ?_)
        · have h := (it_d h).1 c
          exact B37 S3 _ _ ls h hw (lv_sub hl [0] rfl)
        · have h := (it_d h).2 c
          refine lv_iload hx hb dX8_worth_26 (lv_at hl 4 rfl) ?_
          refine lv_iconst (v := 0) hx hb dX8_worth_28 (by decide) ?_
          refine lv_bipush (v := 10) hx hb dX8_worth_29 (by decide) ?_
          obtain ⟨r4, S4, hv, h⟩ := b2_some h
          refine x_callSI C hw (mX8_within hv) lkX8_111 rfl (Nat.le_of_ble_eq_true rfl) hl.1 rfl (Nat.le_of_ble_eq_true rfl) dX8_worth_31 (fun H locs hw => ?_)
          refine lv_if_ne (tgt := 44) hx hb dX8_worth_34 (by decide) (fun c => ?_) (fun c => ?_)
          · have h := (it_d h).2 c
            refine lv_aload_n hx hb dX8_worth_44 rfl (lv_at hl 0 rfl) ?_
            refine x_getR C hw gtX8_25 dX8_worth_45 ?_
            refine lv_iload_n hx hb dX8_worth_48 rfl (lv_at hl 1 rfl) ?_
            refine lv_iload_n hx hb dX8_worth_49 rfl (lv_at hl 2 rfl) ?_
            refine lv_iload_n hx hb dX8_worth_50 rfl (lv_at hl 3 rfl) ?_
            obtain ⟨r5, S5, hv, h⟩ := b2_some h
            refine x_callSI C hw (mX8_worthAt hv) lkX8_142 rfl (Nat.le_of_ble_eq_true rfl) hl.1 rfl (Nat.le_of_ble_eq_true rfl) dX8_worth_51 (fun H locs hw => ?_)
            obtain ⟨v1, hv, h⟩ := bb_some h
            refine x_ald C hw alM_6 hv dX8_worth_54 ?_
            refine lv_istore (lv' := [(5, .int v1), (0, .ref (ad 0)), (1, .int x1), (2, .int x2), (3, .int x3), (4, .int x4)]) hx hb dX8_worth_55 hl (by decide) rfl (fun ls hl => ?_)
            refine lv_aload_n hx hb dX8_worth_57 rfl (lv_at hl 1 rfl) ?_
            refine x_getR C hw gtX8_25 dX8_worth_58 ?_
            refine lv_iload_n hx hb dX8_worth_61 rfl (lv_at hl 2 rfl) ?_
            refine lv_iload_n hx hb dX8_worth_62 rfl (lv_at hl 3 rfl) ?_
            refine lv_iload_n hx hb dX8_worth_63 rfl (lv_at hl 4 rfl) ?_
            obtain ⟨r6, S6, hv, h⟩ := b2_some h
            refine x_callSI C hw (mX8_worthAt hv) lkX8_142 rfl (Nat.le_of_ble_eq_true rfl) hl.1 rfl (Nat.le_of_ble_eq_true rfl) dX8_worth_64 (fun H locs hw => ?_)
            refine lv_iload hx hb dX8_worth_67 (lv_at hl 5 rfl) ?_
            obtain ⟨S7, hv, h⟩ := bb_some h
            refine x_ast C hw alM_6 hv dX8_worth_69 (fun H locs hw => ?_)
            refine lv_iload hx hb dX8_worth_70 (lv_at hl 0 rfl) ?_
            exact x_iret C hw h dX8_worth_72
          · have h := (it_d h).1 c
            exact B37 S4 _ _ ls h hw (lv_sub hl [0] rfl)
