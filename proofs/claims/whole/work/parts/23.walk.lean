set_option maxHeartbeats 4000000 in
set_option maxRecDepth 100000 in
theorem mX7_tell {N : Nat} {l : Launch} {D : va_G} {ad : Nat → Nat} {cI cZ : ClassId} {S Sz : SS} {x1 : Int32} {rz : Int32} (h : fX7_tell N S x1 = some (rz, Sz)) : MI l D lyX ad cI cZ yX7_tell cX7_tell 2 (some .int) 2 [.ref (ad 0), .int x1] S rz Sz := by
  refine x_startI RX7 (by decide) rfl (Nat.le_of_ble_eq_true rfl) ?_
  intro p e s m args below meth c A C hw ls hl
  have hx := C.1
  have hb := C.2.1
  have hown := C.2.2.2.1
  have hts := C.2.2.2.2.1
  have hl : lv_has ls 2 [(0, .ref (ad 0)), (1, .int x1)] := hl
  unfold fX7_tell at h
  refine lv_aload_n hx hb dX7_tell_0 rfl (lv_at hl 0 rfl) ?_
  refine x_getI C hw gtX7_232 dX7_tell_1 ?_
  refine lv_bipush (v := 20) hx hb dX7_tell_4 (by decide) ?_
  refine lv_icmp_lt (tgt := 16) hx hb dX7_tell_6 (by decide) (fun c => ?_) (fun c => ?_)
  · have h := (it_d h).1 c
    refine lv_aload_n hx hb dX7_tell_16 rfl (lv_at hl 0 rfl) ?_
    refine x_getR C hw gtX7_30 dX7_tell_17 ?_
    refine lv_aload_n hx hb dX7_tell_20 rfl (lv_at hl 0 rfl) ?_
    refine x_getI C hw gtX7_232 dX7_tell_21 ?_
    refine lv_iload_n hx hb dX7_tell_24 rfl (lv_at hl 1 rfl) ?_
    obtain ⟨S1, hv, h⟩ := bb_some h
    refine x_ast C hw alX_8 hv dX7_tell_25 (fun H locs hw => ?_)
    refine lv_aload_n hx hb dX7_tell_26 rfl (lv_at hl 0 rfl) ?_
    refine lv_dup hx hb dX7_tell_27 rfl ?_
    refine x_getI C hw gtX7_232 dX7_tell_28 ?_
    refine lv_iconst (v := 1) hx hb dX7_tell_31 (by decide) ?_
    refine lv_iadd hx hb dX7_tell_32 ?_
    obtain ⟨S2, hv, h⟩ := bb_some h
    refine x_putO C hw gpX7_232 hv rfl rfl dX7_tell_33 (fun H locs hw => ?_)
    refine lv_aload_n hx hb dX7_tell_36 rfl (lv_at hl 0 rfl) ?_
    refine x_getI C hw gtX7_232 dX7_tell_37 ?_
    exact x_iret C hw h dX7_tell_40
  · have h := (it_d h).2 c
    refine lv_aload_n hx hb dX7_tell_9 rfl (lv_at hl 0 rfl) ?_
    refine lv_ldc (v := (-1000004)) hx hb hown (hts _ kwX7_62) dX7_tell_10 ?_
    obtain ⟨r1, S3, hv, h⟩ := b2_some h
    refine x_callVI C hw (mX7_finding hv) lkX7_49 rfl (Nat.le_of_ble_eq_true rfl) hl.1 rfl (Nat.le_of_ble_eq_true rfl) dX7_tell_12 (fun H locs hw => ?_)
    exact x_iret C hw h dX7_tell_15
set_option maxHeartbeats 4000000 in
set_option maxRecDepth 100000 in
theorem mX7_unstrike {N : Nat} {l : Launch} {D : va_G} {ad : Nat → Nat} {cI cZ : ClassId} {S Sz : SS} {rz : Int32} (h : fX7_unstrike N S  = some (rz, Sz)) : MI l D lyX ad cI cZ yX7_unstrike cX7_unstrike 1 (some .int) 2 [.ref (ad 0)] S rz Sz := by
  refine x_startI RX7 (by decide) rfl (Nat.le_of_ble_eq_true rfl) ?_
  intro p e s m args below meth c A C hw ls hl
  have hx := C.1
  have hb := C.2.1
  have hown := C.2.2.2.1
  have hts := C.2.2.2.2.1
  have hl : lv_has ls 1 [(0, .ref (ad 0))] := hl
  unfold fX7_unstrike at h
  refine lv_aload_n hx hb dX7_unstrike_0 rfl (lv_at hl 0 rfl) ?_
  refine x_getR C hw gtX7_12 dX7_unstrike_1 ?_
  refine x_getR C hw gtX7_89 dX7_unstrike_4 ?_
  refine x_getR C hw gtX7_178 dX7_unstrike_7 ?_
  refine x_getI C hw gtX7_182 dX7_unstrike_10 ?_
  refine lv_if_gt (tgt := 23) hx hb dX7_unstrike_13 (by decide) (fun c => ?_) (fun c => ?_)
  · have h := (it_d h).1 c
    refine lv_aload_n hx hb dX7_unstrike_23 rfl (lv_at hl 0 rfl) ?_
    refine x_getR C hw gtX7_12 dX7_unstrike_24 ?_
    refine x_getR C hw gtX7_89 dX7_unstrike_27 ?_
    refine x_getR C hw gtX7_178 dX7_unstrike_30 ?_
    refine lv_dup hx hb dX7_unstrike_33 rfl ?_
    refine x_getI C hw gtX7_182 dX7_unstrike_34 ?_
    refine lv_iconst (v := 1) hx hb dX7_unstrike_37 (by decide) ?_
    refine lv_isub hx hb dX7_unstrike_38 ?_
    obtain ⟨S1, hv, h⟩ := bb_some h
    refine x_putO C hw gpX7_182 hv rfl rfl dX7_unstrike_39 (fun H locs hw => ?_)
    refine lv_aload_n hx hb dX7_unstrike_42 rfl (lv_at hl 0 rfl) ?_
    refine x_getR C hw gtX7_12 dX7_unstrike_43 ?_
    refine x_getR C hw gtX7_89 dX7_unstrike_46 ?_
    refine x_getR C hw gtX7_178 dX7_unstrike_49 ?_
    refine x_getI C hw gtX7_182 dX7_unstrike_52 ?_
    exact x_iret C hw h dX7_unstrike_55
  · have h := (it_d h).2 c
    refine lv_aload_n hx hb dX7_unstrike_16 rfl (lv_at hl 0 rfl) ?_
    refine lv_ldc (v := (-1000002)) hx hb hown (hts _ kwX7_121) dX7_unstrike_17 ?_
    obtain ⟨r1, S2, hv, h⟩ := b2_some h
    refine x_callVI C hw (mX7_finding hv) lkX7_49 rfl (Nat.le_of_ble_eq_true rfl) hl.1 rfl (Nat.le_of_ble_eq_true rfl) dX7_unstrike_19 (fun H locs hw => ?_)
    exact x_iret C hw h dX7_unstrike_22
set_option maxHeartbeats 4000000 in
set_option maxRecDepth 100000 in
theorem mX7_wait {N : Nat} {l : Launch} {D : va_G} {ad : Nat → Nat} {cI cZ : ClassId} {S Sz : SS} {x1 : Int32} {rz : Int32} (h : fX7_wait N S x1 = some (rz, Sz)) : MI l D lyX ad cI cZ yX7_wait cX7_wait 2 (some .int) 2 [.ref (ad 0), .int x1] S rz Sz := by
  refine x_startI RX7 (by decide) rfl (Nat.le_of_ble_eq_true rfl) ?_
  intro p e s m args below meth c A C hw ls hl
  have hx := C.1
  have hb := C.2.1
  have hown := C.2.2.2.1
  have hts := C.2.2.2.2.1
  have hl : lv_has ls 2 [(0, .ref (ad 0)), (1, .int x1)] := hl
  unfold fX7_wait at h
  refine lv_aload_n hx hb dX7_wait_0 rfl (lv_at hl 0 rfl) ?_
  refine x_getR C hw gtX7_12 dX7_wait_1 ?_
  refine x_getR C hw gtX7_53 dX7_wait_4 ?_
  refine lv_iload_n hx hb dX7_wait_7 rfl (lv_at hl 1 rfl) ?_
  obtain ⟨r1, S1, hv, h⟩ := b2_some h
  refine x_callVI C hw (mX4_holds hv) lkX7_67 rfl (Nat.le_of_ble_eq_true rfl) hl.1 rfl (Nat.le_of_ble_eq_true rfl) dX7_wait_8 (fun H locs hw => ?_)
  refine lv_if_ne (tgt := 21) hx hb dX7_wait_11 (by decide) (fun c => ?_) (fun c => ?_)
  · have h := (it_d h).2 c
    refine lv_aload_n hx hb dX7_wait_21 rfl (lv_at hl 0 rfl) ?_
    refine x_getR C hw gtX7_19 dX7_wait_22 ?_
    refine lv_iload_n hx hb dX7_wait_25 rfl (lv_at hl 1 rfl) ?_
    obtain ⟨r2, S2, hv, h⟩ := b2_some h
    refine x_callVI C hw (mX1_holds hv) lkX7_191 rfl (Nat.le_of_ble_eq_true rfl) hl.1 rfl (Nat.le_of_ble_eq_true rfl) dX7_wait_26 (fun H locs hw => ?_)
    refine lv_if_eq (tgt := 39) hx hb dX7_wait_29 (by decide) (fun c => ?_) (fun c => ?_)
    · have h := (it_d h).1 c
      refine lv_aload_n hx hb dX7_wait_39 rfl (lv_at hl 0 rfl) ?_
      refine x_getR C hw gtX7_19 dX7_wait_40 ?_
      refine x_getI C hw gtX7_192 dX7_wait_43 ?_
      refine lv_iconst (v := 4) hx hb dX7_wait_46 (by decide) ?_
      refine lv_icmp_lt (tgt := 57) hx hb dX7_wait_47 (by decide) (fun c => ?_) (fun c => ?_)
      · have h := (it_d h).1 c
        refine lv_aload_n hx hb dX7_wait_57 rfl (lv_at hl 0 rfl) ?_
        refine x_getR C hw gtX7_19 dX7_wait_58 ?_
        refine lv_iload_n hx hb dX7_wait_61 rfl (lv_at hl 1 rfl) ?_
        obtain ⟨S3, hv, h⟩ := bb_some h
        refine x_callVV C hw (mX1_add hv) lkX7_193 rfl (Nat.le_of_ble_eq_true rfl) hl.1 rfl (Nat.le_of_ble_eq_true rfl) dX7_wait_62 (fun H locs hw => ?_)
        refine lv_aload_n hx hb dX7_wait_65 rfl (lv_at hl 0 rfl) ?_
        refine x_getR C hw gtX7_19 dX7_wait_66 ?_
        refine x_getI C hw gtX7_192 dX7_wait_69 ?_
        exact x_iret C hw h dX7_wait_72
      · have h := (it_d h).2 c
        refine lv_aload_n hx hb dX7_wait_50 rfl (lv_at hl 0 rfl) ?_
        refine lv_ldc (v := (-1000004)) hx hb hown (hts _ kwX7_62) dX7_wait_51 ?_
        obtain ⟨r3, S4, hv, h⟩ := b2_some h
        refine x_callVI C hw (mX7_finding hv) lkX7_49 rfl (Nat.le_of_ble_eq_true rfl) hl.1 rfl (Nat.le_of_ble_eq_true rfl) dX7_wait_53 (fun H locs hw => ?_)
        exact x_iret C hw h dX7_wait_56
    · have h := (it_d h).2 c
      refine lv_aload_n hx hb dX7_wait_32 rfl (lv_at hl 0 rfl) ?_
      refine lv_ldc (v := (-1000003)) hx hb hown (hts _ kwX7_151) dX7_wait_33 ?_
      obtain ⟨r4, S5, hv, h⟩ := b2_some h
      refine x_callVI C hw (mX7_finding hv) lkX7_49 rfl (Nat.le_of_ble_eq_true rfl) hl.1 rfl (Nat.le_of_ble_eq_true rfl) dX7_wait_35 (fun H locs hw => ?_)
      exact x_iret C hw h dX7_wait_38
  · have h := (it_d h).1 c
    refine lv_aload_n hx hb dX7_wait_14 rfl (lv_at hl 0 rfl) ?_
    refine lv_ldc (v := (-1000001)) hx hb hown (hts _ kwX7_48) dX7_wait_15 ?_
    obtain ⟨r5, S6, hv, h⟩ := b2_some h
    refine x_callVI C hw (mX7_finding hv) lkX7_49 rfl (Nat.le_of_ble_eq_true rfl) hl.1 rfl (Nat.le_of_ble_eq_true rfl) dX7_wait_17 (fun H locs hw => ?_)
    exact x_iret C hw h dX7_wait_20
set_option maxHeartbeats 4000000 in
set_option maxRecDepth 100000 in
theorem mX7_way {N : Nat} {l : Launch} {D : va_G} {ad : Nat → Nat} {cI cZ : ClassId} {S Sz : SS} {x1 x2 : Int32} {rz : Int32} (h : fX7_way N S x1 x2 = some (rz, Sz)) : MI l D lyX ad cI cZ yX7_way cX7_way 4 (some .int) 2 [.ref (ad 0), .int x1, .int x2] S rz Sz := by
  refine x_startI RX7 (by decide) rfl (Nat.le_of_ble_eq_true rfl) ?_
  intro p e s m args below meth c A C hw ls hl
  have hx := C.1
  have hb := C.2.1
  have hown := C.2.2.2.1
  have hts := C.2.2.2.2.1
  have hl : lv_has ls 4 [(0, .ref (ad 0)), (1, .int x1), (2, .int x2)] := hl
  have B16 : ∀ (S : SS) (H : Heap) (locs : List Loc) (ls : Array Slot), fX7_way_b16 N S = some (rz, Sz) → WH D A s.heap lyX ad cI cZ S H locs → lv_has ls 4 [(0, .ref (ad 0))] → W p l e (rmK 2) s m args below meth c H locs 0 0 (MQ below (Qi D lyX ad cI cZ A rz Sz) args s 0 0 A) (F0 m 16 ls []) := by
    intro S  H locs ls h hw hl
    unfold fX7_way_b16 at h
    refine lv_aload_n hx hb dX7_way_16 rfl (lv_at hl 0 rfl) ?_
    refine lv_ldc (v := (-1000001)) hx hb hown (hts _ kwX7_48) dX7_way_17 ?_
    obtain ⟨r1, S1, hv, h⟩ := b2_some h
    refine x_callVI C hw (mX7_finding hv) lkX7_49 rfl (Nat.le_of_ble_eq_true rfl) hl.1 rfl (Nat.le_of_ble_eq_true rfl) dX7_way_19 (fun H locs hw => ?_)
    exact x_iret C hw h dX7_way_22
  unfold fX7_way at h
  refine lv_iload_n hx hb dX7_way_0 rfl (lv_at hl 1 rfl) ?_
  obtain ⟨r1, S1, hv, h⟩ := b2_some h
  refine x_callSI C hw (mX7_isUnion hv) lkX7_83 rfl (Nat.le_of_ble_eq_true rfl) hl.1 rfl (Nat.le_of_ble_eq_true rfl) dX7_way_1 (fun H locs hw => ?_)
  refine lv_if_eq (tgt := 16) hx hb dX7_way_4 (by decide) (fun c => ?_) (fun c => ?_)
  · have h := (it_d h).1 c
    exact B16 S1 _ _ ls h hw (lv_sub hl [0] rfl)
  · have h := (it_d h).2 c
    refine lv_iload_n hx hb dX7_way_7 rfl (lv_at hl 2 rfl) ?_
    refine lv_iconst (v := 0) hx hb dX7_way_8 (by decide) ?_
    refine lv_iconst (v := 1) hx hb dX7_way_9 (by decide) ?_
    obtain ⟨r2, S2, hv, h⟩ := b2_some h
    refine x_callSI C hw (mX7_isWithin hv) lkX7_44 rfl (Nat.le_of_ble_eq_true rfl) hl.1 rfl (Nat.le_of_ble_eq_true rfl) dX7_way_10 (fun H locs hw => ?_)
    refine lv_if_ne (tgt := 23) hx hb dX7_way_13 (by decide) (fun c => ?_) (fun c => ?_)
    · have h := (it_d h).2 c
      refine lv_aload_n hx hb dX7_way_23 rfl (lv_at hl 0 rfl) ?_
      refine x_getR C hw gtX7_12 dX7_way_24 ?_
      refine x_getR C hw gtX7_89 dX7_way_27 ?_
      refine x_getR C hw gtX7_102 dX7_way_30 ?_
      refine lv_iload_n hx hb dX7_way_33 rfl (lv_at hl 1 rfl) ?_
      obtain ⟨v1, hv, h⟩ := bb_some h
      refine x_ald C hw alX_21 hv dX7_way_34 ?_
      refine lv_istore_n (lv' := [(3, .int v1), (0, .ref (ad 0)), (1, .int x1), (2, .int x2)]) hx hb dX7_way_35 rfl hl (by decide) rfl (fun ls hl => ?_)
      refine lv_aload_n hx hb dX7_way_36 rfl (lv_at hl 1 rfl) ?_
      refine x_getR C hw gtX7_12 dX7_way_37 ?_
      refine x_getR C hw gtX7_89 dX7_way_40 ?_
      refine x_getR C hw gtX7_102 dX7_way_43 ?_
      refine lv_iload_n hx hb dX7_way_46 rfl (lv_at hl 2 rfl) ?_
      refine lv_iload_n hx hb dX7_way_47 rfl (lv_at hl 3 rfl) ?_
      obtain ⟨S3, hv, h⟩ := bb_some h
      refine x_ast C hw alX_21 hv dX7_way_48 (fun H locs hw => ?_)
      refine lv_iload_n hx hb dX7_way_49 rfl (lv_at hl 0 rfl) ?_
      exact x_iret C hw h dX7_way_50
    · have h := (it_d h).1 c
      exact B16 S2 _ _ ls h hw (lv_sub hl [0] rfl)
set_option maxHeartbeats 4000000 in
set_option maxRecDepth 100000 in
theorem mX7_why {N : Nat} {l : Launch} {D : va_G} {ad : Nat → Nat} {cI cZ : ClassId} {S Sz : SS} {x1 x2 x3 x4 : Int32} {rz : Int32} (h : fX7_why N S x1 x2 x3 x4 = some (rz, Sz)) : MI l D lyX ad cI cZ yX7_why cX7_why 5 (some .int) 3 [.ref (ad 0), .int x1, .int x2, .int x3, .int x4] S rz Sz := by
  refine x_startI RX7 (by decide) rfl (Nat.le_of_ble_eq_true rfl) ?_
  intro p e s m args below meth c A C hw ls hl
  have hx := C.1
  have hb := C.2.1
  have hown := C.2.2.2.1
  have hts := C.2.2.2.2.1
  have hl : lv_has ls 5 [(0, .ref (ad 0)), (1, .int x1), (2, .int x2), (3, .int x3), (4, .int x4)] := hl
  unfold fX7_why at h
  refine lv_aload_n hx hb dX7_why_0 rfl (lv_at hl 0 rfl) ?_
  refine lv_iload_n hx hb dX7_why_1 rfl (lv_at hl 1 rfl) ?_
  refine lv_iload_n hx hb dX7_why_2 rfl (lv_at hl 2 rfl) ?_
  refine lv_iload_n hx hb dX7_why_3 rfl (lv_at hl 3 rfl) ?_
  refine lv_iload hx hb dX7_why_4 (lv_at hl 4 rfl) ?_
  obtain ⟨r1, S1, hv, h⟩ := b2_some h
  refine x_callVI C hw (mX7_isAsked hv) lkX7_129 rfl (Nat.le_of_ble_eq_true rfl) hl.1 rfl (Nat.le_of_ble_eq_true rfl) dX7_why_6 (fun H locs hw => ?_)
  refine lv_if_ne (tgt := 19) hx hb dX7_why_9 (by decide) (fun c => ?_) (fun c => ?_)
  · have h := (it_d h).2 c
    refine lv_aload_n hx hb dX7_why_19 rfl (lv_at hl 0 rfl) ?_
    refine x_getR C hw gtX7_12 dX7_why_20 ?_
    refine x_getR C hw gtX7_89 dX7_why_23 ?_
    refine lv_iload hx hb dX7_why_26 (lv_at hl 4 rfl) ?_
    obtain ⟨S2, hv, h⟩ := bb_some h
    refine x_callVV C hw (mX2_know hv) lkX7_122 rfl (Nat.le_of_ble_eq_true rfl) hl.1 rfl (Nat.le_of_ble_eq_true rfl) dX7_why_28 (fun H locs hw => ?_)
    refine lv_aload_n hx hb dX7_why_31 rfl (lv_at hl 0 rfl) ?_
    refine x_getR C hw gtX7_12 dX7_why_32 ?_
    refine lv_iload_n hx hb dX7_why_35 rfl (lv_at hl 1 rfl) ?_
    refine lv_iload_n hx hb dX7_why_36 rfl (lv_at hl 2 rfl) ?_
    refine lv_iload_n hx hb dX7_why_37 rfl (lv_at hl 3 rfl) ?_
    refine lv_iload hx hb dX7_why_38 (lv_at hl 4 rfl) ?_
    obtain ⟨r2, S3, hv, h⟩ := b2_some h
    refine x_callVI C hw (mX0_whyNot hv) lkX7_133 rfl (Nat.le_of_ble_eq_true rfl) hl.1 rfl (Nat.le_of_ble_eq_true rfl) dX7_why_40 (fun H locs hw => ?_)
    exact x_iret C hw h dX7_why_43
  · have h := (it_d h).1 c
    refine lv_aload_n hx hb dX7_why_12 rfl (lv_at hl 0 rfl) ?_
    refine lv_ldc (v := (-1000001)) hx hb hown (hts _ kwX7_48) dX7_why_13 ?_
    obtain ⟨r3, S4, hv, h⟩ := b2_some h
    refine x_callVI C hw (mX7_finding hv) lkX7_49 rfl (Nat.le_of_ble_eq_true rfl) hl.1 rfl (Nat.le_of_ble_eq_true rfl) dX7_why_15 (fun H locs hw => ?_)
    exact x_iret C hw h dX7_why_18
set_option maxHeartbeats 4000000 in
set_option maxRecDepth 100000 in
theorem mX7_worth {N : Nat} {l : Launch} {D : va_G} {ad : Nat → Nat} {cI cZ : ClassId} {S Sz : SS} {x1 x2 x3 x4 : Int32} {rz : Int32} (h : fX7_worth N S x1 x2 x3 x4 = some (rz, Sz)) : MI l D lyX ad cI cZ yX7_worth cX7_worth 6 (some .int) 2 [.ref (ad 0), .int x1, .int x2, .int x3, .int x4] S rz Sz := by
  refine x_startI RX7 (by decide) rfl (Nat.le_of_ble_eq_true rfl) ?_
  intro p e s m args below meth c A C hw ls hl
  have hx := C.1
  have hb := C.2.1
  have hown := C.2.2.2.1
  have hts := C.2.2.2.2.1
  have hl : lv_has ls 6 [(0, .ref (ad 0)), (1, .int x1), (2, .int x2), (3, .int x3), (4, .int x4)] := hl
  have B37 : ∀ (S : SS) (H : Heap) (locs : List Loc) (ls : Array Slot), fX7_worth_b37 N S = some (rz, Sz) → WH D A s.heap lyX ad cI cZ S H locs → lv_has ls 6 [(0, .ref (ad 0))] → W p l e (rmK 2) s m args below meth c H locs 0 0 (MQ below (Qi D lyX ad cI cZ A rz Sz) args s 0 0 A) (F0 m 37 ls []) := by
    intro S  H locs ls h hw hl
    unfold fX7_worth_b37 at h
    refine lv_aload_n hx hb dX7_worth_37 rfl (lv_at hl 0 rfl) ?_
    refine lv_ldc (v := (-1000001)) hx hb hown (hts _ kwX7_48) dX7_worth_38 ?_
    obtain ⟨r1, S1, hv, h⟩ := b2_some h
    refine x_callVI C hw (mX7_finding hv) lkX7_49 rfl (Nat.le_of_ble_eq_true rfl) hl.1 rfl (Nat.le_of_ble_eq_true rfl) dX7_worth_40 (fun H locs hw => ?_)
    exact x_iret C hw h dX7_worth_43
  unfold fX7_worth at h
  refine lv_iload_n hx hb dX7_worth_0 rfl (lv_at hl 1 rfl) ?_
  obtain ⟨r1, S1, hv, h⟩ := b2_some h
  refine x_callSI C hw (mX7_isUnion hv) lkX7_83 rfl (Nat.le_of_ble_eq_true rfl) hl.1 rfl (Nat.le_of_ble_eq_true rfl) dX7_worth_1 (fun H locs hw => ?_)
  refine lv_if_eq (tgt := 37) hx hb dX7_worth_4 (by decide) (fun c => ?_) (fun c => ?_)
  · have h := (it_d h).1 c
    exact B37 S1 _ _ ls h hw (lv_sub hl [0] rfl)
  · have h := (it_d h).2 c
    refine lv_iload_n hx hb dX7_worth_7 rfl (lv_at hl 2 rfl) ?_
    obtain ⟨r2, S2, hv, h⟩ := b2_some h
    refine x_callSI C hw (mX7_isUnion hv) lkX7_83 rfl (Nat.le_of_ble_eq_true rfl) hl.1 rfl (Nat.le_of_ble_eq_true rfl) dX7_worth_8 (fun H locs hw => ?_)
    refine lv_if_eq (tgt := 37) hx hb dX7_worth_11 (by decide) (fun c => ?_) (fun c => ?_)
    · have h := (it_d h).1 c
      exact B37 S2 _ _ ls h hw (lv_sub hl [0] rfl)
    · have h := (it_d h).2 c
      refine lv_iload_n hx hb dX7_worth_14 rfl (lv_at hl 3 rfl) ?_
      obtain ⟨r3, S3, hv, h⟩ := b2_some h
      refine x_callSI C hw (mX7_isGrade hv) lkX7_86 rfl (Nat.le_of_ble_eq_true rfl) hl.1 rfl (Nat.le_of_ble_eq_true rfl) dX7_worth_15 (fun H locs hw => ?_)
      refine lv_if_eq (tgt := 37) hx hb dX7_worth_18 (by decide) (fun c => ?_) (fun c => ?_)
      · have h := (it_d h).1 c
        exact B37 S3 _ _ ls h hw (lv_sub hl [0] rfl)
      · have h := (it_d h).2 c
        refine lv_iload_n hx hb dX7_worth_21 rfl (lv_at hl 1 rfl) ?_
        refine lv_iload_n hx hb dX7_worth_22 rfl (lv_at hl 2 rfl) ?_
        refine lv_icmp_eq (tgt := 37) hx hb dX7_worth_23 (by decide) (fun c => ?_) (fun c => ?_)
        · have h := (it_d h).1 c
          exact B37 S3 _ _ ls h hw (lv_sub hl [0] rfl)
        · have h := (it_d h).2 c
          refine lv_iload hx hb dX7_worth_26 (lv_at hl 4 rfl) ?_
          refine lv_iconst (v := 0) hx hb dX7_worth_28 (by decide) ?_
          refine lv_bipush (v := 10) hx hb dX7_worth_29 (by decide) ?_
          obtain ⟨r4, S4, hv, h⟩ := b2_some h
          refine x_callSI C hw (mX7_isWithin hv) lkX7_44 rfl (Nat.le_of_ble_eq_true rfl) hl.1 rfl (Nat.le_of_ble_eq_true rfl) dX7_worth_31 (fun H locs hw => ?_)
          refine lv_if_ne (tgt := 44) hx hb dX7_worth_34 (by decide) (fun c => ?_) (fun c => ?_)
          · have h := (it_d h).2 c
            refine lv_aload_n hx hb dX7_worth_44 rfl (lv_at hl 0 rfl) ?_
            refine x_getR C hw gtX7_12 dX7_worth_45 ?_
            refine x_getR C hw gtX7_89 dX7_worth_48 ?_
            refine lv_iload_n hx hb dX7_worth_51 rfl (lv_at hl 1 rfl) ?_
            refine lv_iload_n hx hb dX7_worth_52 rfl (lv_at hl 2 rfl) ?_
            refine lv_iload_n hx hb dX7_worth_53 rfl (lv_at hl 3 rfl) ?_
            obtain ⟨r5, S5, hv, h⟩ := b2_some h
            refine x_callVI C hw (mX2_value hv) lkX7_93 rfl (Nat.le_of_ble_eq_true rfl) hl.1 rfl (Nat.le_of_ble_eq_true rfl) dX7_worth_54 (fun H locs hw => ?_)
            refine lv_istore (lv' := [(5, .int r5), (0, .ref (ad 0)), (1, .int x1), (2, .int x2), (3, .int x3), (4, .int x4)]) hx hb dX7_worth_57 hl (by decide) rfl (fun ls hl => ?_)
            refine lv_aload_n hx hb dX7_worth_59 rfl (lv_at hl 1 rfl) ?_
            refine x_getR C hw gtX7_12 dX7_worth_60 ?_
            refine x_getR C hw gtX7_89 dX7_worth_63 ?_
            refine lv_iload_n hx hb dX7_worth_66 rfl (lv_at hl 2 rfl) ?_
            refine lv_iload_n hx hb dX7_worth_67 rfl (lv_at hl 3 rfl) ?_
            refine lv_iload_n hx hb dX7_worth_68 rfl (lv_at hl 4 rfl) ?_
            refine lv_iload hx hb dX7_worth_69 (lv_at hl 5 rfl) ?_
            obtain ⟨S6, hv, h⟩ := bb_some h
            refine x_callVV C hw (mX2_setValue hv) lkX7_98 rfl (Nat.le_of_ble_eq_true rfl) hl.1 rfl (Nat.le_of_ble_eq_true rfl) dX7_worth_71 (fun H locs hw => ?_)
            refine lv_iload hx hb dX7_worth_74 (lv_at hl 0 rfl) ?_
            exact x_iret C hw h dX7_worth_76
          · have h := (it_d h).1 c
            exact B37 S4 _ _ ls h hw (lv_sub hl [0] rfl)
set_option maxHeartbeats 4000000 in
set_option maxRecDepth 100000 in
theorem mX8_worthAt {N : Nat} {l : Launch} {D : va_G} {ad : Nat → Nat} {cI cZ : ClassId} {S Sz : SS} {x0 x1 x2 : Int32} {rz : Int32} (h : fX8_worthAt N S x0 x1 x2 = some (rz, Sz)) : MI l D lyM ad cI cZ yX8_worthAt cX8_worthAt 3 (some .int) 0 [.int x0, .int x1, .int x2] S rz Sz := by
  refine x_startI RX8 (by decide) rfl (Nat.le_of_ble_eq_true rfl) ?_
  intro p e s m args below meth c A C hw ls hl
  have hx := C.1
  have hb := C.2.1
  have hown := C.2.2.2.1
  have hts := C.2.2.2.2.1
  have hl : lv_has ls 3 [(0, .int x0), (1, .int x1), (2, .int x2)] := hl
  unfold fX8_worthAt at h
  refine lv_iconst (v := 3) hx hb dX8_worthAt_0 (by decide) ?_
  refine lv_iload_n hx hb dX8_worthAt_1 rfl (lv_at hl 0 rfl) ?_
  refine lv_imul hx hb dX8_worthAt_2 ?_
  refine lv_iload_n hx hb dX8_worthAt_3 rfl (lv_at hl 1 rfl) ?_
  refine lv_iadd hx hb dX8_worthAt_4 ?_
  refine lv_bipush (v := 11) hx hb dX8_worthAt_5 (by decide) ?_
  refine lv_imul hx hb dX8_worthAt_7 ?_
  refine lv_iload_n hx hb dX8_worthAt_8 rfl (lv_at hl 2 rfl) ?_
  refine lv_iadd hx hb dX8_worthAt_9 ?_
  exact x_iret C hw h dX8_worthAt_10
set_option maxHeartbeats 4000000 in
set_option maxRecDepth 100000 in
theorem mX8_counts {N : Nat} {l : Launch} {D : va_G} {ad : Nat → Nat} {cI cZ : ClassId} {S Sz : SS} {x1 x2 x3 : Int32} {rz : Int32} (h : fX8_counts N S x1 x2 x3 = some (rz, Sz)) : MI l D lyM ad cI cZ yX8_counts cX8_counts 4 (some .int) 1 [.ref (ad 0), .int x1, .int x2, .int x3] S rz Sz := by
  refine x_startI RX8 (by decide) rfl (Nat.le_of_ble_eq_true rfl) ?_
  intro p e s m args below meth c A C hw ls hl
  have hx := C.1
  have hb := C.2.1
  have hown := C.2.2.2.1
  have hts := C.2.2.2.2.1
  have hl : lv_has ls 4 [(0, .ref (ad 0)), (1, .int x1), (2, .int x2), (3, .int x3)] := hl
  unfold fX8_counts at h
  refine lv_iload_n hx hb dX8_counts_0 rfl (lv_at hl 1 rfl) ?_
  refine lv_iload_n hx hb dX8_counts_1 rfl (lv_at hl 2 rfl) ?_
  refine lv_icmp_ne (tgt := 9) hx hb dX8_counts_2 (by decide) (fun c => ?_) (fun c => ?_)
  · have h := (it_d h).2 c
    refine lv_aload_n hx hb dX8_counts_9 rfl (lv_at hl 0 rfl) ?_
    refine x_getR C hw gtX8_25 dX8_counts_10 ?_
    refine lv_iload_n hx hb dX8_counts_13 rfl (lv_at hl 1 rfl) ?_
    refine lv_iload_n hx hb dX8_counts_14 rfl (lv_at hl 2 rfl) ?_
    refine lv_iload_n hx hb dX8_counts_15 rfl (lv_at hl 3 rfl) ?_
    obtain ⟨r1, S1, hv, h⟩ := b2_some h
    refine x_callSI C hw (mX8_worthAt hv) lkX8_142 rfl (Nat.le_of_ble_eq_true rfl) hl.1 rfl (Nat.le_of_ble_eq_true rfl) dX8_counts_16 (fun H locs hw => ?_)
    obtain ⟨v1, hv, h⟩ := bb_some h
    refine x_ald C hw alM_6 hv dX8_counts_19 ?_
    exact x_iret C hw h dX8_counts_20
  · have h := (it_d h).1 c
    refine lv_iload_n hx hb dX8_counts_5 rfl (lv_at hl 3 rfl) ?_
    refine lv_goto (tgt := 20) hx hb dX8_counts_6 (by decide) ?_
    exact x_iret C hw h dX8_counts_20
set_option maxHeartbeats 4000000 in
set_option maxRecDepth 100000 in
theorem mX8_hasOf {N : Nat} {l : Launch} {D : va_G} {ad : Nat → Nat} {cI cZ : ClassId} {S Sz : SS} {x1 x2 x3 : Int32} {rz : Int32} (h : fX8_hasOf N S x1 x2 x3 = some (rz, Sz)) : MI l D lyM ad cI cZ yX8_hasOf cX8_hasOf 6 (some .int) 2 [.ref (ad 0), .int x1, .int x2, .int x3] S rz Sz := by
  refine x_startI RX8 (by decide) rfl (Nat.le_of_ble_eq_true rfl) ?_
  intro p e s m args below meth c A C hw ls hl
  have hx := C.1
  have hb := C.2.1
  have hown := C.2.2.2.1
  have hts := C.2.2.2.2.1
  have hl : lv_has ls 6 [(0, .ref (ad 0)), (1, .int x1), (2, .int x2), (3, .int x3)] := hl
  have B6 : ∀ n : Nat, ∀ (S : SS) (x1 x2 x3 x4 x5 : Int32) (H : Heap) (locs : List Loc) (ls : Array Slot), fX8_hasOf_b6 N n S x1 x2 x3 x4 x5 = some (rz, Sz) → WH D A s.heap lyM ad cI cZ S H locs → lv_has ls 6 [(0, .ref (ad 0)), (1, .int x1), (2, .int x2), (3, .int x3), (4, .int x4), (5, .int x5)] → W p l e (rmK 2) s m args below meth c H locs 0 0 (MQ below (Qi D lyM ad cI cZ A rz Sz) args s 0 0 A) (F0 m 6 ls []) := by
    intro n
    induction n with
    | zero =>
      intro S x1 x2 x3 x4 x5 H locs ls h hw hl
      rw [fX8_hasOf_b6] at h
      cases h
    | succ n ih6 =>
      intro S x1 x2 x3 x4 x5 H locs ls h hw hl
      rw [fX8_hasOf_b6] at h
      refine lv_iload hx hb dX8_hasOf_6 (lv_at hl 5 rfl) ?_
      refine lv_aload_n hx hb dX8_hasOf_8 rfl (lv_at hl 0 rfl) ?_
      refine x_getI C hw gtX8_159 dX8_hasOf_9 ?_
      refine lv_icmp_ge (tgt := 79) hx hb dX8_hasOf_12 (by decide) (fun c => ?_) (fun c => ?_)
      · have h := (it_d h).1 c
        refine lv_iload hx hb dX8_hasOf_79 (lv_at hl 4 rfl) ?_
        exact x_iret C hw h dX8_hasOf_81
      · have h := (it_d h).2 c
        refine lv_aload_n hx hb dX8_hasOf_15 rfl (lv_at hl 0 rfl) ?_
        refine x_getR C hw gtX8_94 dX8_hasOf_16 ?_
        refine lv_iload hx hb dX8_hasOf_19 (lv_at hl 5 rfl) ?_
        obtain ⟨v1, hv, h⟩ := bb_some h
        refine x_zald C hw alM_29 hv dX8_hasOf_21 ?_
        refine lv_if_eq (tgt := 73) hx hb dX8_hasOf_22 (by decide) (fun c => ?_) (fun c => ?_)
        · have h := (it_d h).1 c
          refine lv_iinc (v := (x5 + 1)) (lv' := [(5, .int (x5 + 1)), (0, .ref (ad 0)), (1, .int x1), (2, .int x2), (3, .int x3), (4, .int x4)]) hx hb dX8_hasOf_73 hl (k := 5) rfl rfl (by decide) rfl (fun ls hl => ?_)
          refine lv_goto (tgt := 6) hx hb dX8_hasOf_76 (by decide) ?_
          exact ih6 S x1 x2 x3 x4 (x5 + 1) _ _ ls h hw (lv_sub hl [1, 2, 3, 4, 5, 0] rfl)
        · have h := (it_d h).2 c
          refine lv_aload_n hx hb dX8_hasOf_25 rfl (lv_at hl 0 rfl) ?_
          refine x_getR C hw gtX8_49 dX8_hasOf_26 ?_
          refine lv_iload hx hb dX8_hasOf_29 (lv_at hl 5 rfl) ?_
          obtain ⟨v2, hv, h⟩ := bb_some h
          refine x_ald C hw alM_14 hv dX8_hasOf_31 ?_
          refine lv_iload_n hx hb dX8_hasOf_32 rfl (lv_at hl 1 rfl) ?_
          refine lv_icmp_ne (tgt := 73) hx hb dX8_hasOf_33 (by decide) (fun c => ?_) (fun c => ?_)
          · have h := (it_d h).2 c
            refine lv_iinc (v := (x5 + 1)) (lv' := [(5, .int (x5 + 1)), (0, .ref (ad 0)), (1, .int x1), (2, .int x2), (3, .int x3), (4, .int x4)]) hx hb dX8_hasOf_73 hl (k := 5) rfl rfl (by decide) rfl (fun ls hl => ?_)
            refine lv_goto (tgt := 6) hx hb dX8_hasOf_76 (by decide) ?_
            exact ih6 S x1 x2 x3 x4 (x5 + 1) _ _ ls h hw (lv_sub hl [1, 2, 3, 4, 5, 0] rfl)
          · have h := (it_d h).1 c
            refine lv_aload_n hx hb dX8_hasOf_36 rfl (lv_at hl 0 rfl) ?_
            refine x_getR C hw gtX8_58 dX8_hasOf_37 ?_
            refine lv_iload hx hb dX8_hasOf_40 (lv_at hl 5 rfl) ?_
            obtain ⟨v3, hv, h⟩ := bb_some h
            refine x_ald C hw alM_17 hv dX8_hasOf_42 ?_
            refine lv_iload_n hx hb dX8_hasOf_43 rfl (lv_at hl 3 rfl) ?_
            refine lv_icmp_gt (tgt := 73) hx hb dX8_hasOf_44 (by decide) (fun c => ?_) (fun c => ?_)
            · have h := (it_d h).1 c
              refine lv_iinc (v := (x5 + 1)) (lv' := [(5, .int (x5 + 1)), (0, .ref (ad 0)), (1, .int x1), (2, .int x2), (3, .int x3), (4, .int x4)]) hx hb dX8_hasOf_73 hl (k := 5) rfl rfl (by decide) rfl (fun ls hl => ?_)
              refine lv_goto (tgt := 6) hx hb dX8_hasOf_76 (by decide) ?_
              exact ih6 S x1 x2 x3 x4 (x5 + 1) _ _ ls h hw (lv_sub hl [1, 2, 3, 4, 5, 0] rfl)
            · have h := (it_d h).2 c
              refine lv_iload hx hb dX8_hasOf_47 (lv_at hl 4 rfl) ?_
              refine lv_aload_n hx hb dX8_hasOf_49 rfl (lv_at hl 0 rfl) ?_
              refine lv_iload_n hx hb dX8_hasOf_50 rfl (lv_at hl 2 rfl) ?_
              refine lv_aload_n hx hb dX8_hasOf_51 rfl (lv_at hl 0 rfl) ?_
              refine x_getR C hw gtX8_52 dX8_hasOf_52 ?_
              refine lv_iload hx hb dX8_hasOf_55 (lv_at hl 5 rfl) ?_
              obtain ⟨v4, hv, h⟩ := bb_some h
              refine x_ald C hw alM_15 hv dX8_hasOf_57 ?_
              refine lv_aload_n hx hb dX8_hasOf_58 rfl (lv_at hl 0 rfl) ?_
              refine x_getR C hw gtX8_55 dX8_hasOf_59 ?_
              refine lv_iload hx hb dX8_hasOf_62 (lv_at hl 5 rfl) ?_
              obtain ⟨v5, hv, h⟩ := bb_some h
              refine x_ald C hw alM_16 hv dX8_hasOf_64 ?_
              obtain ⟨r1, S1, hv, h⟩ := b2_some h
              refine x_callVI C hw (mX8_counts hv) lkX8_162 rfl (Nat.le_of_ble_eq_true rfl) hl.1 rfl (Nat.le_of_ble_eq_true rfl) dX8_hasOf_65 (fun H locs hw => ?_)
              refine x_mx C mkX8_165 (Nat.le_of_ble_eq_true rfl) hl.1 (Nat.le_of_ble_eq_true rfl) dX8_hasOf_68 ?_
              refine lv_istore (lv' := [(4, .int (mx x4 r1)), (0, .ref (ad 0)), (1, .int x1), (2, .int x2), (3, .int x3), (5, .int x5)]) hx hb dX8_hasOf_71 hl (by decide) rfl (fun ls hl => ?_)
              refine lv_iinc (v := (x5 + 1)) (lv' := [(5, .int (x5 + 1)), (4, .int (mx x4 r1)), (0, .ref (ad 0)), (1, .int x1), (2, .int x2), (3, .int x3)]) hx hb dX8_hasOf_73 hl (k := 5) rfl rfl (by decide) rfl (fun ls hl => ?_)
              refine lv_goto (tgt := 6) hx hb dX8_hasOf_76 (by decide) ?_
              exact ih6 S1 x1 x2 x3 (mx x4 r1) (x5 + 1) _ _ ls h hw (lv_sub hl [2, 3, 4, 5, 1, 0] rfl)
  unfold fX8_hasOf at h
  refine lv_iconst (v := 0) hx hb dX8_hasOf_0 (by decide) ?_
  refine lv_istore (lv' := [(4, .int 0), (0, .ref (ad 0)), (1, .int x1), (2, .int x2), (3, .int x3)]) hx hb dX8_hasOf_1 hl (by decide) rfl (fun ls hl => ?_)
  refine lv_iconst (v := 0) hx hb dX8_hasOf_3 (by decide) ?_
  refine lv_istore (lv' := [(5, .int 0), (4, .int 0), (0, .ref (ad 0)), (1, .int x1), (2, .int x2), (3, .int x3)]) hx hb dX8_hasOf_4 hl (by decide) rfl (fun ls hl => ?_)
  exact B6 N S x1 x2 x3 0 0 _ _ ls h hw (lv_sub hl [2, 3, 4, 5, 1, 0] rfl)
set_option maxHeartbeats 4000000 in
set_option maxRecDepth 100000 in
theorem mX8_isStruck {N : Nat} {l : Launch} {D : va_G} {ad : Nat → Nat} {cI cZ : ClassId} {S Sz : SS} {x1 x2 x3 : Int32} {rz : Int32} (h : fX8_isStruck N S x1 x2 x3 = some (rz, Sz)) : MI l D lyM ad cI cZ yX8_isStruck cX8_isStruck 6 (some .boolean) 0 [.ref (ad 0), .int x1, .int x2, .int x3] S rz Sz := by
  refine x_startI RX8 (by decide) rfl (Nat.le_of_ble_eq_true rfl) ?_
  intro p e s m args below meth c A C hw ls hl
  have hx := C.1
  have hb := C.2.1
  have hown := C.2.2.2.1
  have hts := C.2.2.2.2.1
  have hl : lv_has ls 6 [(0, .ref (ad 0)), (1, .int x1), (2, .int x2), (3, .int x3)] := hl
  have B6 : ∀ n : Nat, ∀ (S : SS) (x1 x2 x3 x4 x5 : Int32) (H : Heap) (locs : List Loc) (ls : Array Slot), fX8_isStruck_b6 N n S x1 x2 x3 x4 x5 = some (rz, Sz) → WH D A s.heap lyM ad cI cZ S H locs → lv_has ls 6 [(0, .ref (ad 0)), (1, .int x1), (2, .int x2), (3, .int x3), (4, .int x4), (5, .int x5)] → W p l e (rmK 0) s m args below meth c H locs 0 0 (MQ below (Qi D lyM ad cI cZ A rz Sz) args s 0 0 A) (F0 m 6 ls []) := by
    intro n
    induction n with
    | zero =>
      intro S x1 x2 x3 x4 x5 H locs ls h hw hl
      rw [fX8_isStruck_b6] at h
      cases h
    | succ n ih6 =>
      intro S x1 x2 x3 x4 x5 H locs ls h hw hl
      rw [fX8_isStruck_b6] at h
      refine lv_iload hx hb dX8_isStruck_6 (lv_at hl 5 rfl) ?_
      refine lv_aload_n hx hb dX8_isStruck_8 rfl (lv_at hl 0 rfl) ?_
      refine x_getI C hw gtX8_153 dX8_isStruck_9 ?_
      refine lv_icmp_ge (tgt := 66) hx hb dX8_isStruck_12 (by decide) (fun c => ?_) (fun c => ?_)
      · have h := (it_d h).1 c
        refine lv_iload hx hb dX8_isStruck_66 (lv_at hl 4 rfl) ?_
        exact x_zret C hw h dX8_isStruck_68
      · have h := (it_d h).2 c
        refine lv_iload hx hb dX8_isStruck_15 (lv_at hl 4 rfl) ?_
        refine lv_if_ne (tgt := 53) hx hb dX8_isStruck_17 (by decide) (fun c => ?_) (fun c => ?_)
        · have h := (it_d h).2 c
          refine lv_iconst (v := 1) hx hb dX8_isStruck_53 (by decide) ?_
          refine lv_goto (tgt := 58) hx hb dX8_isStruck_54 (by decide) ?_
          refine lv_istore (lv' := [(4, .int 1), (0, .ref (ad 0)), (1, .int x1), (2, .int x2), (3, .int x3), (5, .int x5)]) hx hb dX8_isStruck_58 hl (by decide) rfl (fun ls hl => ?_)
          refine lv_iinc (v := (x5 + 1)) (lv' := [(5, .int (x5 + 1)), (4, .int 1), (0, .ref (ad 0)), (1, .int x1), (2, .int x2), (3, .int x3)]) hx hb dX8_isStruck_60 hl (k := 5) rfl rfl (by decide) rfl (fun ls hl => ?_)
          refine lv_goto (tgt := 6) hx hb dX8_isStruck_63 (by decide) ?_
          exact ih6 S x1 x2 x3 1 (x5 + 1) _ _ ls h hw (lv_sub hl [2, 3, 4, 5, 1, 0] rfl)
        · have h := (it_d h).1 c
          refine lv_aload_n hx hb dX8_isStruck_20 rfl (lv_at hl 0 rfl) ?_
          refine x_getR C hw gtX8_64 dX8_isStruck_21 ?_
          refine lv_iload hx hb dX8_isStruck_24 (lv_at hl 5 rfl) ?_
          obtain ⟨v1, hv, h⟩ := bb_some h
          refine x_ald C hw alM_19 hv dX8_isStruck_26 ?_
          refine lv_iload_n hx hb dX8_isStruck_27 rfl (lv_at hl 1 rfl) ?_
          refine lv_icmp_ne (tgt := 57) hx hb dX8_isStruck_28 (by decide) (fun c => ?_) (fun c => ?_)
          · have h := (it_d h).2 c
            refine lv_iconst (v := 0) hx hb dX8_isStruck_57 (by decide) ?_
            refine lv_istore (lv' := [(4, .int 0), (0, .ref (ad 0)), (1, .int x1), (2, .int x2), (3, .int x3), (5, .int x5)]) hx hb dX8_isStruck_58 hl (by decide) rfl (fun ls hl => ?_)
            refine lv_iinc (v := (x5 + 1)) (lv' := [(5, .int (x5 + 1)), (4, .int 0), (0, .ref (ad 0)), (1, .int x1), (2, .int x2), (3, .int x3)]) hx hb dX8_isStruck_60 hl (k := 5) rfl rfl (by decide) rfl (fun ls hl => ?_)
            refine lv_goto (tgt := 6) hx hb dX8_isStruck_63 (by decide) ?_
            exact ih6 S x1 x2 x3 0 (x5 + 1) _ _ ls h hw (lv_sub hl [2, 3, 4, 5, 1, 0] rfl)
          · have h := (it_d h).1 c
            refine lv_aload_n hx hb dX8_isStruck_31 rfl (lv_at hl 0 rfl) ?_
            refine x_getR C hw gtX8_67 dX8_isStruck_32 ?_
            refine lv_iload hx hb dX8_isStruck_35 (lv_at hl 5 rfl) ?_
            obtain ⟨v2, hv, h⟩ := bb_some h
            refine x_ald C hw alM_20 hv dX8_isStruck_37 ?_
            refine lv_iload_n hx hb dX8_isStruck_38 rfl (lv_at hl 2 rfl) ?_
            refine lv_icmp_gt (tgt := 57) hx hb dX8_isStruck_39 (by decide) (fun c => ?_) (fun c => ?_)
            · have h := (it_d h).1 c
              refine lv_iconst (v := 0) hx hb dX8_isStruck_57 (by decide) ?_
              refine lv_istore (lv' := [(4, .int 0), (0, .ref (ad 0)), (1, .int x1), (2, .int x2), (3, .int x3), (5, .int x5)]) hx hb dX8_isStruck_58 hl (by decide) rfl (fun ls hl => ?_)
              refine lv_iinc (v := (x5 + 1)) (lv' := [(5, .int (x5 + 1)), (4, .int 0), (0, .ref (ad 0)), (1, .int x1), (2, .int x2), (3, .int x3)]) hx hb dX8_isStruck_60 hl (k := 5) rfl rfl (by decide) rfl (fun ls hl => ?_)
              refine lv_goto (tgt := 6) hx hb dX8_isStruck_63 (by decide) ?_
              exact ih6 S x1 x2 x3 0 (x5 + 1) _ _ ls h hw (lv_sub hl [2, 3, 4, 5, 1, 0] rfl)
            · have h := (it_d h).2 c
              refine lv_aload_n hx hb dX8_isStruck_42 rfl (lv_at hl 0 rfl) ?_
              refine x_getR C hw gtX8_70 dX8_isStruck_43 ?_
              refine lv_iload hx hb dX8_isStruck_46 (lv_at hl 5 rfl) ?_
              obtain ⟨v3, hv, h⟩ := bb_some h
              refine x_ald C hw alM_21 hv dX8_isStruck_48 ?_
              refine lv_iload_n hx hb dX8_isStruck_49 rfl (lv_at hl 3 rfl) ?_
              refine lv_icmp_gt (tgt := 57) hx hb dX8_isStruck_50 (by decide) (fun c => ?_) (fun c => ?_)
              · have h := (it_d h).1 c
                refine lv_iconst (v := 0) hx hb dX8_isStruck_57 (by decide) ?_
                refine lv_istore (lv' := [(4, .int 0), (0, .ref (ad 0)), (1, .int x1), (2, .int x2), (3, .int x3), (5, .int x5)]) hx hb dX8_isStruck_58 hl (by decide) rfl (fun ls hl => ?_)
                refine lv_iinc (v := (x5 + 1)) (lv' := [(5, .int (x5 + 1)), (4, .int 0), (0, .ref (ad 0)), (1, .int x1), (2, .int x2), (3, .int x3)]) hx hb dX8_isStruck_60 hl (k := 5) rfl rfl (by decide) rfl (fun ls hl => ?_)
                refine lv_goto (tgt := 6) hx hb dX8_isStruck_63 (by decide) ?_
                exact ih6 S x1 x2 x3 0 (x5 + 1) _ _ ls h hw (lv_sub hl [2, 3, 4, 5, 1, 0] rfl)
              · have h := (it_d h).2 c
                refine lv_iconst (v := 1) hx hb dX8_isStruck_53 (by decide) ?_
                refine lv_goto (tgt := 58) hx hb dX8_isStruck_54 (by decide) ?_
                refine lv_istore (lv' := [(4, .int 1), (0, .ref (ad 0)), (1, .int x1), (2, .int x2), (3, .int x3), (5, .int x5)]) hx hb dX8_isStruck_58 hl (by decide) rfl (fun ls hl => ?_)
                refine lv_iinc (v := (x5 + 1)) (lv' := [(5, .int (x5 + 1)), (4, .int 1), (0, .ref (ad 0)), (1, .int x1), (2, .int x2), (3, .int x3)]) hx hb dX8_isStruck_60 hl (k := 5) rfl rfl (by decide) rfl (fun ls hl => ?_)
                refine lv_goto (tgt := 6) hx hb dX8_isStruck_63 (by decide) ?_
                exact ih6 S x1 x2 x3 1 (x5 + 1) _ _ ls h hw (lv_sub hl [2, 3, 4, 5, 1, 0] rfl)
  unfold fX8_isStruck at h
  refine lv_iconst (v := 0) hx hb dX8_isStruck_0 (by decide) ?_
  refine lv_istore (lv' := [(4, .int 0), (0, .ref (ad 0)), (1, .int x1), (2, .int x2), (3, .int x3)]) hx hb dX8_isStruck_1 hl (by decide) rfl (fun ls hl => ?_)
  refine lv_iconst (v := 0) hx hb dX8_isStruck_3 (by decide) ?_
  refine lv_istore (lv' := [(5, .int 0), (4, .int 0), (0, .ref (ad 0)), (1, .int x1), (2, .int x2), (3, .int x3)]) hx hb dX8_isStruck_4 hl (by decide) rfl (fun ls hl => ?_)
  exact B6 N S x1 x2 x3 0 0 _ _ ls h hw (lv_sub hl [2, 3, 4, 5, 1, 0] rfl)
set_option maxHeartbeats 4000000 in
set_option maxRecDepth 100000 in
theorem mX8_against {N : Nat} {l : Launch} {D : va_G} {ad : Nat → Nat} {cI cZ : ClassId} {S Sz : SS} {x1 x2 x3 x4 x5 : Int32} {rz : Int32} (h : fX8_against N S x1 x2 x3 x4 x5 = some (rz, Sz)) : MI l D lyM ad cI cZ yX8_against cX8_against 6 (some .int) 3 [.ref (ad 0), .int x1, .int x2, .int x3, .int x4, .int x5] S rz Sz := by
  refine x_startI RX8 (by decide) rfl (Nat.le_of_ble_eq_true rfl) ?_
  intro p e s m args below meth c A C hw ls hl
  have hx := C.1
  have hb := C.2.1
  have hown := C.2.2.2.1
  have hts := C.2.2.2.2.1
  have hl : lv_has ls 6 [(0, .ref (ad 0)), (1, .int x1), (2, .int x2), (3, .int x3), (4, .int x4), (5, .int x5)] := hl
  unfold fX8_against at h
  refine lv_iload_n hx hb dX8_against_0 rfl (lv_at hl 1 rfl) ?_
  refine lv_iload_n hx hb dX8_against_1 rfl (lv_at hl 2 rfl) ?_
  refine lv_icmp_eq (tgt := 20) hx hb dX8_against_2 (by decide) (fun c => ?_) (fun c => ?_)
  · have h := (it_d h).1 c
    refine lv_iconst (v := 3) hx hb dX8_against_20 (by decide) ?_
    exact x_iret C hw h dX8_against_21
  · have h := (it_d h).2 c
    refine lv_aload_n hx hb dX8_against_5 rfl (lv_at hl 0 rfl) ?_
    refine x_getR C hw gtX8_16 dX8_against_6 ?_
    refine lv_iload_n hx hb dX8_against_9 rfl (lv_at hl 1 rfl) ?_
    obtain ⟨v1, hv, h⟩ := bb_some h
    refine x_ald C hw alM_3 hv dX8_against_10 ?_
    refine lv_aload_n hx hb dX8_against_11 rfl (lv_at hl 0 rfl) ?_
    refine x_getR C hw gtX8_16 dX8_against_12 ?_
    refine lv_iload_n hx hb dX8_against_15 rfl (lv_at hl 2 rfl) ?_
    obtain ⟨v2, hv, h⟩ := bb_some h
    refine x_ald C hw alM_3 hv dX8_against_16 ?_
    refine lv_icmp_ne (tgt := 22) hx hb dX8_against_17 (by decide) (fun c => ?_) (fun c => ?_)
    · have h := (it_d h).2 c
      refine lv_aload_n hx hb dX8_against_22 rfl (lv_at hl 0 rfl) ?_
      refine x_getR C hw gtX8_19 dX8_against_23 ?_
      refine lv_iload_n hx hb dX8_against_26 rfl (lv_at hl 1 rfl) ?_
      obtain ⟨v3, hv, h⟩ := bb_some h
      refine x_ald C hw alM_4 hv dX8_against_27 ?_
      refine lv_iload hx hb dX8_against_28 (lv_at hl 5 rfl) ?_
      refine lv_icmp_ge (tgt := 35) hx hb dX8_against_30 (by decide) (fun c => ?_) (fun c => ?_)
      · have h := (it_d h).1 c
        refine lv_aload_n hx hb dX8_against_35 rfl (lv_at hl 0 rfl) ?_
        refine lv_iload_n hx hb dX8_against_36 rfl (lv_at hl 1 rfl) ?_
        refine lv_iload hx hb dX8_against_37 (lv_at hl 5 rfl) ?_
        refine lv_iload hx hb dX8_against_39 (lv_at hl 5 rfl) ?_
        obtain ⟨r1, S1, hv, h⟩ := b2_some h
        refine x_callVI C hw (mX8_isStruck hv) lkX8_156 rfl (Nat.le_of_ble_eq_true rfl) hl.1 rfl (Nat.le_of_ble_eq_true rfl) dX8_against_41 (fun H locs hw => ?_)
        refine lv_if_eq (tgt := 49) hx hb dX8_against_44 (by decide) (fun c => ?_) (fun c => ?_)
        · have h := (it_d h).1 c
          refine lv_aload_n hx hb dX8_against_49 rfl (lv_at hl 0 rfl) ?_
          refine lv_iload_n hx hb dX8_against_50 rfl (lv_at hl 1 rfl) ?_
          refine lv_iload_n hx hb dX8_against_51 rfl (lv_at hl 3 rfl) ?_
          refine lv_iload hx hb dX8_against_52 (lv_at hl 5 rfl) ?_
          obtain ⟨r2, S2, hv, h⟩ := b2_some h
          refine x_callVI C hw (mX8_hasOf hv) lkX8_179 rfl (Nat.le_of_ble_eq_true rfl) hl.1 rfl (Nat.le_of_ble_eq_true rfl) dX8_against_54 (fun H locs hw => ?_)
          refine lv_aload_n hx hb dX8_against_57 rfl (lv_at hl 0 rfl) ?_
          refine x_getR C hw gtX8_46 dX8_against_58 ?_
          refine lv_iload hx hb dX8_against_61 (lv_at hl 4 rfl) ?_
          obtain ⟨v4, hv, h⟩ := bb_some h
          refine x_ald C hw alM_13 hv dX8_against_63 ?_
          refine lv_icmp_ge (tgt := 72) hx hb dX8_against_64 (by decide) (fun c => ?_) (fun c => ?_)
          · have h := (it_d h).1 c
            refine lv_iconst (v := 0) hx hb dX8_against_72 (by decide) ?_
            exact x_iret C hw h dX8_against_73
          · have h := (it_d h).2 c
            refine lv_bipush (v := 6) hx hb dX8_against_67 (by decide) ?_
            refine lv_goto (tgt := 73) hx hb dX8_against_69 (by decide) ?_
            exact x_iret C hw h dX8_against_73
        · have h := (it_d h).2 c
          refine lv_iconst (v := 5) hx hb dX8_against_47 (by decide) ?_
          exact x_iret C hw h dX8_against_48
      · have h := (it_d h).2 c
        refine lv_iconst (v := 4) hx hb dX8_against_33 (by decide) ?_
        exact x_iret C hw h dX8_against_34
    · have h := (it_d h).1 c
      refine lv_iconst (v := 3) hx hb dX8_against_20 (by decide) ?_
      exact x_iret C hw h dX8_against_21
set_option maxHeartbeats 4000000 in
set_option maxRecDepth 100000 in
theorem mX8_finding {N : Nat} {l : Launch} {D : va_G} {ad : Nat → Nat} {cI cZ : ClassId} {S Sz : SS} {x1 : Int32} {rz : Int32} (h : fX8_finding N S x1 = some (rz, Sz)) : MI l D lyM ad cI cZ yX8_finding cX8_finding 2 (some .int) 0 [.ref (ad 0), .int x1] S rz Sz := by
  refine x_startI RX8 (by decide) rfl (Nat.le_of_ble_eq_true rfl) ?_
  intro p e s m args below meth c A C hw ls hl
  have hx := C.1
  have hb := C.2.1
  have hown := C.2.2.2.1
  have hts := C.2.2.2.2.1
  have hl : lv_has ls 2 [(0, .ref (ad 0)), (1, .int x1)] := hl
  unfold fX8_finding at h
  refine lv_aload_n hx hb dX8_finding_0 rfl (lv_at hl 0 rfl) ?_
  refine x_getR C hw gtX8_91 dX8_finding_1 ?_
  refine lv_ldc (v := (-1000000)) hx hb hown (hts _ kwX8_110) dX8_finding_4 ?_
  refine lv_iload_n hx hb dX8_finding_6 rfl (lv_at hl 1 rfl) ?_
  refine lv_isub hx hb dX8_finding_7 ?_
  refine lv_dup2_11 hx hb dX8_finding_8 rfl rfl ?_
  obtain ⟨v1, hv, h⟩ := bb_some h
  refine x_ald C hw alM_28 hv dX8_finding_9 ?_
  refine lv_iconst (v := 1) hx hb dX8_finding_10 (by decide) ?_
  refine lv_iadd hx hb dX8_finding_11 ?_
  obtain ⟨S1, hv, h⟩ := bb_some h
  refine x_ast C hw alM_28 hv dX8_finding_12 (fun H locs hw => ?_)
  refine lv_iload_n hx hb dX8_finding_13 rfl (lv_at hl 1 rfl) ?_
  exact x_iret C hw h dX8_finding_14
set_option maxHeartbeats 4000000 in
set_option maxRecDepth 100000 in
theorem mX8_within {N : Nat} {l : Launch} {D : va_G} {ad : Nat → Nat} {cI cZ : ClassId} {S Sz : SS} {x0 x1 x2 : Int32} {rz : Int32} (h : fX8_within N S x0 x1 x2 = some (rz, Sz)) : MI l D lyM ad cI cZ yX8_within cX8_within 3 (some .boolean) 0 [.int x0, .int x1, .int x2] S rz Sz := by
  refine x_startI RX8 (by decide) rfl (Nat.le_of_ble_eq_true rfl) ?_
  intro p e s m args below meth c A C hw ls hl
  have hx := C.1
  have hb := C.2.1
  have hown := C.2.2.2.1
  have hts := C.2.2.2.2.1
  have hl : lv_has ls 3 [(0, .int x0), (1, .int x1), (2, .int x2)] := hl
  unfold fX8_within at h
  refine lv_iload_n hx hb dX8_within_0 rfl (lv_at hl 0 rfl) ?_
  refine lv_iload_n hx hb dX8_within_1 rfl (lv_at hl 1 rfl) ?_
  refine lv_icmp_lt (tgt := 14) hx hb dX8_within_2 (by decide) (fun c => ?_) (fun c => ?_)
  · have h := (it_d h).1 c
    refine lv_iconst (v := 0) hx hb dX8_within_14 (by decide) ?_
    exact x_zret C hw h dX8_within_15
  · have h := (it_d h).2 c
    refine lv_iload_n hx hb dX8_within_5 rfl (lv_at hl 0 rfl) ?_
    refine lv_iload_n hx hb dX8_within_6 rfl (lv_at hl 2 rfl) ?_
    refine lv_icmp_gt (tgt := 14) hx hb dX8_within_7 (by decide) (fun c => ?_) (fun c => ?_)
    · have h := (it_d h).1 c
      refine lv_iconst (v := 0) hx hb dX8_within_14 (by decide) ?_
      exact x_zret C hw h dX8_within_15
    · have h := (it_d h).2 c
      refine lv_iconst (v := 1) hx hb dX8_within_10 (by decide) ?_
      refine lv_goto (tgt := 15) hx hb dX8_within_11 (by decide) ?_
      exact x_zret C hw h dX8_within_15
set_option maxHeartbeats 4000000 in
set_option maxRecDepth 100000 in
theorem mX8_isExam {N : Nat} {l : Launch} {D : va_G} {ad : Nat → Nat} {cI cZ : ClassId} {S Sz : SS} {x1 : Int32} {rz : Int32} (h : fX8_isExam N S x1 = some (rz, Sz)) : MI l D lyM ad cI cZ yX8_isExam cX8_isExam 2 (some .boolean) 1 [.ref (ad 0), .int x1] S rz Sz := by
  refine x_startI RX8 (by decide) rfl (Nat.le_of_ble_eq_true rfl) ?_
  intro p e s m args below meth c A C hw ls hl
  have hx := C.1
  have hb := C.2.1
  have hown := C.2.2.2.1
  have hts := C.2.2.2.2.1
  have hl : lv_has ls 2 [(0, .ref (ad 0)), (1, .int x1)] := hl
  unfold fX8_isExam at h
  refine lv_iload_n hx hb dX8_isExam_0 rfl (lv_at hl 1 rfl) ?_
  refine lv_iconst (v := 0) hx hb dX8_isExam_1 (by decide) ?_
  refine lv_aload_n hx hb dX8_isExam_2 rfl (lv_at hl 0 rfl) ?_
  refine x_getI C hw gtX8_234 dX8_isExam_3 ?_
  refine lv_iconst (v := 1) hx hb dX8_isExam_6 (by decide) ?_
  refine lv_isub hx hb dX8_isExam_7 ?_
  obtain ⟨r1, S1, hv, h⟩ := b2_some h
  refine x_callSI C hw (mX8_within hv) lkX8_111 rfl (Nat.le_of_ble_eq_true rfl) hl.1 rfl (Nat.le_of_ble_eq_true rfl) dX8_isExam_8 (fun H locs hw => ?_)
  exact x_zret C hw h dX8_isExam_11
set_option maxHeartbeats 4000000 in
set_option maxRecDepth 100000 in
theorem mX8_middleOf {N : Nat} {l : Launch} {D : va_G} {ad : Nat → Nat} {cI cZ : ClassId} {S Sz : SS} {x1 : Int32} {rz : Int32} (h : fX8_middleOf N S x1 = some (rz, Sz)) : MI l D lyM ad cI cZ yX8_middleOf cX8_middleOf 8 (some .int) 0 [.ref (ad 0), .int x1] S rz Sz := by
  refine x_startI RX8 (by decide) rfl (Nat.le_of_ble_eq_true rfl) ?_
  intro p e s m args below meth c A C hw ls hl
  have hx := C.1
  have hb := C.2.1
  have hown := C.2.2.2.1
  have hts := C.2.2.2.2.1
  have hl : lv_has ls 8 [(0, .ref (ad 0)), (1, .int x1)] := hl
  have B4 : ∀ n : Nat, ∀ (S : SS) (x1 x2 x3 : Int32) (H : Heap) (locs : List Loc) (ls : Array Slot), fX8_middleOf_b4 N n S x1 x2 x3 = some (rz, Sz) → WH D A s.heap lyM ad cI cZ S H locs → lv_has ls 8 [(0, .ref (ad 0)), (1, .int x1), (2, .int x2), (3, .int x3)] → W p l e (rmK 0) s m args below meth c H locs 0 0 (MQ below (Qi D lyM ad cI cZ A rz Sz) args s 0 0 A) (F0 m 4 ls []) := by
    intro n
    induction n with
    | zero =>
      intro S x1 x2 x3 H locs ls h hw hl
      rw [fX8_middleOf_b4] at h
      cases h
    | succ n4 ih4 =>
      have B94 : ∀ (S : SS) (x1 x2 x3 x4 x5 x6 : Int32) (H : Heap) (locs : List Loc) (ls : Array Slot), fX8_middleOf_b94 N (fun S x1 x2 x3 => fX8_middleOf_b4 N n4 S x1 x2 x3) S x1 x2 x3 x4 x5 x6 = some (rz, Sz) → WH D A s.heap lyM ad cI cZ S H locs → lv_has ls 8 [(0, .ref (ad 0)), (1, .int x1), (2, .int x2), (3, .int x3), (4, .int x4), (5, .int x5), (6, .int x6)] → W p l e (rmK 0) s m args below meth c H locs 0 0 (MQ below (Qi D lyM ad cI cZ A rz Sz) args s 0 0 A) (F0 m 94 ls []) := by
        intro S x1 x2 x3 x4 x5 x6 H locs ls h hw hl
        unfold fX8_middleOf_b94 at h
        refine lv_iload hx hb dX8_middleOf_94 (lv_at hl 5 rfl) ?_
        refine lv_iconst (v := 2) hx hb dX8_middleOf_96 (by decide) ?_
        refine lv_icmp_gt (tgt := 111) hx hb dX8_middleOf_97 (by decide) (fun c => ?_) (fun c => ?_)
        · have h := (it_d h).1 c
          refine lv_iload_n hx hb dX8_middleOf_111 rfl (lv_at hl 2 rfl) ?_
          refine lv_istore_n (lv' := [(2, .int x2), (0, .ref (ad 0)), (1, .int x1), (3, .int x3), (4, .int x4), (5, .int x5), (6, .int x6)]) hx hb dX8_middleOf_112 rfl hl (by decide) rfl (fun ls hl => ?_)
          refine lv_iinc (v := (x3 + 1)) (lv' := [(3, .int (x3 + 1)), (2, .int x2), (0, .ref (ad 0)), (1, .int x1), (4, .int x4), (5, .int x5), (6, .int x6)]) hx hb dX8_middleOf_113 hl (k := 3) rfl rfl (by decide) rfl (fun ls hl => ?_)
          refine lv_goto (tgt := 4) hx hb dX8_middleOf_116 (by decide) ?_
          exact ih4 S x1 x2 (x3 + 1) _ _ ls h hw (lv_sub hl [2, 3, 1, 0] rfl)
        · have h := (it_d h).2 c
          refine lv_iload hx hb dX8_middleOf_100 (lv_at hl 6 rfl) ?_
          refine lv_iconst (v := 3) hx hb dX8_middleOf_102 (by decide) ?_
          refine lv_icmp_lt (tgt := 111) hx hb dX8_middleOf_103 (by decide) (fun c => ?_) (fun c => ?_)
          · have h := (it_d h).1 c
            refine lv_iload_n hx hb dX8_middleOf_111 rfl (lv_at hl 2 rfl) ?_
            refine lv_istore_n (lv' := [(2, .int x2), (0, .ref (ad 0)), (1, .int x1), (3, .int x3), (4, .int x4), (5, .int x5), (6, .int x6)]) hx hb dX8_middleOf_112 rfl hl (by decide) rfl (fun ls hl => ?_)
            refine lv_iinc (v := (x3 + 1)) (lv' := [(3, .int (x3 + 1)), (2, .int x2), (0, .ref (ad 0)), (1, .int x1), (4, .int x4), (5, .int x5), (6, .int x6)]) hx hb dX8_middleOf_113 hl (k := 3) rfl rfl (by decide) rfl (fun ls hl => ?_)
            refine lv_goto (tgt := 4) hx hb dX8_middleOf_116 (by decide) ?_
            exact ih4 S x1 x2 (x3 + 1) _ _ ls h hw (lv_sub hl [2, 3, 1, 0] rfl)
          · have h := (it_d h).2 c
            refine lv_iload hx hb dX8_middleOf_106 (lv_at hl 4 rfl) ?_
            refine lv_goto (tgt := 112) hx hb dX8_middleOf_108 (by decide) ?_
            refine lv_istore_n (lv' := [(2, .int x4), (0, .ref (ad 0)), (1, .int x1), (3, .int x3), (4, .int x4), (5, .int x5), (6, .int x6)]) hx hb dX8_middleOf_112 rfl hl (by decide) rfl (fun ls hl => ?_)
            refine lv_iinc (v := (x3 + 1)) (lv' := [(3, .int (x3 + 1)), (2, .int x4), (0, .ref (ad 0)), (1, .int x1), (4, .int x4), (5, .int x5), (6, .int x6)]) hx hb dX8_middleOf_113 hl (k := 3) rfl rfl (by decide) rfl (fun ls hl => ?_)
            refine lv_goto (tgt := 4) hx hb dX8_middleOf_116 (by decide) ?_
            exact ih4 S x1 x4 (x3 + 1) _ _ ls h hw (lv_sub hl [2, 3, 1, 0] rfl)
      have B30 : ∀ n : Nat, ∀ (S : SS) (x1 x2 x3 x4 x5 x6 x7 : Int32) (H : Heap) (locs : List Loc) (ls : Array Slot), fX8_middleOf_b30 N (fun S x1 x2 x3 => fX8_middleOf_b4 N n4 S x1 x2 x3) n S x1 x2 x3 x4 x5 x6 x7 = some (rz, Sz) → WH D A s.heap lyM ad cI cZ S H locs → lv_has ls 8 [(0, .ref (ad 0)), (1, .int x1), (2, .int x2), (3, .int x3), (4, .int x4), (5, .int x5), (6, .int x6), (7, .int x7)] → W p l e (rmK 0) s m args below meth c H locs 0 0 (MQ below (Qi D lyM ad cI cZ A rz Sz) args s 0 0 A) (F0 m 30 ls []) := by
        intro n
        induction n with
        | zero =>
          intro S x1 x2 x3 x4 x5 x6 x7 H locs ls h hw hl
          rw [fX8_middleOf_b30] at h
          cases h
        | succ n30 ih30 =>
          have B59 : ∀ (S : SS) (x1 x2 x3 x4 x6 x7 t0 t1 : Int32) (H : Heap) (locs : List Loc) (ls : Array Slot), fX8_middleOf_b59 N (fun S x1 x2 x3 => fX8_middleOf_b4 N n4 S x1 x2 x3) (fun S x1 x2 x3 x4 x5 x6 x7 => fX8_middleOf_b30 N (fun S x1 x2 x3 => fX8_middleOf_b4 N n4 S x1 x2 x3) n30 S x1 x2 x3 x4 x5 x6 x7) S x1 x2 x3 x4 x6 x7 t0 t1 = some (rz, Sz) → WH D A s.heap lyM ad cI cZ S H locs → lv_has ls 8 [(0, .ref (ad 0)), (1, .int x1), (2, .int x2), (3, .int x3), (4, .int x4), (6, .int x6), (7, .int x7)] → W p l e (rmK 0) s m args below meth c H locs 0 0 (MQ below (Qi D lyM ad cI cZ A rz Sz) args s 0 0 A) (F0 m 59 ls [.int t1, .int t0]) := by
            intro S x1 x2 x3 x4 x6 x7 t0 t1 H locs ls h hw hl
            unfold fX8_middleOf_b59 at h
            refine lv_iadd hx hb dX8_middleOf_59 ?_
            refine lv_istore (lv' := [(5, .int (t0 + t1)), (0, .ref (ad 0)), (1, .int x1), (2, .int x2), (3, .int x3), (4, .int x4), (6, .int x6), (7, .int x7)]) hx hb dX8_middleOf_60 hl (by decide) rfl (fun ls hl => ?_)
            refine lv_iload hx hb dX8_middleOf_62 (lv_at hl 6 rfl) ?_
            refine lv_aload_n hx hb dX8_middleOf_64 rfl (lv_at hl 1 rfl) ?_
            refine x_getR C hw gtX8_85 dX8_middleOf_65 ?_
            refine lv_iconst (v := 5) hx hb dX8_middleOf_68 (by decide) ?_
            refine lv_iload_n hx hb dX8_middleOf_69 rfl (lv_at hl 2 rfl) ?_
            refine lv_imul hx hb dX8_middleOf_70 ?_
            refine lv_iload hx hb dX8_middleOf_71 (lv_at hl 7 rfl) ?_
            refine lv_iadd hx hb dX8_middleOf_73 ?_
            obtain ⟨v1, hv, h⟩ := bb_some h
            refine x_ald C hw alM_26 hv dX8_middleOf_74 ?_
            refine lv_iload hx hb dX8_middleOf_75 (lv_at hl 5 rfl) ?_
            refine lv_icmp_gt (tgt := 84) hx hb dX8_middleOf_77 (by decide) (fun c => ?_) (fun c => ?_)
            · have h := (it_d h).1 c
              refine lv_iconst (v := 0) hx hb dX8_middleOf_84 (by decide) ?_
              refine lv_iadd hx hb dX8_middleOf_85 ?_
              refine lv_istore (lv' := [(6, .int (x6 + 0)), (5, .int (t0 + t1)), (0, .ref (ad 0)), (1, .int x1), (2, .int x2), (3, .int x3), (4, .int x4), (7, .int x7)]) hx hb dX8_middleOf_86 hl (by decide) rfl (fun ls hl => ?_)
              refine lv_iinc (v := (x7 + 1)) (lv' := [(7, .int (x7 + 1)), (6, .int (x6 + 0)), (5, .int (t0 + t1)), (0, .ref (ad 0)), (1, .int x1), (2, .int x2), (3, .int x3), (4, .int x4)]) hx hb dX8_middleOf_88 hl (k := 7) rfl rfl (by decide) rfl (fun ls hl => ?_)
              refine lv_goto (tgt := 30) hx hb dX8_middleOf_91 (by decide) ?_
              exact ih30 S x1 x2 x3 x4 (t0 + t1) (x6 + 0) (x7 + 1) _ _ ls h hw (lv_sub hl [3, 4, 5, 6, 7, 2, 1, 0] rfl)
            · have h := (it_d h).2 c
              refine lv_iconst (v := 1) hx hb dX8_middleOf_80 (by decide) ?_
              refine lv_goto (tgt := 85) hx hb dX8_middleOf_81 (by decide) ?_
              refine lv_iadd hx hb dX8_middleOf_85 ?_
              refine lv_istore (lv' := [(6, .int (x6 + 1)), (5, .int (t0 + t1)), (0, .ref (ad 0)), (1, .int x1), (2, .int x2), (3, .int x3), (4, .int x4), (7, .int x7)]) hx hb dX8_middleOf_86 hl (by decide) rfl (fun ls hl => ?_)
              refine lv_iinc (v := (x7 + 1)) (lv' := [(7, .int (x7 + 1)), (6, .int (x6 + 1)), (5, .int (t0 + t1)), (0, .ref (ad 0)), (1, .int x1), (2, .int x2), (3, .int x3), (4, .int x4)]) hx hb dX8_middleOf_88 hl (k := 7) rfl rfl (by decide) rfl (fun ls hl => ?_)
              refine lv_goto (tgt := 30) hx hb dX8_middleOf_91 (by decide) ?_
              exact ih30 S x1 x2 x3 x4 (t0 + t1) (x6 + 1) (x7 + 1) _ _ ls h hw (lv_sub hl [3, 4, 5, 6, 7, 2, 1, 0] rfl)
          intro S x1 x2 x3 x4 x5 x6 x7 H locs ls h hw hl
          rw [fX8_middleOf_b30] at h
          refine lv_iload hx hb dX8_middleOf_30 (lv_at hl 7 rfl) ?_
          refine lv_iconst (v := 5) hx hb dX8_middleOf_32 (by decide) ?_
          refine lv_icmp_ge (tgt := 94) hx hb dX8_middleOf_33 (by decide) (fun c => ?_) (fun c => ?_)
          · have h := (it_d h).1 c
            exact B94 S x1 x2 x3 x4 x5 x6 _ _ ls h hw (lv_sub hl [0, 1, 2, 3, 4, 5, 6] rfl)
          · have h := (it_d h).2 c
            refine lv_iload hx hb dX8_middleOf_36 (lv_at hl 5 rfl) ?_
            refine lv_aload_n hx hb dX8_middleOf_38 rfl (lv_at hl 0 rfl) ?_
            refine x_getR C hw gtX8_85 dX8_middleOf_39 ?_
            refine lv_iconst (v := 5) hx hb dX8_middleOf_42 (by decide) ?_
            refine lv_iload_n hx hb dX8_middleOf_43 rfl (lv_at hl 1 rfl) ?_
            refine lv_imul hx hb dX8_middleOf_44 ?_
            refine lv_iload hx hb dX8_middleOf_45 (lv_at hl 7 rfl) ?_
            refine lv_iadd hx hb dX8_middleOf_47 ?_
            obtain ⟨v1, hv, h⟩ := bb_some h
            refine x_ald C hw alM_26 hv dX8_middleOf_48 ?_
            refine lv_iload hx hb dX8_middleOf_49 (lv_at hl 4 rfl) ?_
            refine lv_icmp_ge (tgt := 58) hx hb dX8_middleOf_51 (by decide) (fun c => ?_) (fun c => ?_)
            · have h := (it_d h).1 c
              refine lv_iconst (v := 0) hx hb dX8_middleOf_58 (by decide) ?_
              exact B59 S x1 x2 x3 x4 x6 x7 x5 0 _ _ ls h hw (lv_sub hl [0, 1, 2, 3, 4, 6, 7] rfl)
            · have h := (it_d h).2 c
              refine lv_iconst (v := 1) hx hb dX8_middleOf_54 (by decide) ?_
              refine lv_goto (tgt := 59) hx hb dX8_middleOf_55 (by decide) ?_
              exact B59 S x1 x2 x3 x4 x6 x7 x5 1 _ _ ls h hw (lv_sub hl [0, 1, 2, 3, 4, 6, 7] rfl)
      intro S x1 x2 x3 H locs ls h hw hl
      rw [fX8_middleOf_b4] at h
      refine lv_iload_n hx hb dX8_middleOf_4 rfl (lv_at hl 3 rfl) ?_
      refine lv_iconst (v := 5) hx hb dX8_middleOf_5 (by decide) ?_
      refine lv_icmp_ge (tgt := 119) hx hb dX8_middleOf_6 (by decide) (fun c => ?_) (fun c => ?_)
      · have h := (it_d h).1 c
        refine lv_iload_n hx hb dX8_middleOf_119 rfl (lv_at hl 2 rfl) ?_
        exact x_iret C hw h dX8_middleOf_120
      · have h := (it_d h).2 c
        refine lv_aload_n hx hb dX8_middleOf_9 rfl (lv_at hl 0 rfl) ?_
        refine x_getR C hw gtX8_85 dX8_middleOf_10 ?_
        refine lv_iconst (v := 5) hx hb dX8_middleOf_13 (by decide) ?_
        refine lv_iload_n hx hb dX8_middleOf_14 rfl (lv_at hl 1 rfl) ?_
        refine lv_imul hx hb dX8_middleOf_15 ?_
        refine lv_iload_n hx hb dX8_middleOf_16 rfl (lv_at hl 3 rfl) ?_
        refine lv_iadd hx hb dX8_middleOf_17 ?_
        obtain ⟨v1, hv, h⟩ := bb_some h
        refine x_ald C hw alM_26 hv dX8_middleOf_18 ?_
        refine lv_istore (lv' := [(4, .int v1), (0, .ref (ad 0)), (1, .int x1), (2, .int x2), (3, .int x3)]) hx hb dX8_middleOf_19 hl (by decide) rfl (fun ls hl => ?_)
        refine lv_iconst (v := 0) hx hb dX8_middleOf_21 (by decide) ?_
        refine lv_istore (lv' := [(5, .int 0), (4, .int v1), (0, .ref (ad 0)), (1, .int x1), (2, .int x2), (3, .int x3)]) hx hb dX8_middleOf_22 hl (by decide) rfl (fun ls hl => ?_)
        refine lv_iconst (v := 0) hx hb dX8_middleOf_24 (by decide) ?_
        refine lv_istore (lv' := [(6, .int 0), (5, .int 0), (4, .int v1), (0, .ref (ad 0)), (1, .int x1), (2, .int x2), (3, .int x3)]) hx hb dX8_middleOf_25 hl (by decide) rfl (fun ls hl => ?_)
        refine lv_iconst (v := 0) hx hb dX8_middleOf_27 (by decide) ?_
        refine lv_istore (lv' := [(7, .int 0), (6, .int 0), (5, .int 0), (4, .int v1), (0, .ref (ad 0)), (1, .int x1), (2, .int x2), (3, .int x3)]) hx hb dX8_middleOf_28 hl (by decide) rfl (fun ls hl => ?_)
        exact B30 N S x1 x2 x3 v1 0 0 0 _ _ ls h hw (lv_sub hl [4, 5, 6, 7, 3, 2, 1, 0] rfl)
  unfold fX8_middleOf at h
  refine lv_iconst (v := 0) hx hb dX8_middleOf_0 (by decide) ?_
  refine lv_istore_n (lv' := [(2, .int 0), (0, .ref (ad 0)), (1, .int x1)]) hx hb dX8_middleOf_1 rfl hl (by decide) rfl (fun ls hl => ?_)
  refine lv_iconst (v := 0) hx hb dX8_middleOf_2 (by decide) ?_
  refine lv_istore_n (lv' := [(3, .int 0), (2, .int 0), (0, .ref (ad 0)), (1, .int x1)]) hx hb dX8_middleOf_3 rfl hl (by decide) rfl (fun ls hl => ?_)
  exact B4 N S x1 0 0 _ _ ls h hw (lv_sub hl [2, 3, 1, 0] rfl)
set_option maxHeartbeats 4000000 in
set_option maxRecDepth 100000 in
theorem mX8_apart {N : Nat} {l : Launch} {D : va_G} {ad : Nat → Nat} {cI cZ : ClassId} {S Sz : SS} {x1 x2 : Int32} {rz : Int32} (h : fX8_apart N S x1 x2 = some (rz, Sz)) : MI l D lyM ad cI cZ yX8_apart cX8_apart 5 (some .int) 2 [.ref (ad 0), .int x1, .int x2] S rz Sz := by
  refine x_startI RX8 (by decide) rfl (Nat.le_of_ble_eq_true rfl) ?_
  intro p e s m args below meth c A C hw ls hl
  have hx := C.1
  have hb := C.2.1
  have hown := C.2.2.2.1
  have hts := C.2.2.2.2.1
  have hl : lv_has ls 5 [(0, .ref (ad 0)), (1, .int x1), (2, .int x2)] := hl
  have B47 : ∀ n : Nat, ∀ (S : SS) (x1 x2 x3 x4 : Int32) (H : Heap) (locs : List Loc) (ls : Array Slot), fX8_apart_b47 N n S x1 x2 x3 x4 = some (rz, Sz) → WH D A s.heap lyM ad cI cZ S H locs → lv_has ls 5 [(0, .ref (ad 0)), (1, .int x1), (2, .int x2), (3, .int x3), (4, .int x4)] → W p l e (rmK 2) s m args below meth c H locs 0 0 (MQ below (Qi D lyM ad cI cZ A rz Sz) args s 0 0 A) (F0 m 47 ls []) := by
    intro n
    induction n with
    | zero =>
      intro S x1 x2 x3 x4 H locs ls h hw hl
      rw [fX8_apart_b47] at h
      cases h
    | succ n ih47 =>
      intro S x1 x2 x3 x4 H locs ls h hw hl
      rw [fX8_apart_b47] at h
      refine lv_iload hx hb dX8_apart_47 (lv_at hl 4 rfl) ?_
      refine lv_iconst (v := 5) hx hb dX8_apart_49 (by decide) ?_
      refine lv_icmp_ge (tgt := 91) hx hb dX8_apart_50 (by decide) (fun c => ?_) (fun c => ?_)
      · have h := (it_d h).1 c
        refine lv_iload_n hx hb dX8_apart_91 rfl (lv_at hl 3 rfl) ?_
        exact x_iret C hw h dX8_apart_92
      · have h := (it_d h).2 c
        refine lv_iload_n hx hb dX8_apart_53 rfl (lv_at hl 3 rfl) ?_
        refine lv_aload_n hx hb dX8_apart_54 rfl (lv_at hl 0 rfl) ?_
        refine x_getR C hw gtX8_85 dX8_apart_55 ?_
        refine lv_iconst (v := 5) hx hb dX8_apart_58 (by decide) ?_
        refine lv_iload_n hx hb dX8_apart_59 rfl (lv_at hl 1 rfl) ?_
        refine lv_imul hx hb dX8_apart_60 ?_
        refine lv_iload hx hb dX8_apart_61 (lv_at hl 4 rfl) ?_
        refine lv_iadd hx hb dX8_apart_63 ?_
        obtain ⟨v1, hv, h⟩ := bb_some h
        refine x_ald C hw alM_26 hv dX8_apart_64 ?_
        refine lv_aload_n hx hb dX8_apart_65 rfl (lv_at hl 0 rfl) ?_
        refine lv_iload_n hx hb dX8_apart_66 rfl (lv_at hl 1 rfl) ?_
        obtain ⟨r1, S1, hv, h⟩ := b2_some h
        refine x_callVI C hw (mX8_middleOf hv) lkX8_240 rfl (Nat.le_of_ble_eq_true rfl) hl.1 rfl (Nat.le_of_ble_eq_true rfl) dX8_apart_67 (fun H locs hw => ?_)
        refine lv_isub hx hb dX8_apart_70 ?_
        refine x_mab C mkX8_243 (Nat.le_of_ble_eq_true rfl) hl.1 (Nat.le_of_ble_eq_true rfl) dX8_apart_71 ?_
        refine lv_iload_n hx hb dX8_apart_74 rfl (lv_at hl 2 rfl) ?_
        refine lv_icmp_le (tgt := 82) hx hb dX8_apart_75 (by decide) (fun c => ?_) (fun c => ?_)
        · have h := (it_d h).1 c
          refine lv_iconst (v := 0) hx hb dX8_apart_82 (by decide) ?_
          refine lv_iadd hx hb dX8_apart_83 ?_
          refine lv_istore_n (lv' := [(3, .int (x3 + 0)), (0, .ref (ad 0)), (1, .int x1), (2, .int x2), (4, .int x4)]) hx hb dX8_apart_84 rfl hl (by decide) rfl (fun ls hl => ?_)
          refine lv_iinc (v := (x4 + 1)) (lv' := [(4, .int (x4 + 1)), (3, .int (x3 + 0)), (0, .ref (ad 0)), (1, .int x1), (2, .int x2)]) hx hb dX8_apart_85 hl (k := 4) rfl rfl (by decide) rfl (fun ls hl => ?_)
          refine lv_goto (tgt := 47) hx hb dX8_apart_88 (by decide) ?_
          exact ih47 S1 x1 x2 (x3 + 0) (x4 + 1) _ _ ls h hw (lv_sub hl [2, 3, 4, 1, 0] rfl)
        · have h := (it_d h).2 c
          refine lv_iconst (v := 1) hx hb dX8_apart_78 (by decide) ?_
          refine lv_goto (tgt := 83) hx hb dX8_apart_79 (by decide) ?_
          refine lv_iadd hx hb dX8_apart_83 ?_
          refine lv_istore_n (lv' := [(3, .int (x3 + 1)), (0, .ref (ad 0)), (1, .int x1), (2, .int x2), (4, .int x4)]) hx hb dX8_apart_84 rfl hl (by decide) rfl (fun ls hl => ?_)
          refine lv_iinc (v := (x4 + 1)) (lv' := [(4, .int (x4 + 1)), (3, .int (x3 + 1)), (0, .ref (ad 0)), (1, .int x1), (2, .int x2)]) hx hb dX8_apart_85 hl (k := 4) rfl rfl (by decide) rfl (fun ls hl => ?_)
          refine lv_goto (tgt := 47) hx hb dX8_apart_88 (by decide) ?_
          exact ih47 S1 x1 x2 (x3 + 1) (x4 + 1) _ _ ls h hw (lv_sub hl [2, 3, 4, 1, 0] rfl)
  have B18 : ∀ (S : SS) (H : Heap) (locs : List Loc) (ls : Array Slot), fX8_apart_b18 N S = some (rz, Sz) → WH D A s.heap lyM ad cI cZ S H locs → lv_has ls 5 [(0, .ref (ad 0))] → W p l e (rmK 2) s m args below meth c H locs 0 0 (MQ below (Qi D lyM ad cI cZ A rz Sz) args s 0 0 A) (F0 m 18 ls []) := by
    intro S  H locs ls h hw hl
    unfold fX8_apart_b18 at h
    refine lv_aload_n hx hb dX8_apart_18 rfl (lv_at hl 0 rfl) ?_
    refine lv_ldc (v := (-1000001)) hx hb hown (hts _ kwX8_123) dX8_apart_19 ?_
    obtain ⟨r1, S1, hv, h⟩ := b2_some h
    refine x_callVI C hw (mX8_finding hv) lkX8_124 rfl (Nat.le_of_ble_eq_true rfl) hl.1 rfl (Nat.le_of_ble_eq_true rfl) dX8_apart_21 (fun H locs hw => ?_)
    exact x_iret C hw h dX8_apart_24
  unfold fX8_apart at h
  refine lv_aload_n hx hb dX8_apart_0 rfl (lv_at hl 0 rfl) ?_
  refine lv_iload_n hx hb dX8_apart_1 rfl (lv_at hl 1 rfl) ?_
  obtain ⟨r1, S1, hv, h⟩ := b2_some h
  refine x_callVI C hw (mX8_isExam hv) lkX8_237 rfl (Nat.le_of_ble_eq_true rfl) hl.1 rfl (Nat.le_of_ble_eq_true rfl) dX8_apart_2 (fun H locs hw => ?_)
  refine lv_if_eq (tgt := 18) hx hb dX8_apart_5 (by decide) (fun c => ?_) (fun c => ?_)
  · have h := (it_d h).1 c
    exact B18 S1 _ _ ls h hw (lv_sub hl [0] rfl)
  · have h := (it_d h).2 c
    refine lv_iload_n hx hb dX8_apart_8 rfl (lv_at hl 2 rfl) ?_
    refine lv_iconst (v := 0) hx hb dX8_apart_9 (by decide) ?_
    refine lv_bipush (v := 100) hx hb dX8_apart_10 (by decide) ?_
    obtain ⟨r2, S2, hv, h⟩ := b2_some h
    refine x_callSI C hw (mX8_within hv) lkX8_111 rfl (Nat.le_of_ble_eq_true rfl) hl.1 rfl (Nat.le_of_ble_eq_true rfl) dX8_apart_12 (fun H locs hw => ?_)
    refine lv_if_ne (tgt := 25) hx hb dX8_apart_15 (by decide) (fun c => ?_) (fun c => ?_)
    · have h := (it_d h).2 c
      refine lv_aload_n hx hb dX8_apart_25 rfl (lv_at hl 0 rfl) ?_
      refine x_getR C hw gtX8_79 dX8_apart_26 ?_
      refine lv_iload_n hx hb dX8_apart_29 rfl (lv_at hl 1 rfl) ?_
      obtain ⟨v1, hv, h⟩ := bb_some h
      refine x_ald C hw alM_24 hv dX8_apart_30 ?_
      refine lv_iconst (v := 5) hx hb dX8_apart_31 (by decide) ?_
      refine lv_icmp_ge (tgt := 42) hx hb dX8_apart_32 (by decide) (fun c => ?_) (fun c => ?_)
      · have h := (it_d h).1 c
        refine lv_iconst (v := 0) hx hb dX8_apart_42 (by decide) ?_
        refine lv_istore_n (lv' := [(3, .int 0), (0, .ref (ad 0)), (1, .int x1), (2, .int x2)]) hx hb dX8_apart_43 rfl hl (by decide) rfl (fun ls hl => ?_)
        refine lv_iconst (v := 0) hx hb dX8_apart_44 (by decide) ?_
        refine lv_istore (lv' := [(4, .int 0), (3, .int 0), (0, .ref (ad 0)), (1, .int x1), (2, .int x2)]) hx hb dX8_apart_45 hl (by decide) rfl (fun ls hl => ?_)
        exact B47 N S2 x1 x2 0 0 _ _ ls h hw (lv_sub hl [2, 3, 4, 1, 0] rfl)
      · have h := (it_d h).2 c
        refine lv_aload_n hx hb dX8_apart_35 rfl (lv_at hl 0 rfl) ?_
        refine lv_ldc (v := (-1000003)) hx hb hown (hts _ kwX8_203) dX8_apart_36 ?_
        obtain ⟨r3, S3, hv, h⟩ := b2_some h
        refine x_callVI C hw (mX8_finding hv) lkX8_124 rfl (Nat.le_of_ble_eq_true rfl) hl.1 rfl (Nat.le_of_ble_eq_true rfl) dX8_apart_38 (fun H locs hw => ?_)
        exact x_iret C hw h dX8_apart_41
    · have h := (it_d h).1 c
      exact B18 S2 _ _ ls h hw (lv_sub hl [0] rfl)
set_option maxHeartbeats 4000000 in
set_option maxRecDepth 100000 in
theorem mX8_isPerson {N : Nat} {l : Launch} {D : va_G} {ad : Nat → Nat} {cI cZ : ClassId} {S Sz : SS} {x1 : Int32} {rz : Int32} (h : fX8_isPerson N S x1 = some (rz, Sz)) : MI l D lyM ad cI cZ yX8_isPerson cX8_isPerson 2 (some .boolean) 1 [.ref (ad 0), .int x1] S rz Sz := by
  refine x_startI RX8 (by decide) rfl (Nat.le_of_ble_eq_true rfl) ?_
  intro p e s m args below meth c A C hw ls hl
  have hx := C.1
  have hb := C.2.1
  have hown := C.2.2.2.1
  have hts := C.2.2.2.2.1
  have hl : lv_has ls 2 [(0, .ref (ad 0)), (1, .int x1)] := hl
  unfold fX8_isPerson at h
  refine lv_iload_n hx hb dX8_isPerson_0 rfl (lv_at hl 1 rfl) ?_
  refine lv_iconst (v := 0) hx hb dX8_isPerson_1 (by decide) ?_
  refine lv_aload_n hx hb dX8_isPerson_2 rfl (lv_at hl 0 rfl) ?_
  refine x_getI C hw gtX8_115 dX8_isPerson_3 ?_
  refine lv_iconst (v := 1) hx hb dX8_isPerson_6 (by decide) ?_
  refine lv_isub hx hb dX8_isPerson_7 ?_
  obtain ⟨r1, S1, hv, h⟩ := b2_some h
  refine x_callSI C hw (mX8_within hv) lkX8_111 rfl (Nat.le_of_ble_eq_true rfl) hl.1 rfl (Nat.le_of_ble_eq_true rfl) dX8_isPerson_8 (fun H locs hw => ?_)
  exact x_zret C hw h dX8_isPerson_11
set_option maxHeartbeats 4000000 in
set_option maxRecDepth 100000 in
theorem mX8_as {N : Nat} {l : Launch} {D : va_G} {ad : Nat → Nat} {cI cZ : ClassId} {S Sz : SS} {x1 x2 : Int32} {rz : Int32} (h : fX8_as N S x1 x2 = some (rz, Sz)) : MI l D lyM ad cI cZ yX8_as cX8_as 3 (some .int) 2 [.ref (ad 0), .int x1, .int x2] S rz Sz := by
  refine x_startI RX8 (by decide) rfl (Nat.le_of_ble_eq_true rfl) ?_
  intro p e s m args below meth c A C hw ls hl
  have hx := C.1
  have hb := C.2.1
  have hown := C.2.2.2.1
  have hts := C.2.2.2.2.1
  have hl : lv_has ls 3 [(0, .ref (ad 0)), (1, .int x1), (2, .int x2)] := hl
  have B38 : ∀ (S : SS) (x1 : Int32) (H : Heap) (locs : List Loc) (ls : Array Slot), fX8_as_b38 N S x1 = some (rz, Sz) → WH D A s.heap lyM ad cI cZ S H locs → lv_has ls 3 [(0, .ref (ad 0)), (1, .int x1)] → W p l e (rmK 2) s m args below meth c H locs 0 0 (MQ below (Qi D lyM ad cI cZ A rz Sz) args s 0 0 A) (F0 m 38 ls []) := by
    intro S x1 H locs ls h hw hl
    unfold fX8_as_b38 at h
    refine lv_aload_n hx hb dX8_as_38 rfl (lv_at hl 0 rfl) ?_
    refine x_getR C hw gtX8_16 dX8_as_39 ?_
    refine lv_iload_n hx hb dX8_as_42 rfl (lv_at hl 1 rfl) ?_
    obtain ⟨v1, hv, h⟩ := bb_some h
    refine x_ald C hw alM_3 hv dX8_as_43 ?_
    refine lv_goto (tgt := 53) hx hb dX8_as_44 (by decide) ?_
    exact x_iret C hw h dX8_as_53
  have B17 : ∀ (S : SS) (H : Heap) (locs : List Loc) (ls : Array Slot), fX8_as_b17 N S = some (rz, Sz) → WH D A s.heap lyM ad cI cZ S H locs → lv_has ls 3 [(0, .ref (ad 0))] → W p l e (rmK 2) s m args below meth c H locs 0 0 (MQ below (Qi D lyM ad cI cZ A rz Sz) args s 0 0 A) (F0 m 17 ls []) := by
    intro S  H locs ls h hw hl
    unfold fX8_as_b17 at h
    refine lv_aload_n hx hb dX8_as_17 rfl (lv_at hl 0 rfl) ?_
    refine lv_ldc (v := (-1000001)) hx hb hown (hts _ kwX8_123) dX8_as_18 ?_
    obtain ⟨r1, S1, hv, h⟩ := b2_some h
    refine x_callVI C hw (mX8_finding hv) lkX8_124 rfl (Nat.le_of_ble_eq_true rfl) hl.1 rfl (Nat.le_of_ble_eq_true rfl) dX8_as_20 (fun H locs hw => ?_)
    exact x_iret C hw h dX8_as_23
  unfold fX8_as at h
  refine lv_aload_n hx hb dX8_as_0 rfl (lv_at hl 0 rfl) ?_
  refine lv_iload_n hx hb dX8_as_1 rfl (lv_at hl 1 rfl) ?_
  obtain ⟨r1, S1, hv, h⟩ := b2_some h
  refine x_callVI C hw (mX8_isPerson hv) lkX8_132 rfl (Nat.le_of_ble_eq_true rfl) hl.1 rfl (Nat.le_of_ble_eq_true rfl) dX8_as_2 (fun H locs hw => ?_)
  refine lv_if_eq (tgt := 17) hx hb dX8_as_5 (by decide) (fun c => ?_) (fun c => ?_)
  · have h := (it_d h).1 c
    exact B17 S1 _ _ ls h hw (lv_sub hl [0] rfl)
  · have h := (it_d h).2 c
    refine lv_iload_n hx hb dX8_as_8 rfl (lv_at hl 2 rfl) ?_
    refine lv_iconst (v := 0) hx hb dX8_as_9 (by decide) ?_
    refine lv_iconst (v := 2) hx hb dX8_as_10 (by decide) ?_
    obtain ⟨r2, S2, hv, h⟩ := b2_some h
    refine x_callSI C hw (mX8_within hv) lkX8_111 rfl (Nat.le_of_ble_eq_true rfl) hl.1 rfl (Nat.le_of_ble_eq_true rfl) dX8_as_11 (fun H locs hw => ?_)
    refine lv_if_ne (tgt := 24) hx hb dX8_as_14 (by decide) (fun c => ?_) (fun c => ?_)
    · have h := (it_d h).2 c
      refine lv_iload_n hx hb dX8_as_24 rfl (lv_at hl 2 rfl) ?_
      refine lv_if_eq (tgt := 38) hx hb dX8_as_25 (by decide) (fun c => ?_) (fun c => ?_)
      · have h := (it_d h).1 c
        exact B38 S2 x1 _ _ ls h hw (lv_sub hl [0, 1] rfl)
      · have h := (it_d h).2 c
        refine lv_aload_n hx hb dX8_as_28 rfl (lv_at hl 0 rfl) ?_
        refine x_getR C hw gtX8_9 dX8_as_29 ?_
        refine lv_iload_n hx hb dX8_as_32 rfl (lv_at hl 1 rfl) ?_
        obtain ⟨v1, hv, h⟩ := bb_some h
        refine x_ald C hw alM_1 hv dX8_as_33 ?_
        refine lv_iload_n hx hb dX8_as_34 rfl (lv_at hl 2 rfl) ?_
        refine lv_icmp_ne (tgt := 47) hx hb dX8_as_35 (by decide) (fun c => ?_) (fun c => ?_)
        · have h := (it_d h).2 c
          refine lv_aload_n hx hb dX8_as_47 rfl (lv_at hl 0 rfl) ?_
          refine lv_ldc (v := (-1000005)) hx hb hown (hts _ kwX8_135) dX8_as_48 ?_
          obtain ⟨r3, S3, hv, h⟩ := b2_some h
          refine x_callVI C hw (mX8_finding hv) lkX8_124 rfl (Nat.le_of_ble_eq_true rfl) hl.1 rfl (Nat.le_of_ble_eq_true rfl) dX8_as_50 (fun H locs hw => ?_)
          exact x_iret C hw h dX8_as_53
        · have h := (it_d h).1 c
          exact B38 S2 x1 _ _ ls h hw (lv_sub hl [0, 1] rfl)
    · have h := (it_d h).1 c
      exact B17 S2 _ _ ls h hw (lv_sub hl [0] rfl)
set_option maxHeartbeats 4000000 in
set_option maxRecDepth 100000 in
theorem mX8_falls {N : Nat} {l : Launch} {D : va_G} {ad : Nat → Nat} {cI cZ : ClassId} {S Sz : SS} {x1 x2 : Int32} {rz : Int32} (h : fX8_falls N S x1 x2 = some (rz, Sz)) : MI l D lyM ad cI cZ yX8_falls cX8_falls 5 (some .boolean) 1 [.ref (ad 0), .int x1, .int x2] S rz Sz := by
  refine x_startI RX8 (by decide) rfl (Nat.le_of_ble_eq_true rfl) ?_
  intro p e s m args below meth c A C hw ls hl
  have hx := C.1
  have hb := C.2.1
  have hown := C.2.2.2.1
  have hts := C.2.2.2.2.1
  have hl : lv_has ls 5 [(0, .ref (ad 0)), (1, .int x1), (2, .int x2)] := hl
  have B61 : ∀ (S : SS) (x1 x3 : Int32) (H : Heap) (locs : List Loc) (ls : Array Slot), fX8_falls_b61 N S x1 x3 = some (rz, Sz) → WH D A s.heap lyM ad cI cZ S H locs → lv_has ls 5 [(0, .ref (ad 0)), (1, .int x1), (3, .int x3)] → W p l e (rmK 1) s m args below meth c H locs 0 0 (MQ below (Qi D lyM ad cI cZ A rz Sz) args s 0 0 A) (F0 m 61 ls []) := by
    intro S x1 x3 H locs ls h hw hl
    unfold fX8_falls_b61 at h
    refine lv_iload_n hx hb dX8_falls_61 rfl (lv_at hl 2 rfl) ?_
    refine lv_if_eq (tgt := 84) hx hb dX8_falls_62 (by decide) (fun c => ?_) (fun c => ?_)
    · have h := (it_d h).1 c
      refine lv_iconst (v := 0) hx hb dX8_falls_84 (by decide) ?_
      exact x_zret C hw h dX8_falls_85
    · have h := (it_d h).2 c
      refine lv_aload_n hx hb dX8_falls_65 rfl (lv_at hl 0 rfl) ?_
      refine x_getR C hw gtX8_28 dX8_falls_66 ?_
      refine lv_aload_n hx hb dX8_falls_69 rfl (lv_at hl 0 rfl) ?_
      refine x_getR C hw gtX8_52 dX8_falls_70 ?_
      refine lv_iload_n hx hb dX8_falls_73 rfl (lv_at hl 1 rfl) ?_
      obtain ⟨v1, hv, h⟩ := bb_some h
      refine x_ald C hw alM_15 hv dX8_falls_74 ?_
      obtain ⟨v2, hv, h⟩ := bb_some h
      refine x_ald C hw alM_7 hv dX8_falls_75 ?_
      refine lv_iconst (v := 1) hx hb dX8_falls_76 (by decide) ?_
      refine lv_icmp_ne (tgt := 84) hx hb dX8_falls_77 (by decide) (fun c => ?_) (fun c => ?_)
      · have h := (it_d h).2 c
        refine lv_iconst (v := 0) hx hb dX8_falls_84 (by decide) ?_
        exact x_zret C hw h dX8_falls_85
      · have h := (it_d h).1 c
        refine lv_iconst (v := 1) hx hb dX8_falls_80 (by decide) ?_
        refine lv_goto (tgt := 85) hx hb dX8_falls_81 (by decide) ?_
        exact x_zret C hw h dX8_falls_85
  have B5 : ∀ n : Nat, ∀ (S : SS) (x1 x2 x3 x4 : Int32) (H : Heap) (locs : List Loc) (ls : Array Slot), fX8_falls_b5 N n S x1 x2 x3 x4 = some (rz, Sz) → WH D A s.heap lyM ad cI cZ S H locs → lv_has ls 5 [(0, .ref (ad 0)), (1, .int x1), (2, .int x2), (3, .int x3), (4, .int x4)] → W p l e (rmK 1) s m args below meth c H locs 0 0 (MQ below (Qi D lyM ad cI cZ A rz Sz) args s 0 0 A) (F0 m 5 ls []) := by
    intro n
    induction n with
    | zero =>
      intro S x1 x2 x3 x4 H locs ls h hw hl
      rw [fX8_falls_b5] at h
      cases h
    | succ n ih5 =>
      intro S x1 x2 x3 x4 H locs ls h hw hl
      rw [fX8_falls_b5] at h
      refine lv_iload hx hb dX8_falls_5 (lv_at hl 4 rfl) ?_
      refine lv_aload_n hx hb dX8_falls_7 rfl (lv_at hl 0 rfl) ?_
      refine x_getI C hw gtX8_115 dX8_falls_8 ?_
      refine lv_icmp_ge (tgt := 61) hx hb dX8_falls_11 (by decide) (fun c => ?_) (fun c => ?_)
      · have h := (it_d h).1 c
        exact B61 S x1 x3 _ _ ls h hw (lv_sub hl [0, 1, 3] rfl)
      · have h := (it_d h).2 c
        refine lv_iload_n hx hb dX8_falls_14 rfl (lv_at hl 3 rfl) ?_
        refine lv_if_ne (tgt := 49) hx hb dX8_falls_15 (by decide) (fun c => ?_) (fun c => ?_)
        · have h := (it_d h).2 c
          refine lv_iconst (v := 1) hx hb dX8_falls_49 (by decide) ?_
          refine lv_goto (tgt := 54) hx hb dX8_falls_50 (by decide) ?_
          refine lv_istore_n (lv' := [(3, .int 1), (0, .ref (ad 0)), (1, .int x1), (2, .int x2), (4, .int x4)]) hx hb dX8_falls_54 rfl hl (by decide) rfl (fun ls hl => ?_)
          refine lv_iinc (v := (x4 + 1)) (lv' := [(4, .int (x4 + 1)), (3, .int 1), (0, .ref (ad 0)), (1, .int x1), (2, .int x2)]) hx hb dX8_falls_55 hl (k := 4) rfl rfl (by decide) rfl (fun ls hl => ?_)
          refine lv_goto (tgt := 5) hx hb dX8_falls_58 (by decide) ?_
          exact ih5 S x1 x2 1 (x4 + 1) _ _ ls h hw (lv_sub hl [2, 3, 4, 1, 0] rfl)
        · have h := (it_d h).1 c
          refine lv_aload_n hx hb dX8_falls_18 rfl (lv_at hl 0 rfl) ?_
          refine x_getR C hw gtX8_61 dX8_falls_19 ?_
          refine lv_iload_n hx hb dX8_falls_22 rfl (lv_at hl 1 rfl) ?_
          obtain ⟨v1, hv, h⟩ := bb_some h
          refine x_ald C hw alM_18 hv dX8_falls_23 ?_
          refine lv_iload hx hb dX8_falls_24 (lv_at hl 4 rfl) ?_
          refine lv_ishr hx hb dX8_falls_26 ?_
          refine lv_iconst (v := 1) hx hb dX8_falls_27 (by decide) ?_
          refine lv_iand hx hb dX8_falls_28 ?_
          refine lv_iconst (v := 1) hx hb dX8_falls_29 (by decide) ?_
          refine lv_icmp_ne (tgt := 53) hx hb dX8_falls_30 (by decide) (fun c => ?_) (fun c => ?_)
          · have h := (it_d h).2 c
            refine lv_iconst (v := 0) hx hb dX8_falls_53 (by decide) ?_
            refine lv_istore_n (lv' := [(3, .int 0), (0, .ref (ad 0)), (1, .int x1), (2, .int x2), (4, .int x4)]) hx hb dX8_falls_54 rfl hl (by decide) rfl (fun ls hl => ?_)
            refine lv_iinc (v := (x4 + 1)) (lv' := [(4, .int (x4 + 1)), (3, .int 0), (0, .ref (ad 0)), (1, .int x1), (2, .int x2)]) hx hb dX8_falls_55 hl (k := 4) rfl rfl (by decide) rfl (fun ls hl => ?_)
            refine lv_goto (tgt := 5) hx hb dX8_falls_58 (by decide) ?_
            exact ih5 S x1 x2 0 (x4 + 1) _ _ ls h hw (lv_sub hl [2, 3, 4, 1, 0] rfl)
          · have h := (it_d h).1 c
            refine lv_aload_n hx hb dX8_falls_33 rfl (lv_at hl 0 rfl) ?_
            refine lv_iload hx hb dX8_falls_34 (lv_at hl 4 rfl) ?_
            refine lv_aload_n hx hb dX8_falls_36 rfl (lv_at hl 0 rfl) ?_
            refine x_getR C hw gtX8_58 dX8_falls_37 ?_
            refine lv_iload_n hx hb dX8_falls_40 rfl (lv_at hl 1 rfl) ?_
            obtain ⟨v2, hv, h⟩ := bb_some h
            refine x_ald C hw alM_17 hv dX8_falls_41 ?_
            refine lv_iload_n hx hb dX8_falls_42 rfl (lv_at hl 2 rfl) ?_
            obtain ⟨r1, S1, hv, h⟩ := b2_some h
            refine x_callVI C hw (mX8_isStruck hv) lkX8_156 rfl (Nat.le_of_ble_eq_true rfl) hl.1 rfl (Nat.le_of_ble_eq_true rfl) dX8_falls_43 (fun H locs hw => ?_)
            refine lv_if_eq (tgt := 53) hx hb dX8_falls_46 (by decide) (fun c => ?_) (fun c => ?_)
            · have h := (it_d h).1 c
              refine lv_iconst (v := 0) hx hb dX8_falls_53 (by decide) ?_
              refine lv_istore_n (lv' := [(3, .int 0), (0, .ref (ad 0)), (1, .int x1), (2, .int x2), (4, .int x4)]) hx hb dX8_falls_54 rfl hl (by decide) rfl (fun ls hl => ?_)
              refine lv_iinc (v := (x4 + 1)) (lv' := [(4, .int (x4 + 1)), (3, .int 0), (0, .ref (ad 0)), (1, .int x1), (2, .int x2)]) hx hb dX8_falls_55 hl (k := 4) rfl rfl (by decide) rfl (fun ls hl => ?_)
              refine lv_goto (tgt := 5) hx hb dX8_falls_58 (by decide) ?_
              exact ih5 S1 x1 x2 0 (x4 + 1) _ _ ls h hw (lv_sub hl [2, 3, 4, 1, 0] rfl)
            · have h := (it_d h).2 c
              refine lv_iconst (v := 1) hx hb dX8_falls_49 (by decide) ?_
              refine lv_goto (tgt := 54) hx hb dX8_falls_50 (by decide) ?_
              refine lv_istore_n (lv' := [(3, .int 1), (0, .ref (ad 0)), (1, .int x1), (2, .int x2), (4, .int x4)]) hx hb dX8_falls_54 rfl hl (by decide) rfl (fun ls hl => ?_)
              refine lv_iinc (v := (x4 + 1)) (lv' := [(4, .int (x4 + 1)), (3, .int 1), (0, .ref (ad 0)), (1, .int x1), (2, .int x2)]) hx hb dX8_falls_55 hl (k := 4) rfl rfl (by decide) rfl (fun ls hl => ?_)
              refine lv_goto (tgt := 5) hx hb dX8_falls_58 (by decide) ?_
              exact ih5 S1 x1 x2 1 (x4 + 1) _ _ ls h hw (lv_sub hl [2, 3, 4, 1, 0] rfl)
  unfold fX8_falls at h
  refine lv_iconst (v := 0) hx hb dX8_falls_0 (by decide) ?_
  refine lv_istore_n (lv' := [(3, .int 0), (0, .ref (ad 0)), (1, .int x1), (2, .int x2)]) hx hb dX8_falls_1 rfl hl (by decide) rfl (fun ls hl => ?_)
  refine lv_iconst (v := 0) hx hb dX8_falls_2 (by decide) ?_
  refine lv_istore (lv' := [(4, .int 0), (3, .int 0), (0, .ref (ad 0)), (1, .int x1), (2, .int x2)]) hx hb dX8_falls_3 hl (by decide) rfl (fun ls hl => ?_)
  exact B5 N S x1 x2 0 0 _ _ ls h hw (lv_sub hl [2, 3, 4, 1, 0] rfl)
set_option maxHeartbeats 4000000 in
set_option maxRecDepth 100000 in
theorem mX8_findStanding {N : Nat} {l : Launch} {D : va_G} {ad : Nat → Nat} {cI cZ : ClassId} {S Sz : SS} {x1 : Int32} (h : fX8_findStanding N S x1 = some Sz) : MV l D lyM ad cI cZ yX8_findStanding cX8_findStanding 5 2 [.ref (ad 0), .int x1] S Sz := by
  refine x_startV RX8 (by decide) rfl (Nat.le_of_ble_eq_true rfl) ?_
  intro p e s m args below meth c A C hw ls hl
  have hx := C.1
  have hb := C.2.1
  have hown := C.2.2.2.1
  have hts := C.2.2.2.2.1
  have hl : lv_has ls 5 [(0, .ref (ad 0)), (1, .int x1)] := hl
  have B2 : ∀ n : Nat, ∀ (S : SS) (x1 x2 : Int32) (H : Heap) (locs : List Loc) (ls : Array Slot), fX8_findStanding_b2 N n S x1 x2 = some Sz → WH D A s.heap lyM ad cI cZ S H locs → lv_has ls 5 [(0, .ref (ad 0)), (1, .int x1), (2, .int x2)] → W p l e (rmK 2) s m args below meth c H locs 0 0 (MQ below (Qv D lyM ad cI cZ A Sz) args s 0 0 A) (F0 m 2 ls []) := by
    intro n
    induction n with
    | zero =>
      intro S x1 x2 H locs ls h hw hl
      rw [fX8_findStanding_b2] at h
      cases h
    | succ n2 ih2 =>
      have B123 : ∀ (S : SS) (x1 x2 t1 t2 : Int32) (H : Heap) (locs : List Loc) (ls : Array Slot), fX8_findStanding_b123 N (fun S x1 x2 => fX8_findStanding_b2 N n2 S x1 x2) S x1 x2 t1 t2 = some Sz → WH D A s.heap lyM ad cI cZ S H locs → lv_has ls 5 [(0, .ref (ad 0)), (1, .int x1), (2, .int x2)] → W p l e (rmK 2) s m args below meth c H locs 0 0 (MQ below (Qv D lyM ad cI cZ A Sz) args s 0 0 A) (F0 m 123 ls [.int t2, .int t1, .ref (ad 29)]) := by
        intro S x1 x2 t1 t2 H locs ls h hw hl
        unfold fX8_findStanding_b123 at h
        obtain ⟨S1, hv, h⟩ := bb_some h
        refine x_zast C hw alM_29 hv dX8_findStanding_123 (fun H locs hw => ?_)
        refine lv_iinc (v := (x2 + 1)) (lv' := [(2, .int (x2 + 1)), (0, .ref (ad 0)), (1, .int x1)]) hx hb dX8_findStanding_124 hl (k := 2) rfl rfl (by decide) rfl (fun ls hl => ?_)
        refine lv_goto (tgt := 2) hx hb dX8_findStanding_127 (by decide) ?_
        exact ih2 S1 x1 (x2 + 1) _ _ ls h hw (lv_sub hl [1, 2, 0] rfl)
      have B82 : ∀ (S : SS) (x1 x2 x3 : Int32) (H : Heap) (locs : List Loc) (ls : Array Slot), fX8_findStanding_b82 N (fun S x1 x2 => fX8_findStanding_b2 N n2 S x1 x2) S x1 x2 x3 = some Sz → WH D A s.heap lyM ad cI cZ S H locs → lv_has ls 5 [(0, .ref (ad 0)), (1, .int x1), (2, .int x2), (3, .int x3)] → W p l e (rmK 2) s m args below meth c H locs 0 0 (MQ below (Qv D lyM ad cI cZ A Sz) args s 0 0 A) (F0 m 82 ls []) := by
        intro S x1 x2 x3 H locs ls h hw hl
        unfold fX8_findStanding_b82 at h
        refine lv_aload_n hx hb dX8_findStanding_82 rfl (lv_at hl 0 rfl) ?_
        refine x_getR C hw gtX8_94 dX8_findStanding_83 ?_
        refine lv_iload_n hx hb dX8_findStanding_86 rfl (lv_at hl 2 rfl) ?_
        refine lv_aload_n hx hb dX8_findStanding_87 rfl (lv_at hl 0 rfl) ?_
        refine lv_iload_n hx hb dX8_findStanding_88 rfl (lv_at hl 2 rfl) ?_
        refine lv_iload_n hx hb dX8_findStanding_89 rfl (lv_at hl 1 rfl) ?_
        obtain ⟨r1, S1, hv, h⟩ := b2_some h
        refine x_callVI C hw (mX8_falls hv) lkX8_171 rfl (Nat.le_of_ble_eq_true rfl) hl.1 rfl (Nat.le_of_ble_eq_true rfl) dX8_findStanding_90 (fun H locs hw => ?_)
        refine lv_if_ne (tgt := 122) hx hb dX8_findStanding_93 (by decide) (fun c => ?_) (fun c => ?_)
        · have h := (it_d h).2 c
          refine lv_iconst (v := 0) hx hb dX8_findStanding_122 (by decide) ?_
          exact B123 S1 x1 x2 x2 0 _ _ ls h hw (lv_sub hl [0, 1, 2] rfl)
        · have h := (it_d h).1 c
          refine lv_aload_n hx hb dX8_findStanding_96 rfl (lv_at hl 0 rfl) ?_
          refine x_getR C hw gtX8_55 dX8_findStanding_97 ?_
          refine lv_iload_n hx hb dX8_findStanding_100 rfl (lv_at hl 2 rfl) ?_
          obtain ⟨v1, hv, h⟩ := bb_some h
          refine x_ald C hw alM_16 hv dX8_findStanding_101 ?_
          refine lv_iconst (v := 1) hx hb dX8_findStanding_102 (by decide) ?_
          refine lv_icmp_eq (tgt := 118) hx hb dX8_findStanding_103 (by decide) (fun c => ?_) (fun c => ?_)
          · have h := (it_d h).1 c
            refine lv_iconst (v := 1) hx hb dX8_findStanding_118 (by decide) ?_
            refine lv_goto (tgt := 123) hx hb dX8_findStanding_119 (by decide) ?_
            exact B123 S1 x1 x2 x2 1 _ _ ls h hw (lv_sub hl [0, 1, 2] rfl)
          · have h := (it_d h).2 c
            refine lv_iload_n hx hb dX8_findStanding_106 rfl (lv_at hl 3 rfl) ?_
            refine lv_aload_n hx hb dX8_findStanding_107 rfl (lv_at hl 0 rfl) ?_
            refine x_getR C hw gtX8_55 dX8_findStanding_108 ?_
            refine lv_iload_n hx hb dX8_findStanding_111 rfl (lv_at hl 2 rfl) ?_
            obtain ⟨v2, hv, h⟩ := bb_some h
            refine x_ald C hw alM_16 hv dX8_findStanding_112 ?_
            refine lv_iconst (v := 1) hx hb dX8_findStanding_113 (by decide) ?_
            refine lv_isub hx hb dX8_findStanding_114 ?_
            refine lv_icmp_lt (tgt := 122) hx hb dX8_findStanding_115 (by decide) (fun c => ?_) (fun c => ?_)
            · have h := (it_d h).1 c
              refine lv_iconst (v := 0) hx hb dX8_findStanding_122 (by decide) ?_
              exact B123 S1 x1 x2 x2 0 _ _ ls h hw (lv_sub hl [0, 1, 2] rfl)
            · have h := (it_d h).2 c
              refine lv_iconst (v := 1) hx hb dX8_findStanding_118 (by decide) ?_
              refine lv_goto (tgt := 123) hx hb dX8_findStanding_119 (by decide) ?_
              exact B123 S1 x1 x2 x2 1 _ _ ls h hw (lv_sub hl [0, 1, 2] rfl)
      have B15 : ∀ n : Nat, ∀ (S : SS) (x1 x2 x3 x4 : Int32) (H : Heap) (locs : List Loc) (ls : Array Slot), fX8_findStanding_b15 N (fun S x1 x2 => fX8_findStanding_b2 N n2 S x1 x2) n S x1 x2 x3 x4 = some Sz → WH D A s.heap lyM ad cI cZ S H locs → lv_has ls 5 [(0, .ref (ad 0)), (1, .int x1), (2, .int x2), (3, .int x3), (4, .int x4)] → W p l e (rmK 2) s m args below meth c H locs 0 0 (MQ below (Qv D lyM ad cI cZ A Sz) args s 0 0 A) (F0 m 15 ls []) := by
        intro n
        induction n with
        | zero =>
          intro S x1 x2 x3 x4 H locs ls h hw hl
          rw [fX8_findStanding_b15] at h
          cases h
        | succ n ih15 =>
          intro S x1 x2 x3 x4 H locs ls h hw hl
          rw [fX8_findStanding_b15] at h
          refine lv_iload hx hb dX8_findStanding_15 (lv_at hl 4 rfl) ?_
          refine lv_iload_n hx hb dX8_findStanding_17 rfl (lv_at hl 2 rfl) ?_
          refine lv_icmp_ge (tgt := 82) hx hb dX8_findStanding_18 (by decide) (fun c => ?_) (fun c => ?_)
          · have h := (it_d h).1 c
            exact B82 S x1 x2 x3 _ _ ls h hw (lv_sub hl [0, 1, 2, 3] rfl)
          · have h := (it_d h).2 c
            refine lv_aload_n hx hb dX8_findStanding_21 rfl (lv_at hl 0 rfl) ?_
            refine x_getR C hw gtX8_94 dX8_findStanding_22 ?_
            refine lv_iload hx hb dX8_findStanding_25 (lv_at hl 4 rfl) ?_
            obtain ⟨v1, hv, h⟩ := bb_some h
            refine x_zald C hw alM_29 hv dX8_findStanding_27 ?_
            refine lv_if_eq (tgt := 76) hx hb dX8_findStanding_28 (by decide) (fun c => ?_) (fun c => ?_)
            · have h := (it_d h).1 c
              refine lv_iinc (v := (x4 + 1)) (lv' := [(4, .int (x4 + 1)), (0, .ref (ad 0)), (1, .int x1), (2, .int x2), (3, .int x3)]) hx hb dX8_findStanding_76 hl (k := 4) rfl rfl (by decide) rfl (fun ls hl => ?_)
              refine lv_goto (tgt := 15) hx hb dX8_findStanding_79 (by decide) ?_
              exact ih15 S x1 x2 x3 (x4 + 1) _ _ ls h hw (lv_sub hl [1, 2, 3, 4, 0] rfl)
            · have h := (it_d h).2 c
              refine lv_aload_n hx hb dX8_findStanding_31 rfl (lv_at hl 0 rfl) ?_
              refine x_getR C hw gtX8_49 dX8_findStanding_32 ?_
              refine lv_iload hx hb dX8_findStanding_35 (lv_at hl 4 rfl) ?_
              obtain ⟨v2, hv, h⟩ := bb_some h
              refine x_ald C hw alM_14 hv dX8_findStanding_37 ?_
              refine lv_aload_n hx hb dX8_findStanding_38 rfl (lv_at hl 0 rfl) ?_
              refine x_getR C hw gtX8_49 dX8_findStanding_39 ?_
              refine lv_iload_n hx hb dX8_findStanding_42 rfl (lv_at hl 2 rfl) ?_
              obtain ⟨v3, hv, h⟩ := bb_some h
              refine x_ald C hw alM_14 hv dX8_findStanding_43 ?_
              refine lv_icmp_ne (tgt := 76) hx hb dX8_findStanding_44 (by decide) (fun c => ?_) (fun c => ?_)
              · have h := (it_d h).2 c
                refine lv_iinc (v := (x4 + 1)) (lv' := [(4, .int (x4 + 1)), (0, .ref (ad 0)), (1, .int x1), (2, .int x2), (3, .int x3)]) hx hb dX8_findStanding_76 hl (k := 4) rfl rfl (by decide) rfl (fun ls hl => ?_)
                refine lv_goto (tgt := 15) hx hb dX8_findStanding_79 (by decide) ?_
                exact ih15 S x1 x2 x3 (x4 + 1) _ _ ls h hw (lv_sub hl [1, 2, 3, 4, 0] rfl)
              · have h := (it_d h).1 c
                refine lv_iload_n hx hb dX8_findStanding_47 rfl (lv_at hl 3 rfl) ?_
                refine lv_aload_n hx hb dX8_findStanding_48 rfl (lv_at hl 0 rfl) ?_
                refine lv_aload_n hx hb dX8_findStanding_49 rfl (lv_at hl 0 rfl) ?_
                refine x_getR C hw gtX8_52 dX8_findStanding_50 ?_
                refine lv_iload_n hx hb dX8_findStanding_53 rfl (lv_at hl 2 rfl) ?_
                obtain ⟨v4, hv, h⟩ := bb_some h
                refine x_ald C hw alM_15 hv dX8_findStanding_54 ?_
                refine lv_aload_n hx hb dX8_findStanding_55 rfl (lv_at hl 0 rfl) ?_
                refine x_getR C hw gtX8_52 dX8_findStanding_56 ?_
                refine lv_iload hx hb dX8_findStanding_59 (lv_at hl 4 rfl) ?_
                obtain ⟨v5, hv, h⟩ := bb_some h
                refine x_ald C hw alM_15 hv dX8_findStanding_61 ?_
                refine lv_aload_n hx hb dX8_findStanding_62 rfl (lv_at hl 0 rfl) ?_
                refine x_getR C hw gtX8_55 dX8_findStanding_63 ?_
                refine lv_iload hx hb dX8_findStanding_66 (lv_at hl 4 rfl) ?_
                obtain ⟨v6, hv, h⟩ := bb_some h
                refine x_ald C hw alM_16 hv dX8_findStanding_68 ?_
                obtain ⟨r1, S1, hv, h⟩ := b2_some h
                refine x_callVI C hw (mX8_counts hv) lkX8_162 rfl (Nat.le_of_ble_eq_true rfl) hl.1 rfl (Nat.le_of_ble_eq_true rfl) dX8_findStanding_69 (fun H locs hw => ?_)
                refine x_mx C mkX8_165 (Nat.le_of_ble_eq_true rfl) hl.1 (Nat.le_of_ble_eq_true rfl) dX8_findStanding_72 ?_
                refine lv_istore_n (lv' := [(3, .int (mx x3 r1)), (0, .ref (ad 0)), (1, .int x1), (2, .int x2), (4, .int x4)]) hx hb dX8_findStanding_75 rfl hl (by decide) rfl (fun ls hl => ?_)
                refine lv_iinc (v := (x4 + 1)) (lv' := [(4, .int (x4 + 1)), (3, .int (mx x3 r1)), (0, .ref (ad 0)), (1, .int x1), (2, .int x2)]) hx hb dX8_findStanding_76 hl (k := 4) rfl rfl (by decide) rfl (fun ls hl => ?_)
                refine lv_goto (tgt := 15) hx hb dX8_findStanding_79 (by decide) ?_
                exact ih15 S1 x1 x2 (mx x3 r1) (x4 + 1) _ _ ls h hw (lv_sub hl [2, 3, 4, 1, 0] rfl)
      intro S x1 x2 H locs ls h hw hl
      rw [fX8_findStanding_b2] at h
      refine lv_iload_n hx hb dX8_findStanding_2 rfl (lv_at hl 2 rfl) ?_
      refine lv_aload_n hx hb dX8_findStanding_3 rfl (lv_at hl 0 rfl) ?_
      refine x_getI C hw gtX8_159 dX8_findStanding_4 ?_
      refine lv_icmp_ge (tgt := 130) hx hb dX8_findStanding_7 (by decide) (fun c => ?_) (fun c => ?_)
      · have h := (it_d h).1 c
        exact x_vret C hw h dX8_findStanding_130
      · have h := (it_d h).2 c
        refine lv_iconst (v := 0) hx hb dX8_findStanding_10 (by decide) ?_
        refine lv_istore_n (lv' := [(3, .int 0), (0, .ref (ad 0)), (1, .int x1), (2, .int x2)]) hx hb dX8_findStanding_11 rfl hl (by decide) rfl (fun ls hl => ?_)
        refine lv_iconst (v := 0) hx hb dX8_findStanding_12 (by decide) ?_
        refine lv_istore (lv' := [(4, .int 0), (3, .int 0), (0, .ref (ad 0)), (1, .int x1), (2, .int x2)]) hx hb dX8_findStanding_13 hl (by decide) rfl (fun ls hl => ?_)
        exact B15 N S x1 x2 0 0 _ _ ls h hw (lv_sub hl [2, 3, 4, 1, 0] rfl)
  unfold fX8_findStanding at h
  refine lv_iconst (v := 0) hx hb dX8_findStanding_0 (by decide) ?_
  refine lv_istore_n (lv' := [(2, .int 0), (0, .ref (ad 0)), (1, .int x1)]) hx hb dX8_findStanding_1 rfl hl (by decide) rfl (fun ls hl => ?_)
  exact B2 N S x1 0 _ _ ls h hw (lv_sub hl [1, 2, 0] rfl)
set_option maxHeartbeats 4000000 in
set_option maxRecDepth 100000 in
theorem mX8_panelOf {N : Nat} {l : Launch} {D : va_G} {ad : Nat → Nat} {cI cZ : ClassId} {S Sz : SS} {x1 x2 x3 x4 x5 : Int32} {rz : Int32} (h : fX8_panelOf N S x1 x2 x3 x4 x5 = some (rz, Sz)) : MI l D lyM ad cI cZ yX8_panelOf cX8_panelOf 11 (some .int) 4 [.ref (ad 0), .int x1, .int x2, .int x3, .int x4, .int x5] S rz Sz := by
  refine x_startI RX8 (by decide) rfl (Nat.le_of_ble_eq_true rfl) ?_
  intro p e s m args below meth c A C hw ls hl
  have hx := C.1
  have hb := C.2.1
  have hown := C.2.2.2.1
  have hts := C.2.2.2.2.1
  have hl : lv_has ls 11 [(0, .ref (ad 0)), (1, .int x1), (2, .int x2), (3, .int x3), (4, .int x4), (5, .int x5)] := hl
  have B99 : ∀ (S : SS) (x6 x7 x8 : Int32) (H : Heap) (locs : List Loc) (ls : Array Slot), fX8_panelOf_b99 N S x6 x7 x8 = some (rz, Sz) → WH D A s.heap lyM ad cI cZ S H locs → lv_has ls 11 [(6, .int x6), (7, .int x7), (8, .int x8)] → W p l e (rmK 4) s m args below meth c H locs 0 0 (MQ below (Qi D lyM ad cI cZ A rz Sz) args s 0 0 A) (F0 m 99 ls []) := by
    intro S x6 x7 x8 H locs ls h hw hl
    unfold fX8_panelOf_b99 at h
    refine lv_iload hx hb dX8_panelOf_99 (lv_at hl 0 rfl) ?_
    refine lv_iconst (v := 3) hx hb dX8_panelOf_101 (by decide) ?_
    refine lv_icmp_eq (tgt := 109) hx hb dX8_panelOf_102 (by decide) (fun c => ?_) (fun c => ?_)
    · have h := (it_d h).1 c
      refine lv_iload hx hb dX8_panelOf_109 (lv_at hl 1 rfl) ?_
      refine lv_if_ne (tgt := 118) hx hb dX8_panelOf_111 (by decide) (fun c => ?_) (fun c => ?_)
      · have h := (it_d h).2 c
        refine lv_iload hx hb dX8_panelOf_118 (lv_at hl 2 rfl) ?_
        refine lv_bipush (v := 9) hx hb dX8_panelOf_120 (by decide) ?_
        refine lv_icmp_ge (tgt := 130) hx hb dX8_panelOf_122 (by decide) (fun c => ?_) (fun c => ?_)
        · have h := (it_d h).1 c
          refine lv_iconst (v := 0) hx hb dX8_panelOf_130 (by decide) ?_
          exact x_iret C hw h dX8_panelOf_131
        · have h := (it_d h).2 c
          refine lv_iload hx hb dX8_panelOf_125 (lv_at hl 2 rfl) ?_
          refine lv_goto (tgt := 131) hx hb dX8_panelOf_127 (by decide) ?_
          exact x_iret C hw h dX8_panelOf_131
      · have h := (it_d h).1 c
        refine lv_iconst (v := 2) hx hb dX8_panelOf_114 (by decide) ?_
        refine lv_goto (tgt := 131) hx hb dX8_panelOf_115 (by decide) ?_
        exact x_iret C hw h dX8_panelOf_131
    · have h := (it_d h).2 c
      refine lv_iconst (v := 1) hx hb dX8_panelOf_105 (by decide) ?_
      refine lv_goto (tgt := 131) hx hb dX8_panelOf_106 (by decide) ?_
      exact x_iret C hw h dX8_panelOf_131
  have B13 : ∀ n : Nat, ∀ (S : SS) (x1 x2 x3 x4 x5 x6 x7 x8 x9 : Int32) (H : Heap) (locs : List Loc) (ls : Array Slot), fX8_panelOf_b13 N n S x1 x2 x3 x4 x5 x6 x7 x8 x9 = some (rz, Sz) → WH D A s.heap lyM ad cI cZ S H locs → lv_has ls 11 [(0, .ref (ad 0)), (1, .int x1), (2, .int x2), (3, .int x3), (4, .int x4), (5, .int x5), (6, .int x6), (7, .int x7), (8, .int x8), (9, .int x9)] → W p l e (rmK 4) s m args below meth c H locs 0 0 (MQ below (Qi D lyM ad cI cZ A rz Sz) args s 0 0 A) (F0 m 13 ls []) := by
    intro n
    induction n with
    | zero =>
      intro S x1 x2 x3 x4 x5 x6 x7 x8 x9 H locs ls h hw hl
      rw [fX8_panelOf_b13] at h
      cases h
    | succ n13 ih13 =>
      have B59 : ∀ (S : SS) (x1 x2 x3 x4 x5 x6 x8 x9 t0 : Int32) (H : Heap) (locs : List Loc) (ls : Array Slot), fX8_panelOf_b59 N (fun S x1 x2 x3 x4 x5 x6 x7 x8 x9 => fX8_panelOf_b13 N n13 S x1 x2 x3 x4 x5 x6 x7 x8 x9) S x1 x2 x3 x4 x5 x6 x8 x9 t0 = some (rz, Sz) → WH D A s.heap lyM ad cI cZ S H locs → lv_has ls 11 [(0, .ref (ad 0)), (1, .int x1), (2, .int x2), (3, .int x3), (4, .int x4), (5, .int x5), (6, .int x6), (8, .int x8), (9, .int x9)] → W p l e (rmK 4) s m args below meth c H locs 0 0 (MQ below (Qi D lyM ad cI cZ A rz Sz) args s 0 0 A) (F0 m 59 ls [.int t0]) := by
        intro S x1 x2 x3 x4 x5 x6 x8 x9 t0 H locs ls h hw hl
        unfold fX8_panelOf_b59 at h
        refine lv_istore (lv' := [(7, .int t0), (0, .ref (ad 0)), (1, .int x1), (2, .int x2), (3, .int x3), (4, .int x4), (5, .int x5), (6, .int x6), (8, .int x8), (9, .int x9)]) hx hb dX8_panelOf_59 hl (by decide) rfl (fun ls hl => ?_)
        refine lv_aload_n hx hb dX8_panelOf_61 rfl (lv_at hl 1 rfl) ?_
        refine lv_iload hx hb dX8_panelOf_62 (lv_at hl 9 rfl) ?_
        refine lv_iload_n hx hb dX8_panelOf_64 rfl (lv_at hl 2 rfl) ?_
        refine lv_iload_n hx hb dX8_panelOf_65 rfl (lv_at hl 3 rfl) ?_
        refine lv_iload_n hx hb dX8_panelOf_66 rfl (lv_at hl 4 rfl) ?_
        refine lv_iload hx hb dX8_panelOf_67 (lv_at hl 5 rfl) ?_
        obtain ⟨r1, S1, hv, h⟩ := b2_some h
        refine x_callVI C hw (mX8_against hv) lkX8_190 rfl (Nat.le_of_ble_eq_true rfl) hl.1 rfl (Nat.le_of_ble_eq_true rfl) dX8_panelOf_69 (fun H locs hw => ?_)
        refine lv_istore (lv' := [(10, .int r1), (7, .int t0), (0, .ref (ad 0)), (1, .int x1), (2, .int x2), (3, .int x3), (4, .int x4), (5, .int x5), (6, .int x6), (8, .int x8), (9, .int x9)]) hx hb dX8_panelOf_72 hl (by decide) rfl (fun ls hl => ?_)
        refine lv_iload hx hb dX8_panelOf_74 (lv_at hl 0 rfl) ?_
        refine lv_if_le (tgt := 89) hx hb dX8_panelOf_76 (by decide) (fun c => ?_) (fun c => ?_)
        · have h := (it_d h).1 c
          refine lv_iload hx hb dX8_panelOf_89 (lv_at hl 9 rfl) ?_
          refine lv_istore (lv' := [(8, .int x8), (10, .int r1), (7, .int t0), (0, .ref (ad 0)), (1, .int x1), (2, .int x2), (3, .int x3), (4, .int x4), (5, .int x5), (6, .int x6), (9, .int x9)]) hx hb dX8_panelOf_91 hl (by decide) rfl (fun ls hl => ?_)
          refine lv_iinc (v := (x9 + 1)) (lv' := [(9, .int (x9 + 1)), (8, .int x8), (10, .int r1), (7, .int t0), (0, .ref (ad 0)), (1, .int x1), (2, .int x2), (3, .int x3), (4, .int x4), (5, .int x5), (6, .int x6)]) hx hb dX8_panelOf_93 hl (k := 10) rfl rfl (by decide) rfl (fun ls hl => ?_)
          refine lv_goto (tgt := 13) hx hb dX8_panelOf_96 (by decide) ?_
          exact ih13 S1 x1 x2 x3 x4 x5 x6 t0 x8 (x9 + 1) _ _ ls h hw (lv_sub hl [4, 5, 6, 7, 8, 9, 10, 3, 1, 0] rfl)
        · have h := (it_d h).2 c
          refine lv_iload hx hb dX8_panelOf_79 (lv_at hl 9 rfl) ?_
          refine lv_iload hx hb dX8_panelOf_81 (lv_at hl 0 rfl) ?_
          refine x_mn C mkX8_194 (Nat.le_of_ble_eq_true rfl) hl.1 (Nat.le_of_ble_eq_true rfl) dX8_panelOf_83 ?_
          refine lv_goto (tgt := 91) hx hb dX8_panelOf_86 (by decide) ?_
          refine lv_istore (lv' := [(8, .int (mn x8 r1)), (10, .int r1), (7, .int t0), (0, .ref (ad 0)), (1, .int x1), (2, .int x2), (3, .int x3), (4, .int x4), (5, .int x5), (6, .int x6), (9, .int x9)]) hx hb dX8_panelOf_91 hl (by decide) rfl (fun ls hl => ?_)
          refine lv_iinc (v := (x9 + 1)) (lv' := [(9, .int (x9 + 1)), (8, .int (mn x8 r1)), (10, .int r1), (7, .int t0), (0, .ref (ad 0)), (1, .int x1), (2, .int x2), (3, .int x3), (4, .int x4), (5, .int x5), (6, .int x6)]) hx hb dX8_panelOf_93 hl (k := 10) rfl rfl (by decide) rfl (fun ls hl => ?_)
          refine lv_goto (tgt := 13) hx hb dX8_panelOf_96 (by decide) ?_
          exact ih13 S1 x1 x2 x3 x4 x5 x6 t0 (mn x8 r1) (x9 + 1) _ _ ls h hw (lv_sub hl [4, 5, 6, 7, 8, 9, 10, 3, 1, 0] rfl)
      intro S x1 x2 x3 x4 x5 x6 x7 x8 x9 H locs ls h hw hl
      rw [fX8_panelOf_b13] at h
      refine lv_iload hx hb dX8_panelOf_13 (lv_at hl 9 rfl) ?_
      refine lv_aload_n hx hb dX8_panelOf_15 rfl (lv_at hl 0 rfl) ?_
      refine x_getI C hw gtX8_115 dX8_panelOf_16 ?_
      refine lv_icmp_ge (tgt := 99) hx hb dX8_panelOf_19 (by decide) (fun c => ?_) (fun c => ?_)
      · have h := (it_d h).1 c
        exact B99 S x6 x7 x8 _ _ ls h hw (lv_sub hl [6, 7, 8] rfl)
      · have h := (it_d h).2 c
        refine lv_iload hx hb dX8_panelOf_22 (lv_at hl 5 rfl) ?_
        refine lv_iload hx hb dX8_panelOf_24 (lv_at hl 9 rfl) ?_
        refine lv_ishr hx hb dX8_panelOf_26 ?_
        refine lv_iconst (v := 1) hx hb dX8_panelOf_27 (by decide) ?_
        refine lv_iand hx hb dX8_panelOf_28 ?_
        refine lv_if_ne (tgt := 35) hx hb dX8_panelOf_29 (by decide) (fun c => ?_) (fun c => ?_)
        · have h := (it_d h).2 c
          refine lv_iinc (v := (x6 + 1)) (lv' := [(6, .int (x6 + 1)), (0, .ref (ad 0)), (1, .int x1), (2, .int x2), (3, .int x3), (4, .int x4), (5, .int x5), (7, .int x7), (8, .int x8), (9, .int x9)]) hx hb dX8_panelOf_35 hl (k := 6) rfl rfl (by decide) rfl (fun ls hl => ?_)
          refine lv_iload hx hb dX8_panelOf_38 (lv_at hl 7 rfl) ?_
          refine lv_if_eq (tgt := 58) hx hb dX8_panelOf_40 (by decide) (fun c => ?_) (fun c => ?_)
          · have h := (it_d h).1 c
            refine lv_iconst (v := 0) hx hb dX8_panelOf_58 (by decide) ?_
            exact B59 S x1 x2 x3 x4 x5 (x6 + 1) x8 x9 0 _ _ ls h hw (lv_sub hl [1, 2, 3, 4, 5, 6, 0, 8, 9] rfl)
          · have h := (it_d h).2 c
            refine lv_aload_n hx hb dX8_panelOf_43 rfl (lv_at hl 1 rfl) ?_
            refine x_getR C hw gtX8_9 dX8_panelOf_44 ?_
            refine lv_iload hx hb dX8_panelOf_47 (lv_at hl 9 rfl) ?_
            obtain ⟨v1, hv, h⟩ := bb_some h
            refine x_ald C hw alM_1 hv dX8_panelOf_49 ?_
            refine lv_iconst (v := 1) hx hb dX8_panelOf_50 (by decide) ?_
            refine lv_icmp_ne (tgt := 58) hx hb dX8_panelOf_51 (by decide) (fun c => ?_) (fun c => ?_)
            · have h := (it_d h).2 c
              refine lv_iconst (v := 0) hx hb dX8_panelOf_58 (by decide) ?_
              exact B59 S x1 x2 x3 x4 x5 (x6 + 1) x8 x9 0 _ _ ls h hw (lv_sub hl [1, 2, 3, 4, 5, 6, 0, 8, 9] rfl)
            · have h := (it_d h).1 c
              refine lv_iconst (v := 1) hx hb dX8_panelOf_54 (by decide) ?_
              refine lv_goto (tgt := 59) hx hb dX8_panelOf_55 (by decide) ?_
              exact B59 S x1 x2 x3 x4 x5 (x6 + 1) x8 x9 1 _ _ ls h hw (lv_sub hl [1, 2, 3, 4, 5, 6, 0, 8, 9] rfl)
        · have h := (it_d h).1 c
          refine lv_goto (tgt := 93) hx hb dX8_panelOf_32 (by decide) ?_
          refine lv_iinc (v := (x9 + 1)) (lv' := [(9, .int (x9 + 1)), (0, .ref (ad 0)), (1, .int x1), (2, .int x2), (3, .int x3), (4, .int x4), (5, .int x5), (6, .int x6), (7, .int x7), (8, .int x8)]) hx hb dX8_panelOf_93 hl (k := 9) rfl rfl (by decide) rfl (fun ls hl => ?_)
          refine lv_goto (tgt := 13) hx hb dX8_panelOf_96 (by decide) ?_
          exact ih13 S x1 x2 x3 x4 x5 x6 x7 x8 (x9 + 1) _ _ ls h hw (lv_sub hl [1, 2, 3, 4, 5, 6, 7, 8, 9, 0] rfl)
  unfold fX8_panelOf at h
  refine lv_iconst (v := 0) hx hb dX8_panelOf_0 (by decide) ?_
  refine lv_istore (lv' := [(6, .int 0), (0, .ref (ad 0)), (1, .int x1), (2, .int x2), (3, .int x3), (4, .int x4), (5, .int x5)]) hx hb dX8_panelOf_1 hl (by decide) rfl (fun ls hl => ?_)
  refine lv_iconst (v := 1) hx hb dX8_panelOf_3 (by decide) ?_
  refine lv_istore (lv' := [(7, .int 1), (6, .int 0), (0, .ref (ad 0)), (1, .int x1), (2, .int x2), (3, .int x3), (4, .int x4), (5, .int x5)]) hx hb dX8_panelOf_4 hl (by decide) rfl (fun ls hl => ?_)
  refine lv_bipush (v := 9) hx hb dX8_panelOf_6 (by decide) ?_
  refine lv_istore (lv' := [(8, .int 9), (7, .int 1), (6, .int 0), (0, .ref (ad 0)), (1, .int x1), (2, .int x2), (3, .int x3), (4, .int x4), (5, .int x5)]) hx hb dX8_panelOf_8 hl (by decide) rfl (fun ls hl => ?_)
  refine lv_iconst (v := 0) hx hb dX8_panelOf_10 (by decide) ?_
  refine lv_istore (lv' := [(9, .int 0), (8, .int 9), (7, .int 1), (6, .int 0), (0, .ref (ad 0)), (1, .int x1), (2, .int x2), (3, .int x3), (4, .int x4), (5, .int x5)]) hx hb dX8_panelOf_11 hl (by decide) rfl (fun ls hl => ?_)
  exact B13 N S x1 x2 x3 x4 x5 0 1 9 0 _ _ ls h hw (lv_sub hl [4, 5, 6, 7, 8, 9, 3, 2, 1, 0] rfl)
set_option maxHeartbeats 4000000 in
set_option maxRecDepth 100000 in
theorem mX8_ruleOf {N : Nat} {l : Launch} {D : va_G} {ad : Nat → Nat} {cI cZ : ClassId} {S Sz : SS} {x1 x2 x3 : Int32} {rz : Int32} (h : fX8_ruleOf N S x1 x2 x3 = some (rz, Sz)) : MI l D lyM ad cI cZ yX8_ruleOf cX8_ruleOf 7 (some .int) 0 [.ref (ad 0), .int x1, .int x2, .int x3] S rz Sz := by
  refine x_startI RX8 (by decide) rfl (Nat.le_of_ble_eq_true rfl) ?_
  intro p e s m args below meth c A C hw ls hl
  have hx := C.1
  have hb := C.2.1
  have hown := C.2.2.2.1
  have hts := C.2.2.2.2.1
  have hl : lv_has ls 7 [(0, .ref (ad 0)), (1, .int x1), (2, .int x2), (3, .int x3)] := hl
  have B6 : ∀ n : Nat, ∀ (S : SS) (x1 x2 x3 x4 x5 : Int32) (H : Heap) (locs : List Loc) (ls : Array Slot), fX8_ruleOf_b6 N n S x1 x2 x3 x4 x5 = some (rz, Sz) → WH D A s.heap lyM ad cI cZ S H locs → lv_has ls 7 [(0, .ref (ad 0)), (1, .int x1), (2, .int x2), (3, .int x3), (4, .int x4), (5, .int x5)] → W p l e (rmK 0) s m args below meth c H locs 0 0 (MQ below (Qi D lyM ad cI cZ A rz Sz) args s 0 0 A) (F0 m 6 ls []) := by
    intro n
    induction n with
    | zero =>
      intro S x1 x2 x3 x4 x5 H locs ls h hw hl
      rw [fX8_ruleOf_b6] at h
      cases h
    | succ n6 ih6 =>
      have B47 : ∀ (S : SS) (x1 x2 x3 x4 x5 t0 : Int32) (H : Heap) (locs : List Loc) (ls : Array Slot), fX8_ruleOf_b47 N (fun S x1 x2 x3 x4 x5 => fX8_ruleOf_b6 N n6 S x1 x2 x3 x4 x5) S x1 x2 x3 x4 x5 t0 = some (rz, Sz) → WH D A s.heap lyM ad cI cZ S H locs → lv_has ls 7 [(0, .ref (ad 0)), (1, .int x1), (2, .int x2), (3, .int x3), (4, .int x4), (5, .int x5)] → W p l e (rmK 0) s m args below meth c H locs 0 0 (MQ below (Qi D lyM ad cI cZ A rz Sz) args s 0 0 A) (F0 m 47 ls [.int t0]) := by
        intro S x1 x2 x3 x4 x5 t0 H locs ls h hw hl
        unfold fX8_ruleOf_b47 at h
        refine lv_istore (lv' := [(6, .int t0), (0, .ref (ad 0)), (1, .int x1), (2, .int x2), (3, .int x3), (4, .int x4), (5, .int x5)]) hx hb dX8_ruleOf_47 hl (by decide) rfl (fun ls hl => ?_)
        refine lv_iload hx hb dX8_ruleOf_49 (lv_at hl 0 rfl) ?_
        refine lv_if_eq (tgt := 81) hx hb dX8_ruleOf_51 (by decide) (fun c => ?_) (fun c => ?_)
        · have h := (it_d h).1 c
          refine lv_iload hx hb dX8_ruleOf_81 (lv_at hl 5 rfl) ?_
          refine lv_istore (lv' := [(4, .int x4), (6, .int t0), (0, .ref (ad 0)), (1, .int x1), (2, .int x2), (3, .int x3), (5, .int x5)]) hx hb dX8_ruleOf_83 hl (by decide) rfl (fun ls hl => ?_)
          refine lv_iinc (v := (x5 + 1)) (lv' := [(5, .int (x5 + 1)), (4, .int x4), (6, .int t0), (0, .ref (ad 0)), (1, .int x1), (2, .int x2), (3, .int x3)]) hx hb dX8_ruleOf_85 hl (k := 6) rfl rfl (by decide) rfl (fun ls hl => ?_)
          refine lv_goto (tgt := 6) hx hb dX8_ruleOf_88 (by decide) ?_
          exact ih6 S x1 x2 x3 x4 (x5 + 1) _ _ ls h hw (lv_sub hl [3, 4, 5, 6, 1, 0] rfl)
        · have h := (it_d h).2 c
          refine lv_iload hx hb dX8_ruleOf_54 (lv_at hl 5 rfl) ?_
          refine lv_if_lt (tgt := 76) hx hb dX8_ruleOf_56 (by decide) (fun c => ?_) (fun c => ?_)
          · have h := (it_d h).1 c
            refine lv_iload hx hb dX8_ruleOf_76 (lv_at hl 6 rfl) ?_
            refine lv_goto (tgt := 83) hx hb dX8_ruleOf_78 (by decide) ?_
            refine lv_istore (lv' := [(4, .int x5), (6, .int t0), (0, .ref (ad 0)), (1, .int x1), (2, .int x2), (3, .int x3), (5, .int x5)]) hx hb dX8_ruleOf_83 hl (by decide) rfl (fun ls hl => ?_)
            refine lv_iinc (v := (x5 + 1)) (lv' := [(5, .int (x5 + 1)), (4, .int x5), (6, .int t0), (0, .ref (ad 0)), (1, .int x1), (2, .int x2), (3, .int x3)]) hx hb dX8_ruleOf_85 hl (k := 6) rfl rfl (by decide) rfl (fun ls hl => ?_)
            refine lv_goto (tgt := 6) hx hb dX8_ruleOf_88 (by decide) ?_
            exact ih6 S x1 x2 x3 x5 (x5 + 1) _ _ ls h hw (lv_sub hl [3, 4, 5, 6, 1, 0] rfl)
          · have h := (it_d h).2 c
            refine lv_aload_n hx hb dX8_ruleOf_59 rfl (lv_at hl 1 rfl) ?_
            refine x_getR C hw gtX8_34 dX8_ruleOf_60 ?_
            refine lv_iload hx hb dX8_ruleOf_63 (lv_at hl 6 rfl) ?_
            obtain ⟨v1, hv, h⟩ := bb_some h
            refine x_ald C hw alM_9 hv dX8_ruleOf_65 ?_
            refine lv_aload_n hx hb dX8_ruleOf_66 rfl (lv_at hl 1 rfl) ?_
            refine x_getR C hw gtX8_34 dX8_ruleOf_67 ?_
            refine lv_iload hx hb dX8_ruleOf_70 (lv_at hl 5 rfl) ?_
            obtain ⟨v2, hv, h⟩ := bb_some h
            refine x_ald C hw alM_9 hv dX8_ruleOf_72 ?_
            refine lv_icmp_lt (tgt := 81) hx hb dX8_ruleOf_73 (by decide) (fun c => ?_) (fun c => ?_)
            · have h := (it_d h).1 c
              refine lv_iload hx hb dX8_ruleOf_81 (lv_at hl 5 rfl) ?_
              refine lv_istore (lv' := [(4, .int x4), (6, .int t0), (0, .ref (ad 0)), (1, .int x1), (2, .int x2), (3, .int x3), (5, .int x5)]) hx hb dX8_ruleOf_83 hl (by decide) rfl (fun ls hl => ?_)
              refine lv_iinc (v := (x5 + 1)) (lv' := [(5, .int (x5 + 1)), (4, .int x4), (6, .int t0), (0, .ref (ad 0)), (1, .int x1), (2, .int x2), (3, .int x3)]) hx hb dX8_ruleOf_85 hl (k := 6) rfl rfl (by decide) rfl (fun ls hl => ?_)
              refine lv_goto (tgt := 6) hx hb dX8_ruleOf_88 (by decide) ?_
              exact ih6 S x1 x2 x3 x4 (x5 + 1) _ _ ls h hw (lv_sub hl [3, 4, 5, 6, 1, 0] rfl)
            · have h := (it_d h).2 c
              refine lv_iload hx hb dX8_ruleOf_76 (lv_at hl 6 rfl) ?_
              refine lv_goto (tgt := 83) hx hb dX8_ruleOf_78 (by decide) ?_
              refine lv_istore (lv' := [(4, .int x5), (6, .int t0), (0, .ref (ad 0)), (1, .int x1), (2, .int x2), (3, .int x3), (5, .int x5)]) hx hb dX8_ruleOf_83 hl (by decide) rfl (fun ls hl => ?_)
              refine lv_iinc (v := (x5 + 1)) (lv' := [(5, .int (x5 + 1)), (4, .int x5), (6, .int t0), (0, .ref (ad 0)), (1, .int x1), (2, .int x2), (3, .int x3)]) hx hb dX8_ruleOf_85 hl (k := 6) rfl rfl (by decide) rfl (fun ls hl => ?_)
              refine lv_goto (tgt := 6) hx hb dX8_ruleOf_88 (by decide) ?_
              exact ih6 S x1 x2 x3 x5 (x5 + 1) _ _ ls h hw (lv_sub hl [3, 4, 5, 6, 1, 0] rfl)
      intro S x1 x2 x3 x4 x5 H locs ls h hw hl
      rw [fX8_ruleOf_b6] at h
      refine lv_iload hx hb dX8_ruleOf_6 (lv_at hl 5 rfl) ?_
      refine lv_aload_n hx hb dX8_ruleOf_8 rfl (lv_at hl 0 rfl) ?_
      refine x_getI C hw gtX8_146 dX8_ruleOf_9 ?_
      refine lv_icmp_ge (tgt := 91) hx hb dX8_ruleOf_12 (by decide) (fun c => ?_) (fun c => ?_)
      · have h := (it_d h).1 c
        refine lv_iload hx hb dX8_ruleOf_91 (lv_at hl 4 rfl) ?_
        exact x_iret C hw h dX8_ruleOf_93
      · have h := (it_d h).2 c
        refine lv_aload_n hx hb dX8_ruleOf_15 rfl (lv_at hl 0 rfl) ?_
        refine x_getR C hw gtX8_31 dX8_ruleOf_16 ?_
        refine lv_iload hx hb dX8_ruleOf_19 (lv_at hl 5 rfl) ?_
        obtain ⟨v1, hv, h⟩ := bb_some h
        refine x_ald C hw alM_8 hv dX8_ruleOf_21 ?_
        refine lv_bipush (v := 100) hx hb dX8_ruleOf_22 (by decide) ?_
        refine lv_iload_n hx hb dX8_ruleOf_24 rfl (lv_at hl 1 rfl) ?_
        refine lv_imul hx hb dX8_ruleOf_25 ?_
        refine lv_iload_n hx hb dX8_ruleOf_26 rfl (lv_at hl 2 rfl) ?_
        refine lv_iadd hx hb dX8_ruleOf_27 ?_
        refine lv_icmp_ne (tgt := 46) hx hb dX8_ruleOf_28 (by decide) (fun c => ?_) (fun c => ?_)
        · have h := (it_d h).2 c
          refine lv_iconst (v := 0) hx hb dX8_ruleOf_46 (by decide) ?_
          exact B47 S x1 x2 x3 x4 x5 0 _ _ ls h hw (lv_sub hl [0, 1, 2, 3, 4, 5] rfl)
        · have h := (it_d h).1 c
          refine lv_aload_n hx hb dX8_ruleOf_31 rfl (lv_at hl 0 rfl) ?_
          refine x_getR C hw gtX8_34 dX8_ruleOf_32 ?_
          refine lv_iload hx hb dX8_ruleOf_35 (lv_at hl 5 rfl) ?_
          obtain ⟨v2, hv, h⟩ := bb_some h
          refine x_ald C hw alM_9 hv dX8_ruleOf_37 ?_
          refine lv_iload_n hx hb dX8_ruleOf_38 rfl (lv_at hl 3 rfl) ?_
          refine lv_icmp_gt (tgt := 46) hx hb dX8_ruleOf_39 (by decide) (fun c => ?_) (fun c => ?_)
          · have h := (it_d h).1 c
            refine lv_iconst (v := 0) hx hb dX8_ruleOf_46 (by decide) ?_
            exact B47 S x1 x2 x3 x4 x5 0 _ _ ls h hw (lv_sub hl [0, 1, 2, 3, 4, 5] rfl)
          · have h := (it_d h).2 c
            refine lv_iconst (v := 1) hx hb dX8_ruleOf_42 (by decide) ?_
            refine lv_goto (tgt := 47) hx hb dX8_ruleOf_43 (by decide) ?_
            exact B47 S x1 x2 x3 x4 x5 1 _ _ ls h hw (lv_sub hl [0, 1, 2, 3, 4, 5] rfl)
  unfold fX8_ruleOf at h
  refine lv_iconst (v := (-1)) hx hb dX8_ruleOf_0 (by decide) ?_
  refine lv_istore (lv' := [(4, .int (-1)), (0, .ref (ad 0)), (1, .int x1), (2, .int x2), (3, .int x3)]) hx hb dX8_ruleOf_1 hl (by decide) rfl (fun ls hl => ?_)
  refine lv_iconst (v := 0) hx hb dX8_ruleOf_3 (by decide) ?_
  refine lv_istore (lv' := [(5, .int 0), (4, .int (-1)), (0, .ref (ad 0)), (1, .int x1), (2, .int x2), (3, .int x3)]) hx hb dX8_ruleOf_4 hl (by decide) rfl (fun ls hl => ?_)
  exact B6 N S x1 x2 x3 (-1) 0 _ _ ls h hw (lv_sub hl [2, 3, 4, 5, 1, 0] rfl)
