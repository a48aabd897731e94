set_option maxHeartbeats 4000000 in
set_option maxRecDepth 100000 in
theorem mX1_seat {N : Nat} {l : Launch} {D : va_G} {ad : Nat → Nat} {cI cZ : ClassId} {S Sz : SS} {x2 x3 x4 : Int32} {rz : Int32} (h : fX1_seat N S x2 x3 x4 = some (rz, Sz)) : MI l D lyX ad cI cZ yX1_seat cX1_seat 6 (some .int) 8 [.ref (ad 6), .ref (ad 1), .int x2, .int x3, .int x4] S rz Sz := by
  refine x_startI RX1 (by decide) rfl (Nat.le_of_ble_eq_true rfl) ?_
  intro p e s m args below meth c A C hw ls hl
  have hx := C.1
  have hb := C.2.1
  have hown := C.2.2.2.1
  have hts := C.2.2.2.2.1
  have hl : lv_has ls 6 [(0, .ref (ad 6)), (1, .ref (ad 1)), (2, .int x2), (3, .int x3), (4, .int x4)] := hl
  have B61 : ∀ (S : SS) (x5 : Int32) (H : Heap) (locs : List Loc) (ls : Array Slot), fX1_seat_b61 N S x5 = some (rz, Sz) → WH D A s.heap lyX ad cI cZ S H locs → lv_has ls 6 [(0, .ref (ad 6)), (5, .int x5)] → W p l e (rmK 8) s m args below meth c H locs 0 0 (MQ below (Qi D lyX ad cI cZ A rz Sz) args s 0 0 A) (F0 m 61 ls []) := by
    intro S x5 H locs ls h hw hl
    unfold fX1_seat_b61 at h
    refine lv_iload hx hb dX1_seat_61 (lv_at hl 1 rfl) ?_
    refine lv_if_ne (tgt := 74) hx hb dX1_seat_63 (by decide) (fun c => ?_) (fun c => ?_)
    · have h := (it_d h).2 c
      refine lv_iload hx hb dX1_seat_74 (lv_at hl 1 rfl) ?_
      exact x_iret C hw h dX1_seat_76
    · have h := (it_d h).1 c
      refine lv_aload_n hx hb dX1_seat_66 rfl (lv_at hl 0 rfl) ?_
      refine x_getR C hw gtX1_21 dX1_seat_67 ?_
      refine lv_iconst (v := 0) hx hb dX1_seat_70 (by decide) ?_
      obtain ⟨S1, hv, h⟩ := bb_some h
      refine x_callSV C hw (mJ7_fill_36 hv) lkX1_43 rfl (Nat.le_of_ble_eq_true rfl) hl.1 rfl (Nat.le_of_ble_eq_true rfl) dX1_seat_71 (fun H locs hw => ?_)
      refine lv_iload hx hb dX1_seat_74 (lv_at hl 1 rfl) ?_
      exact x_iret C hw h dX1_seat_76
  have B38 : ∀ n : Nat, ∀ (S : SS) (x4 x5 : Int32) (H : Heap) (locs : List Loc) (ls : Array Slot), fX1_seat_b38 N n S x4 x5 = some (rz, Sz) → WH D A s.heap lyX ad cI cZ S H locs → lv_has ls 6 [(0, .ref (ad 6)), (4, .int x4), (5, .int x5)] → W p l e (rmK 8) s m args below meth c H locs 0 0 (MQ below (Qi D lyX ad cI cZ A rz Sz) args s 0 0 A) (F0 m 38 ls []) := by
    intro n
    induction n with
    | zero =>
      intro S x4 x5 H locs ls h hw hl
      rw [fX1_seat_b38] at h
      cases h
    | succ n ih38 =>
      intro S x4 x5 H locs ls h hw hl
      rw [fX1_seat_b38] at h
      refine lv_iload hx hb dX1_seat_38 (lv_at hl 2 rfl) ?_
      refine lv_if_le (tgt := 61) hx hb dX1_seat_40 (by decide) (fun c => ?_) (fun c => ?_)
      · have h := (it_d h).1 c
        exact B61 S x5 _ _ ls h hw (lv_sub hl [0, 2] rfl)
      · have h := (it_d h).2 c
        refine lv_aload_n hx hb dX1_seat_43 rfl (lv_at hl 0 rfl) ?_
        refine lv_iconst (v := 0) hx hb dX1_seat_44 (by decide) ?_
        refine lv_iload hx hb dX1_seat_45 (lv_at hl 2 rfl) ?_
        refine lv_iload hx hb dX1_seat_47 (lv_at hl 1 rfl) ?_
        obtain ⟨r1, S1, hv, h⟩ := b2_some h
        refine x_callVI C hw (mX1_place hv) lkX1_39 rfl (Nat.le_of_ble_eq_true rfl) hl.1 rfl (Nat.le_of_ble_eq_true rfl) dX1_seat_49 (fun H locs hw => ?_)
        refine lv_if_ne (tgt := 61) hx hb dX1_seat_52 (by decide) (fun c => ?_) (fun c => ?_)
        · have h := (it_d h).2 c
          exact B61 S1 x5 _ _ ls h hw (lv_sub hl [0, 2] rfl)
        · have h := (it_d h).1 c
          refine lv_iinc (v := (x5 + (-1))) (lv' := [(5, .int (x5 + (-1))), (0, .ref (ad 6)), (4, .int x4)]) hx hb dX1_seat_55 hl (k := 2) rfl rfl (by decide) rfl (fun ls hl => ?_)
          refine lv_goto (tgt := 38) hx hb dX1_seat_58 (by decide) ?_
          exact ih38 S1 x4 (x5 + (-1)) _ _ ls h hw (lv_sub hl [1, 2, 0] rfl)
  have B27 : ∀ (S : SS) (x4 : Int32) (H : Heap) (locs : List Loc) (ls : Array Slot), fX1_seat_b27 N S x4 = some (rz, Sz) → WH D A s.heap lyX ad cI cZ S H locs → lv_has ls 6 [(0, .ref (ad 6)), (4, .int x4)] → W p l e (rmK 8) s m args below meth c H locs 0 0 (MQ below (Qi D lyX ad cI cZ A rz Sz) args s 0 0 A) (F0 m 27 ls []) := by
    intro S x4 H locs ls h hw hl
    unfold fX1_seat_b27 at h
    refine lv_aload_n hx hb dX1_seat_27 rfl (lv_at hl 0 rfl) ?_
    refine lv_iconst (v := 1) hx hb dX1_seat_28 (by decide) ?_
    obtain ⟨S1, hv, h⟩ := bb_some h
    refine x_putO C hw gpX1_31 hv (by decide) (by decide) dX1_seat_29 (fun H locs hw => ?_)
    refine lv_aload_n hx hb dX1_seat_32 rfl (lv_at hl 0 rfl) ?_
    refine x_getI C hw gtX1_27 dX1_seat_33 ?_
    refine lv_istore (lv' := [(5, .int (S1.1 6)), (0, .ref (ad 6)), (4, .int x4)]) hx hb dX1_seat_36 hl (by decide) rfl (fun ls hl => ?_)
    exact B38 N S1 x4 (S1.1 6) _ _ ls h hw (lv_sub hl [1, 2, 0] rfl)
  have B3 : ∀ n : Nat, ∀ (S : SS) (x2 x3 x4 x5 : Int32) (H : Heap) (locs : List Loc) (ls : Array Slot), fX1_seat_b3 N n S x2 x3 x4 x5 = some (rz, Sz) → WH D A s.heap lyX ad cI cZ S H locs → lv_has ls 6 [(0, .ref (ad 6)), (1, .ref (ad 1)), (2, .int x2), (3, .int x3), (4, .int x4), (5, .int x5)] → W p l e (rmK 8) s m args below meth c H locs 0 0 (MQ below (Qi D lyX ad cI cZ A rz Sz) args s 0 0 A) (F0 m 3 ls []) := by
    intro n
    induction n with
    | zero =>
      intro S x2 x3 x4 x5 H locs ls h hw hl
      rw [fX1_seat_b3] at h
      cases h
    | succ n ih3 =>
      intro S x2 x3 x4 x5 H locs ls h hw hl
      rw [fX1_seat_b3] at h
      refine lv_iload hx hb dX1_seat_3 (lv_at hl 5 rfl) ?_
      refine lv_aload_n hx hb dX1_seat_5 rfl (lv_at hl 0 rfl) ?_
      refine x_getI C hw gtX1_27 dX1_seat_6 ?_
      refine lv_icmp_ge (tgt := 27) hx hb dX1_seat_9 (by decide) (fun c => ?_) (fun c => ?_)
      · have h := (it_d h).1 c
        exact B27 S x4 _ _ ls h hw (lv_sub hl [0, 4] rfl)
      · have h := (it_d h).2 c
        refine lv_aload_n hx hb dX1_seat_12 rfl (lv_at hl 0 rfl) ?_
        refine lv_aload_n hx hb dX1_seat_13 rfl (lv_at hl 1 rfl) ?_
        refine lv_iload hx hb dX1_seat_14 (lv_at hl 5 rfl) ?_
        refine lv_iload_n hx hb dX1_seat_16 rfl (lv_at hl 2 rfl) ?_
        refine lv_iload_n hx hb dX1_seat_17 rfl (lv_at hl 3 rfl) ?_
        obtain ⟨S1, hv, h⟩ := bb_some h
        refine x_callVV C hw (mX1_listOptions hv) lkX1_35 rfl (Nat.le_of_ble_eq_true rfl) hl.1 rfl (Nat.le_of_ble_eq_true rfl) dX1_seat_18 (fun H locs hw => ?_)
        refine lv_iinc (v := (x5 + 1)) (lv' := [(5, .int (x5 + 1)), (0, .ref (ad 6)), (1, .ref (ad 1)), (2, .int x2), (3, .int x3), (4, .int x4)]) hx hb dX1_seat_21 hl (k := 5) rfl rfl (by decide) rfl (fun ls hl => ?_)
        refine lv_goto (tgt := 3) hx hb dX1_seat_24 (by decide) ?_
        exact ih3 S1 x2 x3 x4 (x5 + 1) _ _ ls h hw (lv_sub hl [1, 2, 3, 4, 5, 0] rfl)
  unfold fX1_seat at h
  refine lv_iconst (v := 0) hx hb dX1_seat_0 (by decide) ?_
  refine lv_istore (lv' := [(5, .int 0), (0, .ref (ad 6)), (1, .ref (ad 1)), (2, .int x2), (3, .int x3), (4, .int x4)]) hx hb dX1_seat_1 hl (by decide) rfl (fun ls hl => ?_)
  exact B3 N S x2 x3 x4 0 _ _ ls h hw (lv_sub hl [1, 2, 3, 4, 5, 0] rfl)
set_option maxHeartbeats 4000000 in
set_option maxRecDepth 100000 in
theorem mX2_add {N : Nat} {l : Launch} {D : va_G} {ad : Nat → Nat} {cI cZ : ClassId} {S Sz : SS} {x1 x2 x3 x4 x5 : Int32} {rz : Int32} (h : fX2_add N S x1 x2 x3 x4 x5 = some (rz, Sz)) : MI l D lyX ad cI cZ yX2_add cX2_add 7 (some .int) 0 [.ref (ad 4), .int x1, .int x2, .int x3, .int x4, .int x5] S rz Sz := by
  refine x_startI RX2 (by decide) rfl (Nat.le_of_ble_eq_true rfl) ?_
  intro p e s m args below meth c A C hw ls hl
  have hx := C.1
  have hb := C.2.1
  have hown := C.2.2.2.1
  have hts := C.2.2.2.2.1
  have hl : lv_has ls 7 [(0, .ref (ad 4)), (1, .int x1), (2, .int x2), (3, .int x3), (4, .int x4), (5, .int x5)] := hl
  unfold fX2_add at h
  refine lv_aload_n hx hb dX2_add_0 rfl (lv_at hl 0 rfl) ?_
  refine x_getI C hw gtX2_47 dX2_add_1 ?_
  refine lv_istore (lv' := [(6, .int (S.1 4)), (0, .ref (ad 4)), (1, .int x1), (2, .int x2), (3, .int x3), (4, .int x4), (5, .int x5)]) hx hb dX2_add_4 hl (by decide) rfl (fun ls hl => ?_)
  refine lv_aload_n hx hb dX2_add_6 rfl (lv_at hl 1 rfl) ?_
  refine x_getR C hw gtX2_25 dX2_add_7 ?_
  refine lv_iload hx hb dX2_add_10 (lv_at hl 0 rfl) ?_
  refine lv_iload_n hx hb dX2_add_12 rfl (lv_at hl 2 rfl) ?_
  obtain ⟨S1, hv, h⟩ := bb_some h
  refine x_ast C hw alX_23 hv dX2_add_13 (fun H locs hw => ?_)
  refine lv_aload_n hx hb dX2_add_14 rfl (lv_at hl 1 rfl) ?_
  refine x_getR C hw gtX2_28 dX2_add_15 ?_
  refine lv_iload hx hb dX2_add_18 (lv_at hl 0 rfl) ?_
  refine lv_iload_n hx hb dX2_add_20 rfl (lv_at hl 3 rfl) ?_
  obtain ⟨S2, hv, h⟩ := bb_some h
  refine x_ast C hw alX_24 hv dX2_add_21 (fun H locs hw => ?_)
  refine lv_aload_n hx hb dX2_add_22 rfl (lv_at hl 1 rfl) ?_
  refine x_getR C hw gtX2_31 dX2_add_23 ?_
  refine lv_iload hx hb dX2_add_26 (lv_at hl 0 rfl) ?_
  refine lv_iload_n hx hb dX2_add_28 rfl (lv_at hl 4 rfl) ?_
  obtain ⟨S3, hv, h⟩ := bb_some h
  refine x_ast C hw alX_25 hv dX2_add_29 (fun H locs hw => ?_)
  refine lv_aload_n hx hb dX2_add_30 rfl (lv_at hl 1 rfl) ?_
  refine x_getR C hw gtX2_34 dX2_add_31 ?_
  refine lv_iload hx hb dX2_add_34 (lv_at hl 0 rfl) ?_
  refine lv_iload hx hb dX2_add_36 (lv_at hl 5 rfl) ?_
  obtain ⟨S4, hv, h⟩ := bb_some h
  refine x_ast C hw alX_26 hv dX2_add_38 (fun H locs hw => ?_)
  refine lv_aload_n hx hb dX2_add_39 rfl (lv_at hl 1 rfl) ?_
  refine x_getR C hw gtX2_37 dX2_add_40 ?_
  refine lv_iload hx hb dX2_add_43 (lv_at hl 0 rfl) ?_
  refine lv_iload hx hb dX2_add_45 (lv_at hl 6 rfl) ?_
  obtain ⟨S5, hv, h⟩ := bb_some h
  refine x_ast C hw alX_27 hv dX2_add_47 (fun H locs hw => ?_)
  refine lv_aload_n hx hb dX2_add_48 rfl (lv_at hl 1 rfl) ?_
  refine lv_dup hx hb dX2_add_49 rfl ?_
  refine x_getI C hw gtX2_47 dX2_add_50 ?_
  refine lv_iconst (v := 1) hx hb dX2_add_53 (by decide) ?_
  refine lv_iadd hx hb dX2_add_54 ?_
  obtain ⟨S6, hv, h⟩ := bb_some h
  refine x_putO C hw gpX2_47 hv rfl rfl dX2_add_55 (fun H locs hw => ?_)
  refine lv_iload hx hb dX2_add_58 (lv_at hl 0 rfl) ?_
  exact x_iret C hw h dX2_add_60
set_option maxHeartbeats 4000000 in
set_option maxRecDepth 100000 in
theorem mX2_falls {N : Nat} {l : Launch} {D : va_G} {ad : Nat → Nat} {cI cZ : ClassId} {S Sz : SS} {x1 x2 : Int32} {rz : Int32} (h : fX2_falls N S x1 x2 = some (rz, Sz)) : MI l D lyX ad cI cZ yX2_falls cX2_falls 3 (some .boolean) 1 [.ref (ad 4), .int x1, .int x2] S rz Sz := by
  refine x_startI RX2 (by decide) rfl (Nat.le_of_ble_eq_true rfl) ?_
  intro p e s m args below meth c A C hw ls hl
  have hx := C.1
  have hb := C.2.1
  have hown := C.2.2.2.1
  have hts := C.2.2.2.2.1
  have hl : lv_has ls 3 [(0, .ref (ad 4)), (1, .int x1), (2, .int x2)] := hl
  unfold fX2_falls at h
  refine lv_aload_n hx hb dX2_falls_0 rfl (lv_at hl 0 rfl) ?_
  refine x_getR C hw gtX2_18 dX2_falls_1 ?_
  refine lv_aload_n hx hb dX2_falls_4 rfl (lv_at hl 0 rfl) ?_
  refine x_getR C hw gtX2_28 dX2_falls_5 ?_
  refine lv_iload_n hx hb dX2_falls_8 rfl (lv_at hl 1 rfl) ?_
  obtain ⟨v1, hv, h⟩ := bb_some h
  refine x_ald C hw alX_24 hv dX2_falls_9 ?_
  obtain ⟨v2, hv, h⟩ := bb_some h
  refine x_ald C hw alX_21 hv dX2_falls_10 ?_
  refine lv_iconst (v := 1) hx hb dX2_falls_11 (by decide) ?_
  refine lv_icmp_ne (tgt := 42) hx hb dX2_falls_12 (by decide) (fun c => ?_) (fun c => ?_)
  · have h := (it_d h).2 c
    refine lv_iconst (v := 0) hx hb dX2_falls_42 (by decide) ?_
    exact x_zret C hw h dX2_falls_43
  · have h := (it_d h).1 c
    refine lv_aload_n hx hb dX2_falls_15 rfl (lv_at hl 0 rfl) ?_
    refine x_getR C hw gtX2_12 dX2_falls_16 ?_
    refine lv_aload_n hx hb dX2_falls_19 rfl (lv_at hl 0 rfl) ?_
    refine x_getR C hw gtX2_37 dX2_falls_20 ?_
    refine lv_iload_n hx hb dX2_falls_23 rfl (lv_at hl 1 rfl) ?_
    obtain ⟨v3, hv, h⟩ := bb_some h
    refine x_ald C hw alX_27 hv dX2_falls_24 ?_
    refine lv_aload_n hx hb dX2_falls_25 rfl (lv_at hl 0 rfl) ?_
    refine x_getR C hw gtX2_34 dX2_falls_26 ?_
    refine lv_iload_n hx hb dX2_falls_29 rfl (lv_at hl 1 rfl) ?_
    obtain ⟨v4, hv, h⟩ := bb_some h
    refine x_ald C hw alX_26 hv dX2_falls_30 ?_
    refine lv_iload_n hx hb dX2_falls_31 rfl (lv_at hl 2 rfl) ?_
    obtain ⟨r1, S1, hv, h⟩ := b2_some h
    refine x_callVI C hw (mX6_hit hv) lkX2_65 rfl (Nat.le_of_ble_eq_true rfl) hl.1 rfl (Nat.le_of_ble_eq_true rfl) dX2_falls_32 (fun H locs hw => ?_)
    refine lv_if_eq (tgt := 42) hx hb dX2_falls_35 (by decide) (fun c => ?_) (fun c => ?_)
    · have h := (it_d h).1 c
      refine lv_iconst (v := 0) hx hb dX2_falls_42 (by decide) ?_
      exact x_zret C hw h dX2_falls_43
    · have h := (it_d h).2 c
      refine lv_iconst (v := 1) hx hb dX2_falls_38 (by decide) ?_
      refine lv_goto (tgt := 43) hx hb dX2_falls_39 (by decide) ?_
      exact x_zret C hw h dX2_falls_43
set_option maxHeartbeats 4000000 in
set_option maxRecDepth 100000 in
theorem mX2_holds {N : Nat} {l : Launch} {D : va_G} {ad : Nat → Nat} {cI cZ : ClassId} {S Sz : SS} {x1 : Int32} {rz : Int32} (h : fX2_holds N S x1 = some (rz, Sz)) : MI l D lyX ad cI cZ yX2_holds cX2_holds 2 (some .boolean) 0 [.ref (ad 4), .int x1] S rz Sz := by
  refine x_startI RX2 (by decide) rfl (Nat.le_of_ble_eq_true rfl) ?_
  intro p e s m args below meth c A C hw ls hl
  have hx := C.1
  have hb := C.2.1
  have hown := C.2.2.2.1
  have hts := C.2.2.2.2.1
  have hl : lv_has ls 2 [(0, .ref (ad 4)), (1, .int x1)] := hl
  unfold fX2_holds at h
  refine lv_iload_n hx hb dX2_holds_0 rfl (lv_at hl 1 rfl) ?_
  refine lv_if_lt (tgt := 16) hx hb dX2_holds_1 (by decide) (fun c => ?_) (fun c => ?_)
  · have h := (it_d h).1 c
    refine lv_iconst (v := 0) hx hb dX2_holds_16 (by decide) ?_
    exact x_zret C hw h dX2_holds_17
  · have h := (it_d h).2 c
    refine lv_iload_n hx hb dX2_holds_4 rfl (lv_at hl 1 rfl) ?_
    refine lv_aload_n hx hb dX2_holds_5 rfl (lv_at hl 0 rfl) ?_
    refine x_getI C hw gtX2_47 dX2_holds_6 ?_
    refine lv_icmp_ge (tgt := 16) hx hb dX2_holds_9 (by decide) (fun c => ?_) (fun c => ?_)
    · have h := (it_d h).1 c
      refine lv_iconst (v := 0) hx hb dX2_holds_16 (by decide) ?_
      exact x_zret C hw h dX2_holds_17
    · have h := (it_d h).2 c
      refine lv_iconst (v := 1) hx hb dX2_holds_12 (by decide) ?_
      refine lv_goto (tgt := 17) hx hb dX2_holds_13 (by decide) ?_
      exact x_zret C hw h dX2_holds_17
set_option maxHeartbeats 4000000 in
set_option maxRecDepth 100000 in
theorem mJ7_fill_29 {N : Nat} {l : Launch} {D : va_G} {ad : Nat → Nat} {cI cZ : ClassId} {S Sz : SS} {x1 : Int32} (h : fJ7_fill_29 N S x1 = some Sz) : MV l D lyX ad cI cZ yJ7_fill_53178 cJ7_fill_53178 4 0 [.ref (ad 29), .int x1] S Sz := by
  refine x_startV RJ7 (by decide) rfl (Nat.le_of_ble_eq_true rfl) ?_
  intro p e s m args below meth c A C hw ls hl
  have hx := C.1
  have hb := C.2.1
  have hown := C.2.2.2.1
  have hts := C.2.2.2.2.1
  have hl : lv_has ls 4 [(0, .ref (ad 29)), (1, .int x1)] := hl
  have B5 : ∀ n : Nat, ∀ (S : SS) (x1 x2 x3 : Int32) (H : Heap) (locs : List Loc) (ls : Array Slot), fJ7_fill_29_b5 N n S x1 x2 x3 = some Sz → WH D A s.heap lyX ad cI cZ S H locs → lv_has ls 4 [(0, .ref (ad 29)), (1, .int x1), (2, .int x2), (3, .int x3)] → W p l e (rmK 0) s m args below meth c H locs 0 0 (MQ below (Qv D lyX ad cI cZ A Sz) args s 0 0 A) (F0 m 5 ls []) := by
    intro n
    induction n with
    | zero =>
      intro S x1 x2 x3 H locs ls h hw hl
      rw [fJ7_fill_29_b5] at h
      cases h
    | succ n ih5 =>
      intro S x1 x2 x3 H locs ls h hw hl
      rw [fJ7_fill_29_b5] at h
      refine lv_iload_n hx hb dJ7_fill_53178_5 rfl (lv_at hl 2 rfl) ?_
      refine lv_iload_n hx hb dJ7_fill_53178_6 rfl (lv_at hl 3 rfl) ?_
      refine lv_icmp_ge (tgt := 20) hx hb dJ7_fill_53178_7 (by decide) (fun c => ?_) (fun c => ?_)
      · have h := (it_d h).1 c
        exact x_vret C hw h dJ7_fill_53178_20
      · have h := (it_d h).2 c
        refine lv_aload_n hx hb dJ7_fill_53178_10 rfl (lv_at hl 0 rfl) ?_
        refine lv_iload_n hx hb dJ7_fill_53178_11 rfl (lv_at hl 2 rfl) ?_
        refine lv_iload_n hx hb dJ7_fill_53178_12 rfl (lv_at hl 1 rfl) ?_
        obtain ⟨S1, hv, h⟩ := bb_some h
        refine x_ast C hw alX_29 hv dJ7_fill_53178_13 (fun H locs hw => ?_)
        refine lv_iinc (v := (x2 + 1)) (lv' := [(2, .int (x2 + 1)), (0, .ref (ad 29)), (1, .int x1), (3, .int x3)]) hx hb dJ7_fill_53178_14 hl (k := 2) rfl rfl (by decide) rfl (fun ls hl => ?_)
        refine lv_goto (tgt := 5) hx hb dJ7_fill_53178_17 (by decide) ?_
        exact ih5 S1 x1 (x2 + 1) x3 _ _ ls h hw (lv_sub hl [1, 2, 0, 3] rfl)
  unfold fJ7_fill_29 at h
  refine lv_iconst (v := 0) hx hb dJ7_fill_53178_0 (by decide) ?_
  refine lv_istore_n (lv' := [(2, .int 0), (0, .ref (ad 29)), (1, .int x1)]) hx hb dJ7_fill_53178_1 rfl hl (by decide) rfl (fun ls hl => ?_)
  refine lv_aload_n hx hb dJ7_fill_53178_2 rfl (lv_at hl 1 rfl) ?_
  refine x_alen (v := 60) C hw alX_29 (by decide) dJ7_fill_53178_3 ?_
  refine lv_istore_n (lv' := [(3, .int 60), (2, .int 0), (0, .ref (ad 29)), (1, .int x1)]) hx hb dJ7_fill_53178_4 rfl hl (by decide) rfl (fun ls hl => ?_)
  exact B5 N S x1 0 60 _ _ ls h hw (lv_sub hl [2, 3, 1, 0] rfl)
set_option maxHeartbeats 4000000 in
set_option maxRecDepth 100000 in
theorem mX2_raise {N : Nat} {l : Launch} {D : va_G} {ad : Nat → Nat} {cI cZ : ClassId} {S Sz : SS} {x1 : Int32} (h : fX2_raise N S x1 = some Sz) : MV l D lyX ad cI cZ yX2_raise cX2_raise 4 1 [.ref (ad 4), .int x1] S Sz := by
  refine x_startV RX2 (by decide) rfl (Nat.le_of_ble_eq_true rfl) ?_
  intro p e s m args below meth c A C hw ls hl
  have hx := C.1
  have hb := C.2.1
  have hown := C.2.2.2.1
  have hts := C.2.2.2.2.1
  have hl : lv_has ls 4 [(0, .ref (ad 4)), (1, .int x1)] := hl
  have B2 : ∀ n : Nat, ∀ (S : SS) (x1 x2 : Int32) (H : Heap) (locs : List Loc) (ls : Array Slot), fX2_raise_b2 N n S x1 x2 = some Sz → WH D A s.heap lyX ad cI cZ S H locs → lv_has ls 4 [(0, .ref (ad 4)), (1, .int x1), (2, .int x2)] → W p l e (rmK 1) s m args below meth c H locs 0 0 (MQ below (Qv D lyX ad cI cZ A Sz) args s 0 0 A) (F0 m 2 ls []) := by
    intro n
    induction n with
    | zero =>
      intro S x1 x2 H locs ls h hw hl
      rw [fX2_raise_b2] at h
      cases h
    | succ n ih2 =>
      intro S x1 x2 H locs ls h hw hl
      rw [fX2_raise_b2] at h
      refine lv_iload_n hx hb dX2_raise_2 rfl (lv_at hl 2 rfl) ?_
      refine lv_iconst (v := 3) hx hb dX2_raise_3 (by decide) ?_
      refine lv_icmp_ge (tgt := 56) hx hb dX2_raise_4 (by decide) (fun c => ?_) (fun c => ?_)
      · have h := (it_d h).1 c
        exact x_vret C hw h dX2_raise_56
      · have h := (it_d h).2 c
        refine lv_aload_n hx hb dX2_raise_7 rfl (lv_at hl 0 rfl) ?_
        refine x_getR C hw gtX2_25 dX2_raise_8 ?_
        refine lv_iload_n hx hb dX2_raise_11 rfl (lv_at hl 1 rfl) ?_
        obtain ⟨v1, hv, h⟩ := bb_some h
        refine x_ald C hw alX_23 hv dX2_raise_12 ?_
        refine lv_iconst (v := 3) hx hb dX2_raise_13 (by decide) ?_
        refine lv_imul hx hb dX2_raise_14 ?_
        refine lv_iload_n hx hb dX2_raise_15 rfl (lv_at hl 2 rfl) ?_
        refine lv_iadd hx hb dX2_raise_16 ?_
        refine lv_istore_n (lv' := [(3, .int ((v1 * 3) + x2)), (0, .ref (ad 4)), (1, .int x1), (2, .int x2)]) hx hb dX2_raise_17 rfl hl (by decide) rfl (fun ls hl => ?_)
        refine lv_aload_n hx hb dX2_raise_18 rfl (lv_at hl 1 rfl) ?_
        refine x_getR C hw gtX2_44 dX2_raise_19 ?_
        refine lv_iload_n hx hb dX2_raise_22 rfl (lv_at hl 0 rfl) ?_
        refine lv_aload_n hx hb dX2_raise_23 rfl (lv_at hl 1 rfl) ?_
        refine x_getR C hw gtX2_44 dX2_raise_24 ?_
        refine lv_iload_n hx hb dX2_raise_27 rfl (lv_at hl 0 rfl) ?_
        obtain ⟨v2, hv, h⟩ := bb_some h
        refine x_ald C hw alX_29 hv dX2_raise_28 ?_
        refine lv_aload_n hx hb dX2_raise_29 rfl (lv_at hl 1 rfl) ?_
        refine lv_iload_n hx hb dX2_raise_30 rfl (lv_at hl 3 rfl) ?_
        refine lv_aload_n hx hb dX2_raise_31 rfl (lv_at hl 1 rfl) ?_
        refine x_getR C hw gtX2_28 dX2_raise_32 ?_
        refine lv_iload_n hx hb dX2_raise_35 rfl (lv_at hl 2 rfl) ?_
        obtain ⟨v3, hv, h⟩ := bb_some h
        refine x_ald C hw alX_24 hv dX2_raise_36 ?_
        refine lv_aload_n hx hb dX2_raise_37 rfl (lv_at hl 1 rfl) ?_
        refine x_getR C hw gtX2_31 dX2_raise_38 ?_
        refine lv_iload_n hx hb dX2_raise_41 rfl (lv_at hl 2 rfl) ?_
        obtain ⟨v4, hv, h⟩ := bb_some h
        refine x_ald C hw alX_25 hv dX2_raise_42 ?_
        obtain ⟨r1, S1, hv, h⟩ := b2_some h
        refine x_callVI C hw (mX2_value hv) lkX2_69 rfl (Nat.le_of_ble_eq_true rfl) hl.1 rfl (Nat.le_of_ble_eq_true rfl) dX2_raise_43 (fun H locs hw => ?_)
        refine x_mx C mkX2_73 (Nat.le_of_ble_eq_true rfl) hl.1 (Nat.le_of_ble_eq_true rfl) dX2_raise_46 ?_
        obtain ⟨S2, hv, h⟩ := bb_some h
        refine x_ast C hw alX_29 hv dX2_raise_49 (fun H locs hw => ?_)
        refine lv_iinc (v := (x2 + 1)) (lv' := [(2, .int (x2 + 1)), (3, .int ((v1 * 3) + x2)), (0, .ref (ad 4)), (1, .int x1)]) hx hb dX2_raise_50 hl (k := 3) rfl rfl (by decide) rfl (fun ls hl => ?_)
        refine lv_goto (tgt := 2) hx hb dX2_raise_53 (by decide) ?_
        exact ih2 S2 x1 (x2 + 1) _ _ ls h hw (lv_sub hl [2, 3, 0] rfl)
  unfold fX2_raise at h
  refine lv_iconst (v := 0) hx hb dX2_raise_0 (by decide) ?_
  refine lv_istore_n (lv' := [(2, .int 0), (0, .ref (ad 4)), (1, .int x1)]) hx hb dX2_raise_1 rfl hl (by decide) rfl (fun ls hl => ?_)
  exact B2 N S x1 0 _ _ ls h hw (lv_sub hl [1, 2, 0] rfl)
set_option maxHeartbeats 4000000 in
set_option maxRecDepth 100000 in
theorem mX2_know {N : Nat} {l : Launch} {D : va_G} {ad : Nat → Nat} {cI cZ : ClassId} {S Sz : SS} {x1 : Int32} (h : fX2_know N S x1 = some Sz) : MV l D lyX ad cI cZ yX2_know cX2_know 4 2 [.ref (ad 4), .int x1] S Sz := by
  refine x_startV RX2 (by decide) rfl (Nat.le_of_ble_eq_true rfl) ?_
  intro p e s m args below meth c A C hw ls hl
  have hx := C.1
  have hb := C.2.1
  have hown := C.2.2.2.1
  have hts := C.2.2.2.2.1
  have hl : lv_has ls 4 [(0, .ref (ad 4)), (1, .int x1)] := hl
  have B10 : ∀ n : Nat, ∀ (S : SS) (x1 x2 : Int32) (H : Heap) (locs : List Loc) (ls : Array Slot), fX2_know_b10 N n S x1 x2 = some Sz → WH D A s.heap lyX ad cI cZ S H locs → lv_has ls 4 [(0, .ref (ad 4)), (1, .int x1), (2, .int x2)] → W p l e (rmK 2) s m args below meth c H locs 0 0 (MQ below (Qv D lyX ad cI cZ A Sz) args s 0 0 A) (F0 m 10 ls []) := by
    intro n
    induction n with
    | zero =>
      intro S x1 x2 H locs ls h hw hl
      rw [fX2_know_b10] at h
      cases h
    | succ n10 ih10 =>
      have B70 : ∀ (S : SS) (x1 x2 t1 t2 : Int32) (H : Heap) (locs : List Loc) (ls : Array Slot), fX2_know_b70 N (fun S x1 x2 => fX2_know_b10 N n10 S x1 x2) S x1 x2 t1 t2 = some Sz → WH D A s.heap lyX ad cI cZ S H locs → lv_has ls 4 [(0, .ref (ad 4)), (1, .int x1), (2, .int x2)] → W p l e (rmK 2) s m args below meth c H locs 0 0 (MQ below (Qv D lyX ad cI cZ A Sz) args s 0 0 A) (F0 m 70 ls [.int t2, .int t1, .ref (ad 28)]) := by
        intro S x1 x2 t1 t2 H locs ls h hw hl
        unfold fX2_know_b70 at h
        obtain ⟨S1, hv, h⟩ := bb_some h
        refine x_zast C hw alX_28 hv dX2_know_70 (fun H locs hw => ?_)
        refine lv_aload_n hx hb dX2_know_71 rfl (lv_at hl 0 rfl) ?_
        refine x_getR C hw gtX2_40 dX2_know_72 ?_
        refine lv_iload_n hx hb dX2_know_75 rfl (lv_at hl 2 rfl) ?_
        obtain ⟨v1, hv, h⟩ := bb_some h
        refine x_zald C hw alX_28 hv dX2_know_76 ?_
        refine lv_if_eq (tgt := 85) hx hb dX2_know_77 (by decide) (fun c => ?_) (fun c => ?_)
        · have h := (it_d h).1 c
          refine lv_iinc (v := (x2 + 1)) (lv' := [(2, .int (x2 + 1)), (0, .ref (ad 4)), (1, .int x1)]) hx hb dX2_know_85 hl (k := 2) rfl rfl (by decide) rfl (fun ls hl => ?_)
          refine lv_goto (tgt := 10) hx hb dX2_know_88 (by decide) ?_
          exact ih10 S1 x1 (x2 + 1) _ _ ls h hw (lv_sub hl [1, 2, 0] rfl)
        · have h := (it_d h).2 c
          refine lv_aload_n hx hb dX2_know_80 rfl (lv_at hl 0 rfl) ?_
          refine lv_iload_n hx hb dX2_know_81 rfl (lv_at hl 2 rfl) ?_
          obtain ⟨S2, hv, h⟩ := bb_some h
          refine x_callVV C hw (mX2_raise hv) lkX2_61 rfl (Nat.le_of_ble_eq_true rfl) hl.1 rfl (Nat.le_of_ble_eq_true rfl) dX2_know_82 (fun H locs hw => ?_)
          refine lv_iinc (v := (x2 + 1)) (lv' := [(2, .int (x2 + 1)), (0, .ref (ad 4)), (1, .int x1)]) hx hb dX2_know_85 hl (k := 2) rfl rfl (by decide) rfl (fun ls hl => ?_)
          refine lv_goto (tgt := 10) hx hb dX2_know_88 (by decide) ?_
          exact ih10 S2 x1 (x2 + 1) _ _ ls h hw (lv_sub hl [1, 2, 0] rfl)
      intro S x1 x2 H locs ls h hw hl
      rw [fX2_know_b10] at h
      refine lv_iload_n hx hb dX2_know_10 rfl (lv_at hl 2 rfl) ?_
      refine lv_aload_n hx hb dX2_know_11 rfl (lv_at hl 0 rfl) ?_
      refine x_getI C hw gtX2_47 dX2_know_12 ?_
      refine lv_icmp_ge (tgt := 91) hx hb dX2_know_15 (by decide) (fun c => ?_) (fun c => ?_)
      · have h := (it_d h).1 c
        exact x_vret C hw h dX2_know_91
      · have h := (it_d h).2 c
        refine lv_aload_n hx hb dX2_know_18 rfl (lv_at hl 0 rfl) ?_
        refine x_getR C hw gtX2_44 dX2_know_19 ?_
        refine lv_aload_n hx hb dX2_know_22 rfl (lv_at hl 0 rfl) ?_
        refine x_getR C hw gtX2_25 dX2_know_23 ?_
        refine lv_iload_n hx hb dX2_know_26 rfl (lv_at hl 2 rfl) ?_
        obtain ⟨v1, hv, h⟩ := bb_some h
        refine x_ald C hw alX_23 hv dX2_know_27 ?_
        refine lv_iconst (v := 3) hx hb dX2_know_28 (by decide) ?_
        refine lv_imul hx hb dX2_know_29 ?_
        refine lv_aload_n hx hb dX2_know_30 rfl (lv_at hl 0 rfl) ?_
        refine x_getR C hw gtX2_28 dX2_know_31 ?_
        refine lv_iload_n hx hb dX2_know_34 rfl (lv_at hl 2 rfl) ?_
        obtain ⟨v2, hv, h⟩ := bb_some h
        refine x_ald C hw alX_24 hv dX2_know_35 ?_
        refine lv_iadd hx hb dX2_know_36 ?_
        obtain ⟨v3, hv, h⟩ := bb_some h
        refine x_ald C hw alX_29 hv dX2_know_37 ?_
        refine lv_istore_n (lv' := [(3, .int v3), (0, .ref (ad 4)), (1, .int x1), (2, .int x2)]) hx hb dX2_know_38 rfl hl (by decide) rfl (fun ls hl => ?_)
        refine lv_aload_n hx hb dX2_know_39 rfl (lv_at hl 1 rfl) ?_
        refine x_getR C hw gtX2_40 dX2_know_40 ?_
        refine lv_iload_n hx hb dX2_know_43 rfl (lv_at hl 3 rfl) ?_
        refine lv_iload_n hx hb dX2_know_44 rfl (lv_at hl 0 rfl) ?_
        refine lv_aload_n hx hb dX2_know_45 rfl (lv_at hl 1 rfl) ?_
        refine x_getR C hw gtX2_31 dX2_know_46 ?_
        refine lv_iload_n hx hb dX2_know_49 rfl (lv_at hl 3 rfl) ?_
        obtain ⟨v4, hv, h⟩ := bb_some h
        refine x_ald C hw alX_25 hv dX2_know_50 ?_
        refine lv_iconst (v := 1) hx hb dX2_know_51 (by decide) ?_
        refine lv_isub hx hb dX2_know_52 ?_
        refine lv_icmp_lt (tgt := 69) hx hb dX2_know_53 (by decide) (fun c => ?_) (fun c => ?_)
        · have h := (it_d h).1 c
          refine lv_iconst (v := 0) hx hb dX2_know_69 (by decide) ?_
          exact B70 S x1 x2 x2 0 _ _ ls h hw (lv_sub hl [1, 2, 3] rfl)
        · have h := (it_d h).2 c
          refine lv_aload_n hx hb dX2_know_56 rfl (lv_at hl 1 rfl) ?_
          refine lv_iload_n hx hb dX2_know_57 rfl (lv_at hl 3 rfl) ?_
          refine lv_iload_n hx hb dX2_know_58 rfl (lv_at hl 2 rfl) ?_
          obtain ⟨r1, S1, hv, h⟩ := b2_some h
          refine x_callVI C hw (mX2_falls hv) lkX2_57 rfl (Nat.le_of_ble_eq_true rfl) hl.1 rfl (Nat.le_of_ble_eq_true rfl) dX2_know_59 (fun H locs hw => ?_)
          refine lv_if_ne (tgt := 69) hx hb dX2_know_62 (by decide) (fun c => ?_) (fun c => ?_)
          · have h := (it_d h).2 c
            refine lv_iconst (v := 0) hx hb dX2_know_69 (by decide) ?_
            exact B70 S1 x1 x2 x2 0 _ _ ls h hw (lv_sub hl [1, 2, 3] rfl)
          · have h := (it_d h).1 c
            refine lv_iconst (v := 1) hx hb dX2_know_65 (by decide) ?_
            refine lv_goto (tgt := 70) hx hb dX2_know_66 (by decide) ?_
            exact B70 S1 x1 x2 x2 1 _ _ ls h hw (lv_sub hl [1, 2, 3] rfl)
  unfold fX2_know at h
  refine lv_aload_n hx hb dX2_know_0 rfl (lv_at hl 0 rfl) ?_
  refine x_getR C hw gtX2_44 dX2_know_1 ?_
  refine lv_iconst (v := 0) hx hb dX2_know_4 (by decide) ?_
  obtain ⟨S1, hv, h⟩ := bb_some h
  refine x_callSV C hw (mJ7_fill_29 hv) lkX2_51 rfl (Nat.le_of_ble_eq_true rfl) hl.1 rfl (Nat.le_of_ble_eq_true rfl) dX2_know_5 (fun H locs hw => ?_)
  refine lv_iconst (v := 0) hx hb dX2_know_8 (by decide) ?_
  refine lv_istore_n (lv' := [(2, .int 0), (0, .ref (ad 4)), (1, .int x1)]) hx hb dX2_know_9 rfl hl (by decide) rfl (fun ls hl => ?_)
  exact B10 N S1 x1 0 _ _ ls h hw (lv_sub hl [1, 2, 0] rfl)
set_option maxHeartbeats 4000000 in
set_option maxRecDepth 100000 in
theorem mX2_latestDay {N : Nat} {l : Launch} {D : va_G} {ad : Nat → Nat} {cI cZ : ClassId} {S Sz : SS} {rz : Int32} (h : fX2_latestDay N S  = some (rz, Sz)) : MI l D lyX ad cI cZ yX2_latestDay cX2_latestDay 1 (some .int) 0 [.ref (ad 4)] S rz Sz := by
  refine x_startI RX2 (by decide) rfl (Nat.le_of_ble_eq_true rfl) ?_
  intro p e s m args below meth c A C hw ls hl
  have hx := C.1
  have hb := C.2.1
  have hown := C.2.2.2.1
  have hts := C.2.2.2.2.1
  have hl : lv_has ls 1 [(0, .ref (ad 4))] := hl
  unfold fX2_latestDay at h
  refine lv_aload_n hx hb dX2_latestDay_0 rfl (lv_at hl 0 rfl) ?_
  refine x_getI C hw gtX2_47 dX2_latestDay_1 ?_
  refine lv_if_le (tgt := 21) hx hb dX2_latestDay_4 (by decide) (fun c => ?_) (fun c => ?_)
  · have h := (it_d h).1 c
    refine lv_iconst (v := 0) hx hb dX2_latestDay_21 (by decide) ?_
    exact x_iret C hw h dX2_latestDay_22
  · have h := (it_d h).2 c
    refine lv_aload_n hx hb dX2_latestDay_7 rfl (lv_at hl 0 rfl) ?_
    refine x_getR C hw gtX2_34 dX2_latestDay_8 ?_
    refine lv_aload_n hx hb dX2_latestDay_11 rfl (lv_at hl 0 rfl) ?_
    refine x_getI C hw gtX2_47 dX2_latestDay_12 ?_
    refine lv_iconst (v := 1) hx hb dX2_latestDay_15 (by decide) ?_
    refine lv_isub hx hb dX2_latestDay_16 ?_
    obtain ⟨v1, hv, h⟩ := bb_some h
    refine x_ald C hw alX_26 hv dX2_latestDay_17 ?_
    refine lv_goto (tgt := 22) hx hb dX2_latestDay_18 (by decide) ?_
    exact x_iret C hw h dX2_latestDay_22
set_option maxHeartbeats 4000000 in
set_option maxRecDepth 100000 in
theorem mX2_setValue {N : Nat} {l : Launch} {D : va_G} {ad : Nat → Nat} {cI cZ : ClassId} {S Sz : SS} {x1 x2 x3 x4 : Int32} (h : fX2_setValue N S x1 x2 x3 x4 = some Sz) : MV l D lyX ad cI cZ yX2_setValue cX2_setValue 5 0 [.ref (ad 4), .int x1, .int x2, .int x3, .int x4] S Sz := by
  refine x_startV RX2 (by decide) rfl (Nat.le_of_ble_eq_true rfl) ?_
  intro p e s m args below meth c A C hw ls hl
  have hx := C.1
  have hb := C.2.1
  have hown := C.2.2.2.1
  have hts := C.2.2.2.2.1
  have hl : lv_has ls 5 [(0, .ref (ad 4)), (1, .int x1), (2, .int x2), (3, .int x3), (4, .int x4)] := hl
  unfold fX2_setValue at h
  refine lv_aload_n hx hb dX2_setValue_0 rfl (lv_at hl 0 rfl) ?_
  refine x_getR C hw gtX2_22 dX2_setValue_1 ?_
  refine lv_iload_n hx hb dX2_setValue_4 rfl (lv_at hl 1 rfl) ?_
  refine lv_iconst (v := 3) hx hb dX2_setValue_5 (by decide) ?_
  refine lv_imul hx hb dX2_setValue_6 ?_
  refine lv_iload_n hx hb dX2_setValue_7 rfl (lv_at hl 2 rfl) ?_
  refine lv_iadd hx hb dX2_setValue_8 ?_
  refine lv_bipush (v := 11) hx hb dX2_setValue_9 (by decide) ?_
  refine lv_imul hx hb dX2_setValue_11 ?_
  refine lv_iload_n hx hb dX2_setValue_12 rfl (lv_at hl 3 rfl) ?_
  refine lv_iadd hx hb dX2_setValue_13 ?_
  refine lv_iload hx hb dX2_setValue_14 (lv_at hl 4 rfl) ?_
  obtain ⟨S1, hv, h⟩ := bb_some h
  refine x_ast C hw alX_22 hv dX2_setValue_16 (fun H locs hw => ?_)
  exact x_vret C hw h dX2_setValue_17
set_option maxHeartbeats 4000000 in
set_option maxRecDepth 100000 in
theorem mX2_standingAtLast {N : Nat} {l : Launch} {D : va_G} {ad : Nat → Nat} {cI cZ : ClassId} {S Sz : SS} {rz : Int32} (h : fX2_standingAtLast N S  = some (rz, Sz)) : MI l D lyX ad cI cZ yX2_standingAtLast cX2_standingAtLast 3 (some .int) 3 [.ref (ad 4)] S rz Sz := by
  refine x_startI RX2 (by decide) rfl (Nat.le_of_ble_eq_true rfl) ?_
  intro p e s m args below meth c A C hw ls hl
  have hx := C.1
  have hb := C.2.1
  have hown := C.2.2.2.1
  have hts := C.2.2.2.2.1
  have hl : lv_has ls 3 [(0, .ref (ad 4))] := hl
  have B11 : ∀ n : Nat, ∀ (S : SS) (x1 x2 : Int32) (H : Heap) (locs : List Loc) (ls : Array Slot), fX2_standingAtLast_b11 N n S x1 x2 = some (rz, Sz) → WH D A s.heap lyX ad cI cZ S H locs → lv_has ls 3 [(0, .ref (ad 4)), (1, .int x1), (2, .int x2)] → W p l e (rmK 3) s m args below meth c H locs 0 0 (MQ below (Qi D lyX ad cI cZ A rz Sz) args s 0 0 A) (F0 m 11 ls []) := by
    intro n
    induction n with
    | zero =>
      intro S x1 x2 H locs ls h hw hl
      rw [fX2_standingAtLast_b11] at h
      cases h
    | succ n ih11 =>
      intro S x1 x2 H locs ls h hw hl
      rw [fX2_standingAtLast_b11] at h
      refine lv_iload_n hx hb dX2_standingAtLast_11 rfl (lv_at hl 2 rfl) ?_
      refine lv_aload_n hx hb dX2_standingAtLast_12 rfl (lv_at hl 0 rfl) ?_
      refine x_getI C hw gtX2_47 dX2_standingAtLast_13 ?_
      refine lv_icmp_ge (tgt := 37) hx hb dX2_standingAtLast_16 (by decide) (fun c => ?_) (fun c => ?_)
      · have h := (it_d h).1 c
        refine lv_iload_n hx hb dX2_standingAtLast_37 rfl (lv_at hl 1 rfl) ?_
        exact x_iret C hw h dX2_standingAtLast_38
      · have h := (it_d h).2 c
        refine lv_aload_n hx hb dX2_standingAtLast_19 rfl (lv_at hl 0 rfl) ?_
        refine x_getR C hw gtX2_40 dX2_standingAtLast_20 ?_
        refine lv_iload_n hx hb dX2_standingAtLast_23 rfl (lv_at hl 2 rfl) ?_
        obtain ⟨v1, hv, h⟩ := bb_some h
        refine x_zald C hw alX_28 hv dX2_standingAtLast_24 ?_
        refine lv_if_eq (tgt := 31) hx hb dX2_standingAtLast_25 (by decide) (fun c => ?_) (fun c => ?_)
        · have h := (it_d h).1 c
          refine lv_iinc (v := (x2 + 1)) (lv' := [(2, .int (x2 + 1)), (0, .ref (ad 4)), (1, .int x1)]) hx hb dX2_standingAtLast_31 hl (k := 2) rfl rfl (by decide) rfl (fun ls hl => ?_)
          refine lv_goto (tgt := 11) hx hb dX2_standingAtLast_34 (by decide) ?_
          exact ih11 S x1 (x2 + 1) _ _ ls h hw (lv_sub hl [1, 2, 0] rfl)
        · have h := (it_d h).2 c
          refine lv_iinc (v := (x1 + 1)) (lv' := [(1, .int (x1 + 1)), (0, .ref (ad 4)), (2, .int x2)]) hx hb dX2_standingAtLast_28 hl (k := 1) rfl rfl (by decide) rfl (fun ls hl => ?_)
          refine lv_iinc (v := (x2 + 1)) (lv' := [(2, .int (x2 + 1)), (1, .int (x1 + 1)), (0, .ref (ad 4))]) hx hb dX2_standingAtLast_31 hl (k := 2) rfl rfl (by decide) rfl (fun ls hl => ?_)
          refine lv_goto (tgt := 11) hx hb dX2_standingAtLast_34 (by decide) ?_
          exact ih11 S (x1 + 1) (x2 + 1) _ _ ls h hw (lv_sub hl [2, 1, 0] rfl)
  unfold fX2_standingAtLast at h
  refine lv_aload_n hx hb dX2_standingAtLast_0 rfl (lv_at hl 0 rfl) ?_
  refine lv_sipush (v := 30000) hx hb dX2_standingAtLast_1 (by decide) ?_
  obtain ⟨S1, hv, h⟩ := bb_some h
  refine x_callVV C hw (mX2_know hv) lkX2_79 rfl (Nat.le_of_ble_eq_true rfl) hl.1 rfl (Nat.le_of_ble_eq_true rfl) dX2_standingAtLast_4 (fun H locs hw => ?_)
  refine lv_iconst (v := 0) hx hb dX2_standingAtLast_7 (by decide) ?_
  refine lv_istore_n (lv' := [(1, .int 0), (0, .ref (ad 4))]) hx hb dX2_standingAtLast_8 rfl hl (by decide) rfl (fun ls hl => ?_)
  refine lv_iconst (v := 0) hx hb dX2_standingAtLast_9 (by decide) ?_
  refine lv_istore_n (lv' := [(2, .int 0), (1, .int 0), (0, .ref (ad 4))]) hx hb dX2_standingAtLast_10 rfl hl (by decide) rfl (fun ls hl => ?_)
  exact B11 N S1 0 0 _ _ ls h hw (lv_sub hl [2, 1, 0] rfl)
set_option maxHeartbeats 4000000 in
set_option maxRecDepth 100000 in
theorem mX3_add {N : Nat} {l : Launch} {D : va_G} {ad : Nat → Nat} {cI cZ : ClassId} {S Sz : SS} {rz : Int32} (h : fX3_add N S  = some (rz, Sz)) : MI l D lyX ad cI cZ yX3_add cX3_add 2 (some .int) 0 [.ref (ad 7)] S rz Sz := by
  refine x_startI RX3 (by decide) rfl (Nat.le_of_ble_eq_true rfl) ?_
  intro p e s m args below meth c A C hw ls hl
  have hx := C.1
  have hb := C.2.1
  have hown := C.2.2.2.1
  have hts := C.2.2.2.2.1
  have hl : lv_has ls 2 [(0, .ref (ad 7))] := hl
  unfold fX3_add at h
  refine lv_aload_n hx hb dX3_add_0 rfl (lv_at hl 0 rfl) ?_
  refine x_getI C hw gtX3_21 dX3_add_1 ?_
  refine lv_istore_n (lv' := [(1, .int (S.1 8)), (0, .ref (ad 7))]) hx hb dX3_add_4 rfl hl (by decide) rfl (fun ls hl => ?_)
  refine lv_aload_n hx hb dX3_add_5 rfl (lv_at hl 1 rfl) ?_
  refine lv_dup hx hb dX3_add_6 rfl ?_
  refine x_getI C hw gtX3_21 dX3_add_7 ?_
  refine lv_iconst (v := 1) hx hb dX3_add_10 (by decide) ?_
  refine lv_iadd hx hb dX3_add_11 ?_
  obtain ⟨S1, hv, h⟩ := bb_some h
  refine x_putO C hw gpX3_21 hv rfl rfl dX3_add_12 (fun H locs hw => ?_)
  refine lv_iload_n hx hb dX3_add_15 rfl (lv_at hl 0 rfl) ?_
  exact x_iret C hw h dX3_add_16
set_option maxHeartbeats 4000000 in
set_option maxRecDepth 100000 in
theorem mX3_upTo {N : Nat} {l : Launch} {D : va_G} {ad : Nat → Nat} {cI cZ : ClassId} {S Sz : SS} {x1 x2 : Int32} {rz : Int32} (h : fX3_upTo N S x1 x2 = some (rz, Sz)) : MI l D lyX ad cI cZ yX3_upTo cX3_upTo 5 (some .int) 0 [.ref (ad 7), .int x1, .int x2] S rz Sz := by
  refine x_startI RX3 (by decide) rfl (Nat.le_of_ble_eq_true rfl) ?_
  intro p e s m args below meth c A C hw ls hl
  have hx := C.1
  have hb := C.2.1
  have hown := C.2.2.2.1
  have hts := C.2.2.2.2.1
  have hl : lv_has ls 5 [(0, .ref (ad 7)), (1, .int x1), (2, .int x2)] := hl
  have B5 : ∀ n : Nat, ∀ (S : SS) (x1 x2 x3 x4 : Int32) (H : Heap) (locs : List Loc) (ls : Array Slot), fX3_upTo_b5 N n S x1 x2 x3 x4 = some (rz, Sz) → WH D A s.heap lyX ad cI cZ S H locs → lv_has ls 5 [(0, .ref (ad 7)), (1, .int x1), (2, .int x2), (3, .int x3), (4, .int x4)] → W p l e (rmK 0) s m args below meth c H locs 0 0 (MQ below (Qi D lyX ad cI cZ A rz Sz) args s 0 0 A) (F0 m 5 ls []) := by
    intro n
    induction n with
    | zero =>
      intro S x1 x2 x3 x4 H locs ls h hw hl
      rw [fX3_upTo_b5] at h
      cases h
    | succ n ih5 =>
      intro S x1 x2 x3 x4 H locs ls h hw hl
      rw [fX3_upTo_b5] at h
      refine lv_iload hx hb dX3_upTo_5 (lv_at hl 4 rfl) ?_
      refine lv_iconst (v := 5) hx hb dX3_upTo_7 (by decide) ?_
      refine lv_icmp_ge (tgt := 35) hx hb dX3_upTo_8 (by decide) (fun c => ?_) (fun c => ?_)
      · have h := (it_d h).1 c
        refine lv_iload_n hx hb dX3_upTo_35 rfl (lv_at hl 3 rfl) ?_
        exact x_iret C hw h dX3_upTo_36
      · have h := (it_d h).2 c
        refine lv_aload_n hx hb dX3_upTo_11 rfl (lv_at hl 0 rfl) ?_
        refine x_getR C hw gtX3_18 dX3_upTo_12 ?_
        refine lv_iload_n hx hb dX3_upTo_15 rfl (lv_at hl 1 rfl) ?_
        refine lv_iconst (v := 5) hx hb dX3_upTo_16 (by decide) ?_
        refine lv_imul hx hb dX3_upTo_17 ?_
        refine lv_iload hx hb dX3_upTo_18 (lv_at hl 4 rfl) ?_
        refine lv_iadd hx hb dX3_upTo_20 ?_
        obtain ⟨v1, hv, h⟩ := bb_some h
        refine x_ald C hw alX_40 hv dX3_upTo_21 ?_
        refine lv_iload_n hx hb dX3_upTo_22 rfl (lv_at hl 2 rfl) ?_
        refine lv_icmp_gt (tgt := 29) hx hb dX3_upTo_23 (by decide) (fun c => ?_) (fun c => ?_)
        · have h := (it_d h).1 c
          refine lv_iinc (v := (x4 + 1)) (lv' := [(4, .int (x4 + 1)), (0, .ref (ad 7)), (1, .int x1), (2, .int x2), (3, .int x3)]) hx hb dX3_upTo_29 hl (k := 4) rfl rfl (by decide) rfl (fun ls hl => ?_)
          refine lv_goto (tgt := 5) hx hb dX3_upTo_32 (by decide) ?_
          exact ih5 S x1 x2 x3 (x4 + 1) _ _ ls h hw (lv_sub hl [1, 2, 3, 4, 0] rfl)
        · have h := (it_d h).2 c
          refine lv_iinc (v := (x3 + 1)) (lv' := [(3, .int (x3 + 1)), (0, .ref (ad 7)), (1, .int x1), (2, .int x2), (4, .int x4)]) hx hb dX3_upTo_26 hl (k := 3) rfl rfl (by decide) rfl (fun ls hl => ?_)
          refine lv_iinc (v := (x4 + 1)) (lv' := [(4, .int (x4 + 1)), (3, .int (x3 + 1)), (0, .ref (ad 7)), (1, .int x1), (2, .int x2)]) hx hb dX3_upTo_29 hl (k := 4) rfl rfl (by decide) rfl (fun ls hl => ?_)
          refine lv_goto (tgt := 5) hx hb dX3_upTo_32 (by decide) ?_
          exact ih5 S x1 x2 (x3 + 1) (x4 + 1) _ _ ls h hw (lv_sub hl [2, 3, 4, 1, 0] rfl)
  unfold fX3_upTo at h
  refine lv_iconst (v := 0) hx hb dX3_upTo_0 (by decide) ?_
  refine lv_istore_n (lv' := [(3, .int 0), (0, .ref (ad 7)), (1, .int x1), (2, .int x2)]) hx hb dX3_upTo_1 rfl hl (by decide) rfl (fun ls hl => ?_)
  refine lv_iconst (v := 0) hx hb dX3_upTo_2 (by decide) ?_
  refine lv_istore (lv' := [(4, .int 0), (3, .int 0), (0, .ref (ad 7)), (1, .int x1), (2, .int x2)]) hx hb dX3_upTo_3 hl (by decide) rfl (fun ls hl => ?_)
  exact B5 N S x1 x2 0 0 _ _ ls h hw (lv_sub hl [2, 3, 4, 1, 0] rfl)
set_option maxHeartbeats 4000000 in
set_option maxRecDepth 100000 in
theorem mX3_middleOf {N : Nat} {l : Launch} {D : va_G} {ad : Nat → Nat} {cI cZ : ClassId} {S Sz : SS} {x1 : Int32} {rz : Int32} (h : fX3_middleOf N S x1 = some (rz, Sz)) : MI l D lyX ad cI cZ yX3_middleOf cX3_middleOf 5 (some .int) 1 [.ref (ad 7), .int x1] S rz Sz := by
  refine x_startI RX3 (by decide) rfl (Nat.le_of_ble_eq_true rfl) ?_
  intro p e s m args below meth c A C hw ls hl
  have hx := C.1
  have hb := C.2.1
  have hown := C.2.2.2.1
  have hts := C.2.2.2.2.1
  have hl : lv_has ls 5 [(0, .ref (ad 7)), (1, .int x1)] := hl
  have B5 : ∀ n : Nat, ∀ (S : SS) (x1 x2 x3 : Int32) (H : Heap) (locs : List Loc) (ls : Array Slot), fX3_middleOf_b5 N n S x1 x2 x3 = some (rz, Sz) → WH D A s.heap lyX ad cI cZ S H locs → lv_has ls 5 [(0, .ref (ad 7)), (1, .int x1), (2, .int x2), (3, .int x3)] → W p l e (rmK 1) s m args below meth c H locs 0 0 (MQ below (Qi D lyX ad cI cZ A rz Sz) args s 0 0 A) (F0 m 5 ls []) := by
    intro n
    induction n with
    | zero =>
      intro S x1 x2 x3 H locs ls h hw hl
      rw [fX3_middleOf_b5] at h
      cases h
    | succ n ih5 =>
      intro S x1 x2 x3 H locs ls h hw hl
      rw [fX3_middleOf_b5] at h
      refine lv_iload_n hx hb dX3_middleOf_5 rfl (lv_at hl 3 rfl) ?_
      refine lv_iconst (v := 5) hx hb dX3_middleOf_6 (by decide) ?_
      refine lv_icmp_ge (tgt := 48) hx hb dX3_middleOf_7 (by decide) (fun c => ?_) (fun c => ?_)
      · have h := (it_d h).1 c
        refine lv_iload_n hx hb dX3_middleOf_48 rfl (lv_at hl 2 rfl) ?_
        exact x_iret C hw h dX3_middleOf_49
      · have h := (it_d h).2 c
        refine lv_aload_n hx hb dX3_middleOf_10 rfl (lv_at hl 0 rfl) ?_
        refine x_getR C hw gtX3_18 dX3_middleOf_11 ?_
        refine lv_iload_n hx hb dX3_middleOf_14 rfl (lv_at hl 1 rfl) ?_
        refine lv_iconst (v := 5) hx hb dX3_middleOf_15 (by decide) ?_
        refine lv_imul hx hb dX3_middleOf_16 ?_
        refine lv_iload_n hx hb dX3_middleOf_17 rfl (lv_at hl 3 rfl) ?_
        refine lv_iadd hx hb dX3_middleOf_18 ?_
        obtain ⟨v1, hv, h⟩ := bb_some h
        refine x_ald C hw alX_40 hv dX3_middleOf_19 ?_
        refine lv_istore (lv' := [(4, .int v1), (0, .ref (ad 7)), (1, .int x1), (2, .int x2), (3, .int x3)]) hx hb dX3_middleOf_20 hl (by decide) rfl (fun ls hl => ?_)
        refine lv_iload hx hb dX3_middleOf_22 (lv_at hl 0 rfl) ?_
        refine lv_iload_n hx hb dX3_middleOf_24 rfl (lv_at hl 3 rfl) ?_
        refine lv_icmp_ge (tgt := 42) hx hb dX3_middleOf_25 (by decide) (fun c => ?_) (fun c => ?_)
        · have h := (it_d h).1 c
          refine lv_iinc (v := (x3 + 1)) (lv' := [(3, .int (x3 + 1)), (4, .int v1), (0, .ref (ad 7)), (1, .int x1), (2, .int x2)]) hx hb dX3_middleOf_42 hl (k := 4) rfl rfl (by decide) rfl (fun ls hl => ?_)
          refine lv_goto (tgt := 5) hx hb dX3_middleOf_45 (by decide) ?_
          exact ih5 S x1 x2 (x3 + 1) _ _ ls h hw (lv_sub hl [2, 3, 4, 0] rfl)
        · have h := (it_d h).2 c
          refine lv_aload_n hx hb dX3_middleOf_28 rfl (lv_at hl 1 rfl) ?_
          refine lv_iload_n hx hb dX3_middleOf_29 rfl (lv_at hl 2 rfl) ?_
          refine lv_iload hx hb dX3_middleOf_30 (lv_at hl 0 rfl) ?_
          obtain ⟨r1, S1, hv, h⟩ := b2_some h
          refine x_callVI C hw (mX3_upTo hv) lkX3_31 rfl (Nat.le_of_ble_eq_true rfl) hl.1 rfl (Nat.le_of_ble_eq_true rfl) dX3_middleOf_32 (fun H locs hw => ?_)
          refine lv_iconst (v := 3) hx hb dX3_middleOf_35 (by decide) ?_
          refine lv_icmp_lt (tgt := 42) hx hb dX3_middleOf_36 (by decide) (fun c => ?_) (fun c => ?_)
          · have h := (it_d h).1 c
            refine lv_iinc (v := (x3 + 1)) (lv' := [(3, .int (x3 + 1)), (4, .int v1), (0, .ref (ad 7)), (1, .int x1), (2, .int x2)]) hx hb dX3_middleOf_42 hl (k := 4) rfl rfl (by decide) rfl (fun ls hl => ?_)
            refine lv_goto (tgt := 5) hx hb dX3_middleOf_45 (by decide) ?_
            exact ih5 S1 x1 x2 (x3 + 1) _ _ ls h hw (lv_sub hl [2, 3, 4, 0] rfl)
          · have h := (it_d h).2 c
            refine lv_iload hx hb dX3_middleOf_39 (lv_at hl 0 rfl) ?_
            refine lv_istore_n (lv' := [(2, .int v1), (4, .int v1), (0, .ref (ad 7)), (1, .int x1), (3, .int x3)]) hx hb dX3_middleOf_41 rfl hl (by decide) rfl (fun ls hl => ?_)
            refine lv_iinc (v := (x3 + 1)) (lv' := [(3, .int (x3 + 1)), (2, .int v1), (4, .int v1), (0, .ref (ad 7)), (1, .int x1)]) hx hb dX3_middleOf_42 hl (k := 4) rfl rfl (by decide) rfl (fun ls hl => ?_)
            refine lv_goto (tgt := 5) hx hb dX3_middleOf_45 (by decide) ?_
            exact ih5 S1 x1 v1 (x3 + 1) _ _ ls h hw (lv_sub hl [3, 4, 1, 0] rfl)
  unfold fX3_middleOf at h
  refine lv_bipush (v := 100) hx hb dX3_middleOf_0 (by decide) ?_
  refine lv_istore_n (lv' := [(2, .int 100), (0, .ref (ad 7)), (1, .int x1)]) hx hb dX3_middleOf_2 rfl hl (by decide) rfl (fun ls hl => ?_)
  refine lv_iconst (v := 0) hx hb dX3_middleOf_3 (by decide) ?_
  refine lv_istore_n (lv' := [(3, .int 0), (2, .int 100), (0, .ref (ad 7)), (1, .int x1)]) hx hb dX3_middleOf_4 rfl hl (by decide) rfl (fun ls hl => ?_)
  exact B5 N S x1 100 0 _ _ ls h hw (lv_sub hl [2, 3, 1, 0] rfl)
set_option maxHeartbeats 4000000 in
set_option maxRecDepth 100000 in
theorem mX3_awayFromMiddle {N : Nat} {l : Launch} {D : va_G} {ad : Nat → Nat} {cI cZ : ClassId} {S Sz : SS} {x1 x2 : Int32} {rz : Int32} (h : fX3_awayFromMiddle N S x1 x2 = some (rz, Sz)) : MI l D lyX ad cI cZ yX3_awayFromMiddle cX3_awayFromMiddle 6 (some .int) 2 [.ref (ad 7), .int x1, .int x2] S rz Sz := by
  refine x_startI RX3 (by decide) rfl (Nat.le_of_ble_eq_true rfl) ?_
  intro p e s m args below meth c A C hw ls hl
  have hx := C.1
  have hb := C.2.1
  have hown := C.2.2.2.1
  have hts := C.2.2.2.2.1
  have hl : lv_has ls 6 [(0, .ref (ad 7)), (1, .int x1), (2, .int x2)] := hl
  have B12 : ∀ n : Nat, ∀ (S : SS) (x1 x2 x3 x4 x5 : Int32) (H : Heap) (locs : List Loc) (ls : Array Slot), fX3_awayFromMiddle_b12 N n S x1 x2 x3 x4 x5 = some (rz, Sz) → WH D A s.heap lyX ad cI cZ S H locs → lv_has ls 6 [(0, .ref (ad 7)), (1, .int x1), (2, .int x2), (3, .int x3), (4, .int x4), (5, .int x5)] → W p l e (rmK 2) s m args below meth c H locs 0 0 (MQ below (Qi D lyX ad cI cZ A rz Sz) args s 0 0 A) (F0 m 12 ls []) := by
    intro n
    induction n with
    | zero =>
      intro S x1 x2 x3 x4 x5 H locs ls h hw hl
      rw [fX3_awayFromMiddle_b12] at h
      cases h
    | succ n ih12 =>
      intro S x1 x2 x3 x4 x5 H locs ls h hw hl
      rw [fX3_awayFromMiddle_b12] at h
      refine lv_iload hx hb dX3_awayFromMiddle_12 (lv_at hl 5 rfl) ?_
      refine lv_iconst (v := 5) hx hb dX3_awayFromMiddle_14 (by decide) ?_
      refine lv_icmp_ge (tgt := 47) hx hb dX3_awayFromMiddle_15 (by decide) (fun c => ?_) (fun c => ?_)
      · have h := (it_d h).1 c
        refine lv_iload hx hb dX3_awayFromMiddle_47 (lv_at hl 4 rfl) ?_
        exact x_iret C hw h dX3_awayFromMiddle_49
      · have h := (it_d h).2 c
        refine lv_aload_n hx hb dX3_awayFromMiddle_18 rfl (lv_at hl 0 rfl) ?_
        refine x_getR C hw gtX3_18 dX3_awayFromMiddle_19 ?_
        refine lv_iload_n hx hb dX3_awayFromMiddle_22 rfl (lv_at hl 1 rfl) ?_
        refine lv_iconst (v := 5) hx hb dX3_awayFromMiddle_23 (by decide) ?_
        refine lv_imul hx hb dX3_awayFromMiddle_24 ?_
        refine lv_iload hx hb dX3_awayFromMiddle_25 (lv_at hl 5 rfl) ?_
        refine lv_iadd hx hb dX3_awayFromMiddle_27 ?_
        obtain ⟨v1, hv, h⟩ := bb_some h
        refine x_ald C hw alX_40 hv dX3_awayFromMiddle_28 ?_
        refine lv_iload_n hx hb dX3_awayFromMiddle_29 rfl (lv_at hl 3 rfl) ?_
        refine lv_isub hx hb dX3_awayFromMiddle_30 ?_
        refine x_mab C mkX3_38 (Nat.le_of_ble_eq_true rfl) hl.1 (Nat.le_of_ble_eq_true rfl) dX3_awayFromMiddle_31 ?_
        refine lv_iload_n hx hb dX3_awayFromMiddle_34 rfl (lv_at hl 2 rfl) ?_
        refine lv_icmp_le (tgt := 41) hx hb dX3_awayFromMiddle_35 (by decide) (fun c => ?_) (fun c => ?_)
        · have h := (it_d h).1 c
          refine lv_iinc (v := (x5 + 1)) (lv' := [(5, .int (x5 + 1)), (0, .ref (ad 7)), (1, .int x1), (2, .int x2), (3, .int x3), (4, .int x4)]) hx hb dX3_awayFromMiddle_41 hl (k := 5) rfl rfl (by decide) rfl (fun ls hl => ?_)
          refine lv_goto (tgt := 12) hx hb dX3_awayFromMiddle_44 (by decide) ?_
          exact ih12 S x1 x2 x3 x4 (x5 + 1) _ _ ls h hw (lv_sub hl [1, 2, 3, 4, 5, 0] rfl)
        · have h := (it_d h).2 c
          refine lv_iinc (v := (x4 + 1)) (lv' := [(4, .int (x4 + 1)), (0, .ref (ad 7)), (1, .int x1), (2, .int x2), (3, .int x3), (5, .int x5)]) hx hb dX3_awayFromMiddle_38 hl (k := 4) rfl rfl (by decide) rfl (fun ls hl => ?_)
          refine lv_iinc (v := (x5 + 1)) (lv' := [(5, .int (x5 + 1)), (4, .int (x4 + 1)), (0, .ref (ad 7)), (1, .int x1), (2, .int x2), (3, .int x3)]) hx hb dX3_awayFromMiddle_41 hl (k := 5) rfl rfl (by decide) rfl (fun ls hl => ?_)
          refine lv_goto (tgt := 12) hx hb dX3_awayFromMiddle_44 (by decide) ?_
          exact ih12 S x1 x2 x3 (x4 + 1) (x5 + 1) _ _ ls h hw (lv_sub hl [2, 3, 4, 5, 1, 0] rfl)
  unfold fX3_awayFromMiddle at h
  refine lv_aload_n hx hb dX3_awayFromMiddle_0 rfl (lv_at hl 0 rfl) ?_
  refine lv_iload_n hx hb dX3_awayFromMiddle_1 rfl (lv_at hl 1 rfl) ?_
  obtain ⟨r1, S1, hv, h⟩ := b2_some h
  refine x_callVI C hw (mX3_middleOf hv) lkX3_34 rfl (Nat.le_of_ble_eq_true rfl) hl.1 rfl (Nat.le_of_ble_eq_true rfl) dX3_awayFromMiddle_2 (fun H locs hw => ?_)
  refine lv_istore_n (lv' := [(3, .int r1), (0, .ref (ad 7)), (1, .int x1), (2, .int x2)]) hx hb dX3_awayFromMiddle_5 rfl hl (by decide) rfl (fun ls hl => ?_)
  refine lv_iconst (v := 0) hx hb dX3_awayFromMiddle_6 (by decide) ?_
  refine lv_istore (lv' := [(4, .int 0), (3, .int r1), (0, .ref (ad 7)), (1, .int x1), (2, .int x2)]) hx hb dX3_awayFromMiddle_7 hl (by decide) rfl (fun ls hl => ?_)
  refine lv_iconst (v := 0) hx hb dX3_awayFromMiddle_9 (by decide) ?_
  refine lv_istore (lv' := [(5, .int 0), (4, .int 0), (3, .int r1), (0, .ref (ad 7)), (1, .int x1), (2, .int x2)]) hx hb dX3_awayFromMiddle_10 hl (by decide) rfl (fun ls hl => ?_)
  exact B12 N S1 x1 x2 r1 0 0 _ _ ls h hw (lv_sub hl [3, 4, 5, 2, 1, 0] rfl)
set_option maxHeartbeats 4000000 in
set_option maxRecDepth 100000 in
theorem mX3_isWhole {N : Nat} {l : Launch} {D : va_G} {ad : Nat → Nat} {cI cZ : ClassId} {S Sz : SS} {x1 : Int32} {rz : Int32} (h : fX3_isWhole N S x1 = some (rz, Sz)) : MI l D lyX ad cI cZ yX3_isWhole cX3_isWhole 2 (some .boolean) 0 [.ref (ad 7), .int x1] S rz Sz := by
  refine x_startI RX3 (by decide) rfl (Nat.le_of_ble_eq_true rfl) ?_
  intro p e s m args below meth c A C hw ls hl
  have hx := C.1
  have hb := C.2.1
  have hown := C.2.2.2.1
  have hts := C.2.2.2.2.1
  have hl : lv_has ls 2 [(0, .ref (ad 7)), (1, .int x1)] := hl
  unfold fX3_isWhole at h
  refine lv_aload_n hx hb dX3_isWhole_0 rfl (lv_at hl 0 rfl) ?_
  refine x_getR C hw gtX3_9 dX3_isWhole_1 ?_
  refine lv_iload_n hx hb dX3_isWhole_4 rfl (lv_at hl 1 rfl) ?_
  obtain ⟨v1, hv, h⟩ := bb_some h
  refine x_ald C hw alX_38 hv dX3_isWhole_5 ?_
  refine lv_iconst (v := 5) hx hb dX3_isWhole_6 (by decide) ?_
  refine lv_icmp_ne (tgt := 14) hx hb dX3_isWhole_7 (by decide) (fun c => ?_) (fun c => ?_)
  · have h := (it_d h).2 c
    refine lv_iconst (v := 0) hx hb dX3_isWhole_14 (by decide) ?_
    exact x_zret C hw h dX3_isWhole_15
  · have h := (it_d h).1 c
    refine lv_iconst (v := 1) hx hb dX3_isWhole_10 (by decide) ?_
    refine lv_goto (tgt := 15) hx hb dX3_isWhole_11 (by decide) ?_
    exact x_zret C hw h dX3_isWhole_15
set_option maxHeartbeats 4000000 in
set_option maxRecDepth 100000 in
theorem mX3_placeFor {N : Nat} {l : Launch} {D : va_G} {ad : Nat → Nat} {cI cZ : ClassId} {S Sz : SS} {x1 x2 : Int32} {rz : Int32} (h : fX3_placeFor N S x1 x2 = some (rz, Sz)) : MI l D lyX ad cI cZ yX3_placeFor cX3_placeFor 4 (some .int) 0 [.ref (ad 7), .int x1, .int x2] S rz Sz := by
  refine x_startI RX3 (by decide) rfl (Nat.le_of_ble_eq_true rfl) ?_
  intro p e s m args below meth c A C hw ls hl
  have hx := C.1
  have hb := C.2.1
  have hown := C.2.2.2.1
  have hts := C.2.2.2.2.1
  have hl : lv_has ls 4 [(0, .ref (ad 7)), (1, .int x1), (2, .int x2)] := hl
  have B34 : ∀ (S : SS) (x1 : Int32) (H : Heap) (locs : List Loc) (ls : Array Slot), fX3_placeFor_b34 N S x1 = some (rz, Sz) → WH D A s.heap lyX ad cI cZ S H locs → lv_has ls 4 [(0, .ref (ad 7)), (1, .int x1)] → W p l e (rmK 0) s m args below meth c H locs 0 0 (MQ below (Qi D lyX ad cI cZ A rz Sz) args s 0 0 A) (F0 m 34 ls []) := by
    intro S x1 H locs ls h hw hl
    unfold fX3_placeFor_b34 at h
    refine lv_aload_n hx hb dX3_placeFor_34 rfl (lv_at hl 0 rfl) ?_
    refine x_getR C hw gtX3_9 dX3_placeFor_35 ?_
    refine lv_iload_n hx hb dX3_placeFor_38 rfl (lv_at hl 1 rfl) ?_
    obtain ⟨v1, hv, h⟩ := bb_some h
    refine x_ald C hw alX_38 hv dX3_placeFor_39 ?_
    exact x_iret C hw h dX3_placeFor_40
  have B2 : ∀ n : Nat, ∀ (S : SS) (x1 x2 x3 : Int32) (H : Heap) (locs : List Loc) (ls : Array Slot), fX3_placeFor_b2 N n S x1 x2 x3 = some (rz, Sz) → WH D A s.heap lyX ad cI cZ S H locs → lv_has ls 4 [(0, .ref (ad 7)), (1, .int x1), (2, .int x2), (3, .int x3)] → W p l e (rmK 0) s m args below meth c H locs 0 0 (MQ below (Qi D lyX ad cI cZ A rz Sz) args s 0 0 A) (F0 m 2 ls []) := by
    intro n
    induction n with
    | zero =>
      intro S x1 x2 x3 H locs ls h hw hl
      rw [fX3_placeFor_b2] at h
      cases h
    | succ n ih2 =>
      intro S x1 x2 x3 H locs ls h hw hl
      rw [fX3_placeFor_b2] at h
      refine lv_iload_n hx hb dX3_placeFor_2 rfl (lv_at hl 3 rfl) ?_
      refine lv_aload_n hx hb dX3_placeFor_3 rfl (lv_at hl 0 rfl) ?_
      refine x_getR C hw gtX3_9 dX3_placeFor_4 ?_
      refine lv_iload_n hx hb dX3_placeFor_7 rfl (lv_at hl 1 rfl) ?_
      obtain ⟨v1, hv, h⟩ := bb_some h
      refine x_ald C hw alX_38 hv dX3_placeFor_8 ?_
      refine lv_icmp_ge (tgt := 34) hx hb dX3_placeFor_9 (by decide) (fun c => ?_) (fun c => ?_)
      · have h := (it_d h).1 c
        exact B34 S x1 _ _ ls h hw (lv_sub hl [0, 1] rfl)
      · have h := (it_d h).2 c
        refine lv_aload_n hx hb dX3_placeFor_12 rfl (lv_at hl 0 rfl) ?_
        refine x_getR C hw gtX3_15 dX3_placeFor_13 ?_
        refine lv_iload_n hx hb dX3_placeFor_16 rfl (lv_at hl 1 rfl) ?_
        refine lv_iconst (v := 5) hx hb dX3_placeFor_17 (by decide) ?_
        refine lv_imul hx hb dX3_placeFor_18 ?_
        refine lv_iload_n hx hb dX3_placeFor_19 rfl (lv_at hl 3 rfl) ?_
        refine lv_iadd hx hb dX3_placeFor_20 ?_
        obtain ⟨v2, hv, h⟩ := bb_some h
        refine x_ald C hw alX_39 hv dX3_placeFor_21 ?_
        refine lv_iload_n hx hb dX3_placeFor_22 rfl (lv_at hl 2 rfl) ?_
        refine lv_icmp_ne (tgt := 28) hx hb dX3_placeFor_23 (by decide) (fun c => ?_) (fun c => ?_)
        · have h := (it_d h).2 c
          refine lv_iinc (v := (x3 + 1)) (lv' := [(3, .int (x3 + 1)), (0, .ref (ad 7)), (1, .int x1), (2, .int x2)]) hx hb dX3_placeFor_28 hl (k := 3) rfl rfl (by decide) rfl (fun ls hl => ?_)
          refine lv_goto (tgt := 2) hx hb dX3_placeFor_31 (by decide) ?_
          exact ih2 S x1 x2 (x3 + 1) _ _ ls h hw (lv_sub hl [1, 2, 3, 0] rfl)
        · have h := (it_d h).1 c
          refine lv_iload_n hx hb dX3_placeFor_26 rfl (lv_at hl 3 rfl) ?_
          exact x_iret C hw h dX3_placeFor_27
  unfold fX3_placeFor at h
  refine lv_iconst (v := 0) hx hb dX3_placeFor_0 (by decide) ?_
  refine lv_istore_n (lv' := [(3, .int 0), (0, .ref (ad 7)), (1, .int x1), (2, .int x2)]) hx hb dX3_placeFor_1 rfl hl (by decide) rfl (fun ls hl => ?_)
  exact B2 N S x1 x2 0 _ _ ls h hw (lv_sub hl [1, 2, 3, 0] rfl)
set_option maxHeartbeats 4000000 in
set_option maxRecDepth 100000 in
theorem mX3_hardness {N : Nat} {l : Launch} {D : va_G} {ad : Nat → Nat} {cI cZ : ClassId} {S Sz : SS} {x1 : Int32} {rz : Int32} (h : fX3_hardness N S x1 = some (rz, Sz)) : MI l D lyX ad cI cZ yX3_hardness cX3_hardness 5 (some .int) 2 [.ref (ad 7), .int x1] S rz Sz := by
  refine x_startI RX3 (by decide) rfl (Nat.le_of_ble_eq_true rfl) ?_
  intro p e s m args below meth c A C hw ls hl
  have hx := C.1
  have hb := C.2.1
  have hown := C.2.2.2.1
  have hts := C.2.2.2.2.1
  have hl : lv_has ls 5 [(0, .ref (ad 7)), (1, .int x1)] := hl
  have B4 : ∀ n : Nat, ∀ (S : SS) (x1 x2 x3 : Int32) (H : Heap) (locs : List Loc) (ls : Array Slot), fX3_hardness_b4 N n S x1 x2 x3 = some (rz, Sz) → WH D A s.heap lyX ad cI cZ S H locs → lv_has ls 5 [(0, .ref (ad 7)), (1, .int x1), (2, .int x2), (3, .int x3)] → W p l e (rmK 2) s m args below meth c H locs 0 0 (MQ below (Qi D lyX ad cI cZ A rz Sz) args s 0 0 A) (F0 m 4 ls []) := by
    intro n
    induction n with
    | zero =>
      intro S x1 x2 x3 H locs ls h hw hl
      rw [fX3_hardness_b4] at h
      cases h
    | succ n ih4 =>
      intro S x1 x2 x3 H locs ls h hw hl
      rw [fX3_hardness_b4] at h
      refine lv_iload_n hx hb dX3_hardness_4 rfl (lv_at hl 3 rfl) ?_
      refine lv_aload_n hx hb dX3_hardness_5 rfl (lv_at hl 0 rfl) ?_
      refine x_getI C hw gtX3_21 dX3_hardness_6 ?_
      refine lv_icmp_ge (tgt := 60) hx hb dX3_hardness_9 (by decide) (fun c => ?_) (fun c => ?_)
      · have h := (it_d h).1 c
        refine lv_iload_n hx hb dX3_hardness_60 rfl (lv_at hl 2 rfl) ?_
        exact x_iret C hw h dX3_hardness_61
      · have h := (it_d h).2 c
        refine lv_aload_n hx hb dX3_hardness_12 rfl (lv_at hl 0 rfl) ?_
        refine lv_iload_n hx hb dX3_hardness_13 rfl (lv_at hl 3 rfl) ?_
        refine lv_iload_n hx hb dX3_hardness_14 rfl (lv_at hl 1 rfl) ?_
        obtain ⟨r1, S1, hv, h⟩ := b2_some h
        refine x_callVI C hw (mX3_placeFor hv) lkX3_41 rfl (Nat.le_of_ble_eq_true rfl) hl.1 rfl (Nat.le_of_ble_eq_true rfl) dX3_hardness_15 (fun H locs hw => ?_)
        refine lv_istore (lv' := [(4, .int r1), (0, .ref (ad 7)), (1, .int x1), (2, .int x2), (3, .int x3)]) hx hb dX3_hardness_18 hl (by decide) rfl (fun ls hl => ?_)
        refine lv_aload_n hx hb dX3_hardness_20 rfl (lv_at hl 1 rfl) ?_
        refine lv_iload_n hx hb dX3_hardness_21 rfl (lv_at hl 4 rfl) ?_
        obtain ⟨r2, S2, hv, h⟩ := b2_some h
        refine x_callVI C hw (mX3_isWhole hv) lkX3_44 rfl (Nat.le_of_ble_eq_true rfl) hl.1 rfl (Nat.le_of_ble_eq_true rfl) dX3_hardness_22 (fun H locs hw => ?_)
        refine lv_if_eq (tgt := 54) hx hb dX3_hardness_25 (by decide) (fun c => ?_) (fun c => ?_)
        · have h := (it_d h).1 c
          refine lv_iinc (v := (x3 + 1)) (lv' := [(3, .int (x3 + 1)), (4, .int r1), (0, .ref (ad 7)), (1, .int x1), (2, .int x2)]) hx hb dX3_hardness_54 hl (k := 4) rfl rfl (by decide) rfl (fun ls hl => ?_)
          refine lv_goto (tgt := 4) hx hb dX3_hardness_57 (by decide) ?_
          exact ih4 S2 x1 x2 (x3 + 1) _ _ ls h hw (lv_sub hl [2, 3, 4, 0] rfl)
        · have h := (it_d h).2 c
          refine lv_iload hx hb dX3_hardness_28 (lv_at hl 0 rfl) ?_
          refine lv_iconst (v := 5) hx hb dX3_hardness_30 (by decide) ?_
          refine lv_icmp_ge (tgt := 54) hx hb dX3_hardness_31 (by decide) (fun c => ?_) (fun c => ?_)
          · have h := (it_d h).1 c
            refine lv_iinc (v := (x3 + 1)) (lv' := [(3, .int (x3 + 1)), (4, .int r1), (0, .ref (ad 7)), (1, .int x1), (2, .int x2)]) hx hb dX3_hardness_54 hl (k := 4) rfl rfl (by decide) rfl (fun ls hl => ?_)
            refine lv_goto (tgt := 4) hx hb dX3_hardness_57 (by decide) ?_
            exact ih4 S2 x1 x2 (x3 + 1) _ _ ls h hw (lv_sub hl [2, 3, 4, 0] rfl)
          · have h := (it_d h).2 c
            refine lv_iload_n hx hb dX3_hardness_34 rfl (lv_at hl 3 rfl) ?_
            refine lv_aload_n hx hb dX3_hardness_35 rfl (lv_at hl 1 rfl) ?_
            refine x_getR C hw gtX3_18 dX3_hardness_36 ?_
            refine lv_iload_n hx hb dX3_hardness_39 rfl (lv_at hl 4 rfl) ?_
            refine lv_iconst (v := 5) hx hb dX3_hardness_40 (by decide) ?_
            refine lv_imul hx hb dX3_hardness_41 ?_
            refine lv_iload hx hb dX3_hardness_42 (lv_at hl 0 rfl) ?_
            refine lv_iadd hx hb dX3_hardness_44 ?_
            obtain ⟨v1, hv, h⟩ := bb_some h
            refine x_ald C hw alX_40 hv dX3_hardness_45 ?_
            refine lv_aload_n hx hb dX3_hardness_46 rfl (lv_at hl 1 rfl) ?_
            refine lv_iload_n hx hb dX3_hardness_47 rfl (lv_at hl 4 rfl) ?_
            obtain ⟨r3, S3, hv, h⟩ := b2_some h
            refine x_callVI C hw (mX3_middleOf hv) lkX3_34 rfl (Nat.le_of_ble_eq_true rfl) hl.1 rfl (Nat.le_of_ble_eq_true rfl) dX3_hardness_48 (fun H locs hw => ?_)
            refine lv_isub hx hb dX3_hardness_51 ?_
            refine lv_iadd hx hb dX3_hardness_52 ?_
            refine lv_istore_n (lv' := [(2, .int (x2 + (v1 - r3))), (4, .int r1), (0, .ref (ad 7)), (1, .int x1), (3, .int x3)]) hx hb dX3_hardness_53 rfl hl (by decide) rfl (fun ls hl => ?_)
            refine lv_iinc (v := (x3 + 1)) (lv' := [(3, .int (x3 + 1)), (2, .int (x2 + (v1 - r3))), (4, .int r1), (0, .ref (ad 7)), (1, .int x1)]) hx hb dX3_hardness_54 hl (k := 4) rfl rfl (by decide) rfl (fun ls hl => ?_)
            refine lv_goto (tgt := 4) hx hb dX3_hardness_57 (by decide) ?_
            exact ih4 S3 x1 (x2 + (v1 - r3)) (x3 + 1) _ _ ls h hw (lv_sub hl [3, 4, 1, 0] rfl)
  unfold fX3_hardness at h
  refine lv_iconst (v := 0) hx hb dX3_hardness_0 (by decide) ?_
  refine lv_istore_n (lv' := [(2, .int 0), (0, .ref (ad 7)), (1, .int x1)]) hx hb dX3_hardness_1 rfl hl (by decide) rfl (fun ls hl => ?_)
  refine lv_iconst (v := 0) hx hb dX3_hardness_2 (by decide) ?_
  refine lv_istore_n (lv' := [(3, .int 0), (2, .int 0), (0, .ref (ad 7)), (1, .int x1)]) hx hb dX3_hardness_3 rfl hl (by decide) rfl (fun ls hl => ?_)
  exact B4 N S x1 0 0 _ _ ls h hw (lv_sub hl [2, 3, 1, 0] rfl)
set_option maxHeartbeats 4000000 in
set_option maxRecDepth 100000 in
theorem mX3_holds {N : Nat} {l : Launch} {D : va_G} {ad : Nat → Nat} {cI cZ : ClassId} {S Sz : SS} {x1 : Int32} {rz : Int32} (h : fX3_holds N S x1 = some (rz, Sz)) : MI l D lyX ad cI cZ yX3_holds cX3_holds 2 (some .boolean) 0 [.ref (ad 7), .int x1] S rz Sz := by
  refine x_startI RX3 (by decide) rfl (Nat.le_of_ble_eq_true rfl) ?_
  intro p e s m args below meth c A C hw ls hl
  have hx := C.1
  have hb := C.2.1
  have hown := C.2.2.2.1
  have hts := C.2.2.2.2.1
  have hl : lv_has ls 2 [(0, .ref (ad 7)), (1, .int x1)] := hl
  unfold fX3_holds at h
  refine lv_iload_n hx hb dX3_holds_0 rfl (lv_at hl 1 rfl) ?_
  refine lv_if_lt (tgt := 16) hx hb dX3_holds_1 (by decide) (fun c => ?_) (fun c => ?_)
  · have h := (it_d h).1 c
    refine lv_iconst (v := 0) hx hb dX3_holds_16 (by decide) ?_
    exact x_zret C hw h dX3_holds_17
  · have h := (it_d h).2 c
    refine lv_iload_n hx hb dX3_holds_4 rfl (lv_at hl 1 rfl) ?_
    refine lv_aload_n hx hb dX3_holds_5 rfl (lv_at hl 0 rfl) ?_
    refine x_getI C hw gtX3_21 dX3_holds_6 ?_
    refine lv_icmp_ge (tgt := 16) hx hb dX3_holds_9 (by decide) (fun c => ?_) (fun c => ?_)
    · have h := (it_d h).1 c
      refine lv_iconst (v := 0) hx hb dX3_holds_16 (by decide) ?_
      exact x_zret C hw h dX3_holds_17
    · have h := (it_d h).2 c
      refine lv_iconst (v := 1) hx hb dX3_holds_12 (by decide) ?_
      refine lv_goto (tgt := 17) hx hb dX3_holds_13 (by decide) ?_
      exact x_zret C hw h dX3_holds_17
set_option maxHeartbeats 4000000 in
set_option maxRecDepth 100000 in
theorem mX3_put {N : Nat} {l : Launch} {D : va_G} {ad : Nat → Nat} {cI cZ : ClassId} {S Sz : SS} {x1 x2 x3 x4 : Int32} {rz : Int32} (h : fX3_put N S x1 x2 x3 x4 = some (rz, Sz)) : MI l D lyX ad cI cZ yX3_put cX3_put 5 (some .int) 1 [.ref (ad 7), .int x1, .int x2, .int x3, .int x4] S rz Sz := by
  refine x_startI RX3 (by decide) rfl (Nat.le_of_ble_eq_true rfl) ?_
  intro p e s m args below meth c A C hw ls hl
  have hx := C.1
  have hb := C.2.1
  have hown := C.2.2.2.1
  have hts := C.2.2.2.2.1
  have hl : lv_has ls 5 [(0, .ref (ad 7)), (1, .int x1), (2, .int x2), (3, .int x3), (4, .int x4)] := hl
  unfold fX3_put at h
  refine lv_aload_n hx hb dX3_put_0 rfl (lv_at hl 0 rfl) ?_
  refine x_getR C hw gtX3_15 dX3_put_1 ?_
  refine lv_iload_n hx hb dX3_put_4 rfl (lv_at hl 1 rfl) ?_
  refine lv_iconst (v := 5) hx hb dX3_put_5 (by decide) ?_
  refine lv_imul hx hb dX3_put_6 ?_
  refine lv_iload_n hx hb dX3_put_7 rfl (lv_at hl 2 rfl) ?_
  refine lv_iadd hx hb dX3_put_8 ?_
  refine lv_iload_n hx hb dX3_put_9 rfl (lv_at hl 3 rfl) ?_
  obtain ⟨S1, hv, h⟩ := bb_some h
  refine x_ast C hw alX_39 hv dX3_put_10 (fun H locs hw => ?_)
  refine lv_aload_n hx hb dX3_put_11 rfl (lv_at hl 0 rfl) ?_
  refine x_getR C hw gtX3_18 dX3_put_12 ?_
  refine lv_iload_n hx hb dX3_put_15 rfl (lv_at hl 1 rfl) ?_
  refine lv_iconst (v := 5) hx hb dX3_put_16 (by decide) ?_
  refine lv_imul hx hb dX3_put_17 ?_
  refine lv_iload_n hx hb dX3_put_18 rfl (lv_at hl 2 rfl) ?_
  refine lv_iadd hx hb dX3_put_19 ?_
  refine lv_iload hx hb dX3_put_20 (lv_at hl 4 rfl) ?_
  obtain ⟨S2, hv, h⟩ := bb_some h
  refine x_ast C hw alX_40 hv dX3_put_22 (fun H locs hw => ?_)
  refine lv_aload_n hx hb dX3_put_23 rfl (lv_at hl 0 rfl) ?_
  refine x_getR C hw gtX3_9 dX3_put_24 ?_
  refine lv_iload_n hx hb dX3_put_27 rfl (lv_at hl 1 rfl) ?_
  refine lv_aload_n hx hb dX3_put_28 rfl (lv_at hl 0 rfl) ?_
  refine x_getR C hw gtX3_9 dX3_put_29 ?_
  refine lv_iload_n hx hb dX3_put_32 rfl (lv_at hl 1 rfl) ?_
  obtain ⟨v1, hv, h⟩ := bb_some h
  refine x_ald C hw alX_38 hv dX3_put_33 ?_
  refine lv_iload_n hx hb dX3_put_34 rfl (lv_at hl 2 rfl) ?_
  refine lv_iconst (v := 1) hx hb dX3_put_35 (by decide) ?_
  refine lv_iadd hx hb dX3_put_36 ?_
  refine x_mx C mkX3_25 (Nat.le_of_ble_eq_true rfl) hl.1 (Nat.le_of_ble_eq_true rfl) dX3_put_37 ?_
  obtain ⟨S3, hv, h⟩ := bb_some h
  refine x_ast C hw alX_38 hv dX3_put_40 (fun H locs hw => ?_)
  refine lv_aload_n hx hb dX3_put_41 rfl (lv_at hl 0 rfl) ?_
  refine x_getR C hw gtX3_9 dX3_put_42 ?_
  refine lv_iload_n hx hb dX3_put_45 rfl (lv_at hl 1 rfl) ?_
  obtain ⟨v2, hv, h⟩ := bb_some h
  refine x_ald C hw alX_38 hv dX3_put_46 ?_
  exact x_iret C hw h dX3_put_47
set_option maxHeartbeats 4000000 in
set_option maxRecDepth 100000 in
theorem mX4_add {N : Nat} {l : Launch} {D : va_G} {ad : Nat → Nat} {cI cZ : ClassId} {S Sz : SS} {x1 x2 x3 : Int32} {rz : Int32} (h : fX4_add N S x1 x2 x3 = some (rz, Sz)) : MI l D lyX ad cI cZ yX4_add cX4_add 6 (some .int) 0 [.ref (ad 2), .int x1, .int x2, .int x3] S rz Sz := by
  refine x_startI RX4 (by decide) rfl (Nat.le_of_ble_eq_true rfl) ?_
  intro p e s m args below meth c A C hw ls hl
  have hx := C.1
  have hb := C.2.1
  have hown := C.2.2.2.1
  have hts := C.2.2.2.2.1
  have hl : lv_has ls 6 [(0, .ref (ad 2)), (1, .int x1), (2, .int x2), (3, .int x3)] := hl
  have B85 : ∀ (S : SS) (x4 : Int32) (H : Heap) (locs : List Loc) (ls : Array Slot), fX4_add_b85 N S x4 = some (rz, Sz) → WH D A s.heap lyX ad cI cZ S H locs → lv_has ls 6 [(0, .ref (ad 2)), (4, .int x4)] → W p l e (rmK 0) s m args below meth c H locs 0 0 (MQ below (Qi D lyX ad cI cZ A rz Sz) args s 0 0 A) (F0 m 85 ls []) := by
    intro S x4 H locs ls h hw hl
    unfold fX4_add_b85 at h
    refine lv_aload_n hx hb dX4_add_85 rfl (lv_at hl 0 rfl) ?_
    refine lv_dup hx hb dX4_add_86 rfl ?_
    refine x_getI C hw gtX4_27 dX4_add_87 ?_
    refine lv_iconst (v := 1) hx hb dX4_add_90 (by decide) ?_
    refine lv_iadd hx hb dX4_add_91 ?_
    obtain ⟨S1, hv, h⟩ := bb_some h
    refine x_putO C hw gpX4_27 hv rfl rfl dX4_add_92 (fun H locs hw => ?_)
    refine lv_iload hx hb dX4_add_95 (lv_at hl 1 rfl) ?_
    exact x_iret C hw h dX4_add_97
  have B70 : ∀ (S : SS) (x1 x4 : Int32) (H : Heap) (locs : List Loc) (ls : Array Slot), fX4_add_b70 N S x1 x4 = some (rz, Sz) → WH D A s.heap lyX ad cI cZ S H locs → lv_has ls 6 [(0, .ref (ad 2)), (1, .int x1), (4, .int x4)] → W p l e (rmK 0) s m args below meth c H locs 0 0 (MQ below (Qi D lyX ad cI cZ A rz Sz) args s 0 0 A) (F0 m 70 ls []) := by
    intro S x1 x4 H locs ls h hw hl
    unfold fX4_add_b70 at h
    refine lv_iload_n hx hb dX4_add_70 rfl (lv_at hl 1 rfl) ?_
    refine lv_iconst (v := 1) hx hb dX4_add_71 (by decide) ?_
    refine lv_icmp_ne (tgt := 85) hx hb dX4_add_72 (by decide) (fun c => ?_) (fun c => ?_)
    · have h := (it_d h).2 c
      exact B85 S x4 _ _ ls h hw (lv_sub hl [0, 2] rfl)
    · have h := (it_d h).1 c
      refine lv_aload_n hx hb dX4_add_75 rfl (lv_at hl 0 rfl) ?_
      refine lv_dup hx hb dX4_add_76 rfl ?_
      refine x_getI C hw gtX4_31 dX4_add_77 ?_
      refine lv_iconst (v := 1) hx hb dX4_add_80 (by decide) ?_
      refine lv_iadd hx hb dX4_add_81 ?_
      obtain ⟨S1, hv, h⟩ := bb_some h
      refine x_putO C hw gpX4_31 hv rfl rfl dX4_add_82 (fun H locs hw => ?_)
      exact B85 S1 x4 _ _ ls h hw (lv_sub hl [0, 2] rfl)
  have B43 : ∀ n : Nat, ∀ (S : SS) (x1 x4 x5 : Int32) (H : Heap) (locs : List Loc) (ls : Array Slot), fX4_add_b43 N n S x1 x4 x5 = some (rz, Sz) → WH D A s.heap lyX ad cI cZ S H locs → lv_has ls 6 [(0, .ref (ad 2)), (1, .int x1), (4, .int x4), (5, .int x5)] → W p l e (rmK 0) s m args below meth c H locs 0 0 (MQ below (Qi D lyX ad cI cZ A rz Sz) args s 0 0 A) (F0 m 43 ls []) := by
    intro n
    induction n with
    | zero =>
      intro S x1 x4 x5 H locs ls h hw hl
      rw [fX4_add_b43] at h
      cases h
    | succ n ih43 =>
      intro S x1 x4 x5 H locs ls h hw hl
      rw [fX4_add_b43] at h
      refine lv_iload hx hb dX4_add_43 (lv_at hl 3 rfl) ?_
      refine lv_bipush (v := 8) hx hb dX4_add_45 (by decide) ?_
      refine lv_icmp_ge (tgt := 70) hx hb dX4_add_47 (by decide) (fun c => ?_) (fun c => ?_)
      · have h := (it_d h).1 c
        exact B70 S x1 x4 _ _ ls h hw (lv_sub hl [0, 1, 2] rfl)
      · have h := (it_d h).2 c
        refine lv_aload_n hx hb dX4_add_50 rfl (lv_at hl 0 rfl) ?_
        refine x_getR C hw gtX4_24 dX4_add_51 ?_
        refine lv_iload hx hb dX4_add_54 (lv_at hl 2 rfl) ?_
        refine lv_bipush (v := 8) hx hb dX4_add_56 (by decide) ?_
        refine lv_imul hx hb dX4_add_58 ?_
        refine lv_iload hx hb dX4_add_59 (lv_at hl 3 rfl) ?_
        refine lv_iadd hx hb dX4_add_61 ?_
        refine lv_iconst (v := (-1)) hx hb dX4_add_62 (by decide) ?_
        obtain ⟨S1, hv, h⟩ := bb_some h
        refine x_ast C hw alX_14 hv dX4_add_63 (fun H locs hw => ?_)
        refine lv_iinc (v := (x5 + 1)) (lv' := [(5, .int (x5 + 1)), (0, .ref (ad 2)), (1, .int x1), (4, .int x4)]) hx hb dX4_add_64 hl (k := 3) rfl rfl (by decide) rfl (fun ls hl => ?_)
        refine lv_goto (tgt := 43) hx hb dX4_add_67 (by decide) ?_
        exact ih43 S1 x1 x4 (x5 + 1) _ _ ls h hw (lv_sub hl [1, 2, 3, 0] rfl)
  unfold fX4_add at h
  refine lv_aload_n hx hb dX4_add_0 rfl (lv_at hl 0 rfl) ?_
  refine x_getI C hw gtX4_27 dX4_add_1 ?_
  refine lv_istore (lv' := [(4, .int (S.1 1)), (0, .ref (ad 2)), (1, .int x1), (2, .int x2), (3, .int x3)]) hx hb dX4_add_4 hl (by decide) rfl (fun ls hl => ?_)
  refine lv_aload_n hx hb dX4_add_6 rfl (lv_at hl 1 rfl) ?_
  refine x_getR C hw gtX4_9 dX4_add_7 ?_
  refine lv_iload hx hb dX4_add_10 (lv_at hl 0 rfl) ?_
  refine lv_iload_n hx hb dX4_add_12 rfl (lv_at hl 2 rfl) ?_
  obtain ⟨S1, hv, h⟩ := bb_some h
  refine x_ast C hw alX_10 hv dX4_add_13 (fun H locs hw => ?_)
  refine lv_aload_n hx hb dX4_add_14 rfl (lv_at hl 1 rfl) ?_
  refine x_getR C hw gtX4_15 dX4_add_15 ?_
  refine lv_iload hx hb dX4_add_18 (lv_at hl 0 rfl) ?_
  refine lv_iload_n hx hb dX4_add_20 rfl (lv_at hl 3 rfl) ?_
  obtain ⟨S2, hv, h⟩ := bb_some h
  refine x_ast C hw alX_11 hv dX4_add_21 (fun H locs hw => ?_)
  refine lv_aload_n hx hb dX4_add_22 rfl (lv_at hl 1 rfl) ?_
  refine x_getR C hw gtX4_18 dX4_add_23 ?_
  refine lv_iload hx hb dX4_add_26 (lv_at hl 0 rfl) ?_
  refine lv_iload_n hx hb dX4_add_28 rfl (lv_at hl 4 rfl) ?_
  obtain ⟨S3, hv, h⟩ := bb_some h
  refine x_ast C hw alX_12 hv dX4_add_29 (fun H locs hw => ?_)
  refine lv_aload_n hx hb dX4_add_30 rfl (lv_at hl 1 rfl) ?_
  refine x_getR C hw gtX4_21 dX4_add_31 ?_
  refine lv_iload hx hb dX4_add_34 (lv_at hl 0 rfl) ?_
  refine lv_sipush (v := 30000) hx hb dX4_add_36 (by decide) ?_
  obtain ⟨S4, hv, h⟩ := bb_some h
  refine x_ast C hw alX_13 hv dX4_add_39 (fun H locs hw => ?_)
  refine lv_iconst (v := 0) hx hb dX4_add_40 (by decide) ?_
  refine lv_istore (lv' := [(5, .int 0), (4, .int (S.1 1)), (0, .ref (ad 2)), (1, .int x1), (2, .int x2), (3, .int x3)]) hx hb dX4_add_41 hl (by decide) rfl (fun ls hl => ?_)
  exact B43 N S4 x1 (S.1 1) 0 _ _ ls h hw (lv_sub hl [2, 3, 1, 0] rfl)
set_option maxHeartbeats 4000000 in
set_option maxRecDepth 100000 in
theorem mX4_areAll {N : Nat} {l : Launch} {D : va_G} {ad : Nat → Nat} {cI cZ : ClassId} {S Sz : SS} {x1 : Int32} {rz : Int32} (h : fX4_areAll N S x1 = some (rz, Sz)) : MI l D lyX ad cI cZ yX4_areAll cX4_areAll 2 (some .boolean) 0 [.ref (ad 2), .int x1] S rz Sz := by
  refine x_startI RX4 (by decide) rfl (Nat.le_of_ble_eq_true rfl) ?_
  intro p e s m args below meth c A C hw ls hl
  have hx := C.1
  have hb := C.2.1
  have hown := C.2.2.2.1
  have hts := C.2.2.2.2.1
  have hl : lv_has ls 2 [(0, .ref (ad 2)), (1, .int x1)] := hl
  unfold fX4_areAll at h
  refine lv_iload_n hx hb dX4_areAll_0 rfl (lv_at hl 1 rfl) ?_
  refine lv_aload_n hx hb dX4_areAll_1 rfl (lv_at hl 0 rfl) ?_
  refine x_getI C hw gtX4_27 dX4_areAll_2 ?_
  refine lv_iushr (v := ((x1 : Int32).toUInt32 >>> (((S.1 1) : Int32).toUInt32 &&& Int32.toUInt32 31)).toInt32) hx hb dX4_areAll_5 rfl ?_
  refine lv_if_ne (tgt := 13) hx hb dX4_areAll_6 (by decide) (fun c => ?_) (fun c => ?_)
  · have h := (it_d h).2 c
    refine lv_iconst (v := 0) hx hb dX4_areAll_13 (by decide) ?_
    exact x_zret C hw h dX4_areAll_14
  · have h := (it_d h).1 c
    refine lv_iconst (v := 1) hx hb dX4_areAll_9 (by decide) ?_
    refine lv_goto (tgt := 14) hx hb dX4_areAll_10 (by decide) ?_
    exact x_zret C hw h dX4_areAll_14
set_option maxHeartbeats 4000000 in
set_option maxRecDepth 100000 in
theorem mX4_hasRoomFor {N : Nat} {l : Launch} {D : va_G} {ad : Nat → Nat} {cI cZ : ClassId} {S Sz : SS} {x1 : Int32} {rz : Int32} (h : fX4_hasRoomFor N S x1 = some (rz, Sz)) : MI l D lyX ad cI cZ yX4_hasRoomFor cX4_hasRoomFor 2 (some .boolean) 0 [.ref (ad 2), .int x1] S rz Sz := by
  refine x_startI RX4 (by decide) rfl (Nat.le_of_ble_eq_true rfl) ?_
  intro p e s m args below meth c A C hw ls hl
  have hx := C.1
  have hb := C.2.1
  have hown := C.2.2.2.1
  have hts := C.2.2.2.2.1
  have hl : lv_has ls 2 [(0, .ref (ad 2)), (1, .int x1)] := hl
  unfold fX4_hasRoomFor at h
  refine lv_aload_n hx hb dX4_hasRoomFor_0 rfl (lv_at hl 0 rfl) ?_
  refine x_getI C hw gtX4_27 dX4_hasRoomFor_1 ?_
  refine lv_bipush (v := 20) hx hb dX4_hasRoomFor_4 (by decide) ?_
  refine lv_icmp_ge (tgt := 27) hx hb dX4_hasRoomFor_6 (by decide) (fun c => ?_) (fun c => ?_)
  · have h := (it_d h).1 c
    refine lv_iconst (v := 0) hx hb dX4_hasRoomFor_27 (by decide) ?_
    exact x_zret C hw h dX4_hasRoomFor_28
  · have h := (it_d h).2 c
    refine lv_iload_n hx hb dX4_hasRoomFor_9 rfl (lv_at hl 1 rfl) ?_
    refine lv_iconst (v := 1) hx hb dX4_hasRoomFor_10 (by decide) ?_
    refine lv_icmp_ne (tgt := 23) hx hb dX4_hasRoomFor_11 (by decide) (fun c => ?_) (fun c => ?_)
    · have h := (it_d h).2 c
      refine lv_iconst (v := 1) hx hb dX4_hasRoomFor_23 (by decide) ?_
      refine lv_goto (tgt := 28) hx hb dX4_hasRoomFor_24 (by decide) ?_
      exact x_zret C hw h dX4_hasRoomFor_28
    · have h := (it_d h).1 c
      refine lv_aload_n hx hb dX4_hasRoomFor_14 rfl (lv_at hl 0 rfl) ?_
      refine x_getI C hw gtX4_31 dX4_hasRoomFor_15 ?_
      refine lv_bipush (v := 6) hx hb dX4_hasRoomFor_18 (by decide) ?_
      refine lv_icmp_ge (tgt := 27) hx hb dX4_hasRoomFor_20 (by decide) (fun c => ?_) (fun c => ?_)
      · have h := (it_d h).1 c
        refine lv_iconst (v := 0) hx hb dX4_hasRoomFor_27 (by decide) ?_
        exact x_zret C hw h dX4_hasRoomFor_28
      · have h := (it_d h).2 c
        refine lv_iconst (v := 1) hx hb dX4_hasRoomFor_23 (by decide) ?_
        refine lv_goto (tgt := 28) hx hb dX4_hasRoomFor_24 (by decide) ?_
        exact x_zret C hw h dX4_hasRoomFor_28
set_option maxHeartbeats 4000000 in
set_option maxRecDepth 100000 in
theorem mX4_holds {N : Nat} {l : Launch} {D : va_G} {ad : Nat → Nat} {cI cZ : ClassId} {S Sz : SS} {x1 : Int32} {rz : Int32} (h : fX4_holds N S x1 = some (rz, Sz)) : MI l D lyX ad cI cZ yX4_holds cX4_holds 2 (some .boolean) 0 [.ref (ad 2), .int x1] S rz Sz := by
  refine x_startI RX4 (by decide) rfl (Nat.le_of_ble_eq_true rfl) ?_
  intro p e s m args below meth c A C hw ls hl
  have hx := C.1
  have hb := C.2.1
  have hown := C.2.2.2.1
  have hts := C.2.2.2.2.1
  have hl : lv_has ls 2 [(0, .ref (ad 2)), (1, .int x1)] := hl
  unfold fX4_holds at h
  refine lv_iload_n hx hb dX4_holds_0 rfl (lv_at hl 1 rfl) ?_
  refine lv_if_lt (tgt := 16) hx hb dX4_holds_1 (by decide) (fun c => ?_) (fun c => ?_)
  · have h := (it_d h).1 c
    refine lv_iconst (v := 0) hx hb dX4_holds_16 (by decide) ?_
    exact x_zret C hw h dX4_holds_17
  · have h := (it_d h).2 c
    refine lv_iload_n hx hb dX4_holds_4 rfl (lv_at hl 1 rfl) ?_
    refine lv_aload_n hx hb dX4_holds_5 rfl (lv_at hl 0 rfl) ?_
    refine x_getI C hw gtX4_27 dX4_holds_6 ?_
    refine lv_icmp_ge (tgt := 16) hx hb dX4_holds_9 (by decide) (fun c => ?_) (fun c => ?_)
    · have h := (it_d h).1 c
      refine lv_iconst (v := 0) hx hb dX4_holds_16 (by decide) ?_
      exact x_zret C hw h dX4_holds_17
    · have h := (it_d h).2 c
      refine lv_iconst (v := 1) hx hb dX4_holds_12 (by decide) ?_
      refine lv_goto (tgt := 17) hx hb dX4_holds_13 (by decide) ?_
      exact x_zret C hw h dX4_holds_17
set_option maxHeartbeats 4000000 in
set_option maxRecDepth 100000 in
theorem mX5_add {N : Nat} {l : Launch} {D : va_G} {ad : Nat → Nat} {cI cZ : ClassId} {S Sz : SS} {x1 x2 x3 x4 x5 : Int32} (h : fX5_add N S x1 x2 x3 x4 x5 = some Sz) : MV l D lyX ad cI cZ yX5_add cX5_add 6 0 [.ref (ad 3), .int x1, .int x2, .int x3, .int x4, .int x5] S Sz := by
  refine x_startV RX5 (by decide) rfl (Nat.le_of_ble_eq_true rfl) ?_
  intro p e s m args below meth c A C hw ls hl
  have hx := C.1
  have hb := C.2.1
  have hown := C.2.2.2.1
  have hts := C.2.2.2.2.1
  have hl : lv_has ls 6 [(0, .ref (ad 3)), (1, .int x1), (2, .int x2), (3, .int x3), (4, .int x4), (5, .int x5)] := hl
  unfold fX5_add at h
  refine lv_aload_n hx hb dX5_add_0 rfl (lv_at hl 0 rfl) ?_
  refine x_getR C hw gtX5_9 dX5_add_1 ?_
  refine lv_aload_n hx hb dX5_add_4 rfl (lv_at hl 0 rfl) ?_
  refine x_getI C hw gtX5_30 dX5_add_5 ?_
  refine lv_iload_n hx hb dX5_add_8 rfl (lv_at hl 1 rfl) ?_
  obtain ⟨S1, hv, h⟩ := bb_some h
  refine x_ast C hw alX_15 hv dX5_add_9 (fun H locs hw => ?_)
  refine lv_aload_n hx hb dX5_add_10 rfl (lv_at hl 0 rfl) ?_
  refine x_getR C hw gtX5_15 dX5_add_11 ?_
  refine lv_aload_n hx hb dX5_add_14 rfl (lv_at hl 0 rfl) ?_
  refine x_getI C hw gtX5_30 dX5_add_15 ?_
  refine lv_iload_n hx hb dX5_add_18 rfl (lv_at hl 2 rfl) ?_
  obtain ⟨S2, hv, h⟩ := bb_some h
  refine x_ast C hw alX_16 hv dX5_add_19 (fun H locs hw => ?_)
  refine lv_aload_n hx hb dX5_add_20 rfl (lv_at hl 0 rfl) ?_
  refine x_getR C hw gtX5_18 dX5_add_21 ?_
  refine lv_aload_n hx hb dX5_add_24 rfl (lv_at hl 0 rfl) ?_
  refine x_getI C hw gtX5_30 dX5_add_25 ?_
  refine lv_iload_n hx hb dX5_add_28 rfl (lv_at hl 3 rfl) ?_
  obtain ⟨S3, hv, h⟩ := bb_some h
  refine x_ast C hw alX_17 hv dX5_add_29 (fun H locs hw => ?_)
  refine lv_aload_n hx hb dX5_add_30 rfl (lv_at hl 0 rfl) ?_
  refine x_getR C hw gtX5_21 dX5_add_31 ?_
  refine lv_aload_n hx hb dX5_add_34 rfl (lv_at hl 0 rfl) ?_
  refine x_getI C hw gtX5_30 dX5_add_35 ?_
  refine lv_iload hx hb dX5_add_38 (lv_at hl 4 rfl) ?_
  obtain ⟨S4, hv, h⟩ := bb_some h
  refine x_ast C hw alX_18 hv dX5_add_40 (fun H locs hw => ?_)
  refine lv_aload_n hx hb dX5_add_41 rfl (lv_at hl 0 rfl) ?_
  refine x_getR C hw gtX5_24 dX5_add_42 ?_
  refine lv_aload_n hx hb dX5_add_45 rfl (lv_at hl 0 rfl) ?_
  refine x_getI C hw gtX5_30 dX5_add_46 ?_
  refine lv_iload hx hb dX5_add_49 (lv_at hl 5 rfl) ?_
  refine lv_iconst (v := 4) hx hb dX5_add_51 (by decide) ?_
  refine lv_ishr hx hb dX5_add_52 ?_
  obtain ⟨S5, hv, h⟩ := bb_some h
  refine x_ast C hw alX_19 hv dX5_add_53 (fun H locs hw => ?_)
  refine lv_aload_n hx hb dX5_add_54 rfl (lv_at hl 0 rfl) ?_
  refine x_getR C hw gtX5_27 dX5_add_55 ?_
  refine lv_aload_n hx hb dX5_add_58 rfl (lv_at hl 0 rfl) ?_
  refine x_getI C hw gtX5_30 dX5_add_59 ?_
  refine lv_iload hx hb dX5_add_62 (lv_at hl 5 rfl) ?_
  refine lv_bipush (v := 15) hx hb dX5_add_64 (by decide) ?_
  refine lv_iand hx hb dX5_add_66 ?_
  obtain ⟨S6, hv, h⟩ := bb_some h
  refine x_ast C hw alX_20 hv dX5_add_67 (fun H locs hw => ?_)
  refine lv_aload_n hx hb dX5_add_68 rfl (lv_at hl 0 rfl) ?_
  refine lv_dup hx hb dX5_add_69 rfl ?_
  refine x_getI C hw gtX5_30 dX5_add_70 ?_
  refine lv_iconst (v := 1) hx hb dX5_add_73 (by decide) ?_
  refine lv_iadd hx hb dX5_add_74 ?_
  obtain ⟨S7, hv, h⟩ := bb_some h
  refine x_putO C hw gpX5_30 hv rfl rfl dX5_add_75 (fun H locs hw => ?_)
  exact x_vret C hw h dX5_add_78
set_option maxHeartbeats 4000000 in
set_option maxRecDepth 100000 in
theorem mX6_add {N : Nat} {l : Launch} {D : va_G} {ad : Nat → Nat} {cI cZ : ClassId} {S Sz : SS} {x1 x2 x3 : Int32} (h : fX6_add N S x1 x2 x3 = some Sz) : MV l D lyX ad cI cZ yX6_add cX6_add 4 0 [.ref (ad 5), .int x1, .int x2, .int x3] S Sz := by
  refine x_startV RX6 (by decide) rfl (Nat.le_of_ble_eq_true rfl) ?_
  intro p e s m args below meth c A C hw ls hl
  have hx := C.1
  have hb := C.2.1
  have hown := C.2.2.2.1
  have hts := C.2.2.2.2.1
  have hl : lv_has ls 4 [(0, .ref (ad 5)), (1, .int x1), (2, .int x2), (3, .int x3)] := hl
  unfold fX6_add at h
  refine lv_aload_n hx hb dX6_add_0 rfl (lv_at hl 0 rfl) ?_
  refine x_getR C hw gtX6_9 dX6_add_1 ?_
  refine lv_aload_n hx hb dX6_add_4 rfl (lv_at hl 0 rfl) ?_
  refine x_getI C hw gtX6_21 dX6_add_5 ?_
  refine lv_iload_n hx hb dX6_add_8 rfl (lv_at hl 1 rfl) ?_
  obtain ⟨S1, hv, h⟩ := bb_some h
  refine x_ast C hw alX_30 hv dX6_add_9 (fun H locs hw => ?_)
  refine lv_aload_n hx hb dX6_add_10 rfl (lv_at hl 0 rfl) ?_
  refine x_getR C hw gtX6_15 dX6_add_11 ?_
  refine lv_aload_n hx hb dX6_add_14 rfl (lv_at hl 0 rfl) ?_
  refine x_getI C hw gtX6_21 dX6_add_15 ?_
  refine lv_iload_n hx hb dX6_add_18 rfl (lv_at hl 2 rfl) ?_
  obtain ⟨S2, hv, h⟩ := bb_some h
  refine x_ast C hw alX_31 hv dX6_add_19 (fun H locs hw => ?_)
  refine lv_aload_n hx hb dX6_add_20 rfl (lv_at hl 0 rfl) ?_
  refine x_getR C hw gtX6_18 dX6_add_21 ?_
  refine lv_aload_n hx hb dX6_add_24 rfl (lv_at hl 0 rfl) ?_
  refine x_getI C hw gtX6_21 dX6_add_25 ?_
  refine lv_iload_n hx hb dX6_add_28 rfl (lv_at hl 3 rfl) ?_
  obtain ⟨S3, hv, h⟩ := bb_some h
  refine x_ast C hw alX_32 hv dX6_add_29 (fun H locs hw => ?_)
  refine lv_aload_n hx hb dX6_add_30 rfl (lv_at hl 0 rfl) ?_
  refine lv_dup hx hb dX6_add_31 rfl ?_
  refine x_getI C hw gtX6_21 dX6_add_32 ?_
  refine lv_iconst (v := 1) hx hb dX6_add_35 (by decide) ?_
  refine lv_iadd hx hb dX6_add_36 ?_
  obtain ⟨S4, hv, h⟩ := bb_some h
  refine x_putO C hw gpX6_21 hv rfl rfl dX6_add_37 (fun H locs hw => ?_)
  exact x_vret C hw h dX6_add_40
set_option maxHeartbeats 4000000 in
set_option maxRecDepth 100000 in
theorem mX7_isWithin {N : Nat} {l : Launch} {D : va_G} {ad : Nat → Nat} {cI cZ : ClassId} {S Sz : SS} {x0 x1 x2 : Int32} {rz : Int32} (h : fX7_isWithin N S x0 x1 x2 = some (rz, Sz)) : MI l D lyX ad cI cZ yX7_isWithin cX7_isWithin 3 (some .boolean) 0 [.int x0, .int x1, .int x2] S rz Sz := by
  refine x_startI RX7 (by decide) rfl (Nat.le_of_ble_eq_true rfl) ?_
  intro p e s m args below meth c A C hw ls hl
  have hx := C.1
  have hb := C.2.1
  have hown := C.2.2.2.1
  have hts := C.2.2.2.2.1
  have hl : lv_has ls 3 [(0, .int x0), (1, .int x1), (2, .int x2)] := hl
  unfold fX7_isWithin at h
  refine lv_iload_n hx hb dX7_isWithin_0 rfl (lv_at hl 0 rfl) ?_
  refine lv_iload_n hx hb dX7_isWithin_1 rfl (lv_at hl 1 rfl) ?_
  refine lv_icmp_lt (tgt := 14) hx hb dX7_isWithin_2 (by decide) (fun c => ?_) (fun c => ?_)
  · have h := (it_d h).1 c
    refine lv_iconst (v := 0) hx hb dX7_isWithin_14 (by decide) ?_
    exact x_zret C hw h dX7_isWithin_15
  · have h := (it_d h).2 c
    refine lv_iload_n hx hb dX7_isWithin_5 rfl (lv_at hl 0 rfl) ?_
    refine lv_iload_n hx hb dX7_isWithin_6 rfl (lv_at hl 2 rfl) ?_
    refine lv_icmp_gt (tgt := 14) hx hb dX7_isWithin_7 (by decide) (fun c => ?_) (fun c => ?_)
    · have h := (it_d h).1 c
      refine lv_iconst (v := 0) hx hb dX7_isWithin_14 (by decide) ?_
      exact x_zret C hw h dX7_isWithin_15
    · have h := (it_d h).2 c
      refine lv_iconst (v := 1) hx hb dX7_isWithin_10 (by decide) ?_
      refine lv_goto (tgt := 15) hx hb dX7_isWithin_11 (by decide) ?_
      exact x_zret C hw h dX7_isWithin_15
set_option maxHeartbeats 4000000 in
set_option maxRecDepth 100000 in
theorem mX7_finding {N : Nat} {l : Launch} {D : va_G} {ad : Nat → Nat} {cI cZ : ClassId} {S Sz : SS} {x1 : Int32} {rz : Int32} (h : fX7_finding N S x1 = some (rz, Sz)) : MI l D lyX ad cI cZ yX7_finding cX7_finding 3 (some .int) 1 [.ref (ad 0), .int x1] S rz Sz := by
  refine x_startI RX7 (by decide) rfl (Nat.le_of_ble_eq_true rfl) ?_
  intro p e s m args below meth c A C hw ls hl
  have hx := C.1
  have hb := C.2.1
  have hown := C.2.2.2.1
  have hts := C.2.2.2.2.1
  have hl : lv_has ls 3 [(0, .ref (ad 0)), (1, .int x1)] := hl
  unfold fX7_finding at h
  refine lv_ldc (v := (-1000000)) hx hb hown (hts _ kwX7_236) dX7_finding_0 ?_
  refine lv_iload_n hx hb dX7_finding_2 rfl (lv_at hl 1 rfl) ?_
  refine lv_isub hx hb dX7_finding_3 ?_
  refine lv_istore_n (lv' := [(2, .int ((-1000000) - x1)), (0, .ref (ad 0)), (1, .int x1)]) hx hb dX7_finding_4 rfl hl (by decide) rfl (fun ls hl => ?_)
  refine lv_iload_n hx hb dX7_finding_5 rfl (lv_at hl 0 rfl) ?_
  refine lv_iconst (v := 1) hx hb dX7_finding_6 (by decide) ?_
  refine lv_iconst (v := 5) hx hb dX7_finding_7 (by decide) ?_
  obtain ⟨r1, S1, hv, h⟩ := b2_some h
  refine x_callSI C hw (mX7_isWithin hv) lkX7_44 rfl (Nat.le_of_ble_eq_true rfl) hl.1 rfl (Nat.le_of_ble_eq_true rfl) dX7_finding_8 (fun H locs hw => ?_)
  refine lv_if_eq (tgt := 24) hx hb dX7_finding_11 (by decide) (fun c => ?_) (fun c => ?_)
  · have h := (it_d h).1 c
    refine lv_iload_n hx hb dX7_finding_24 rfl (lv_at hl 2 rfl) ?_
    exact x_iret C hw h dX7_finding_25
  · have h := (it_d h).2 c
    refine lv_aload_n hx hb dX7_finding_14 rfl (lv_at hl 1 rfl) ?_
    refine x_getR C hw gtX7_34 dX7_finding_15 ?_
    refine lv_iload_n hx hb dX7_finding_18 rfl (lv_at hl 0 rfl) ?_
    refine lv_dup2_11 hx hb dX7_finding_19 rfl rfl ?_
    obtain ⟨v1, hv, h⟩ := bb_some h
    refine x_ald C hw alX_9 hv dX7_finding_20 ?_
    refine lv_iconst (v := 1) hx hb dX7_finding_21 (by decide) ?_
    refine lv_iadd hx hb dX7_finding_22 ?_
    obtain ⟨S2, hv, h⟩ := bb_some h
    refine x_ast C hw alX_9 hv dX7_finding_23 (fun H locs hw => ?_)
    refine lv_iload_n hx hb dX7_finding_24 rfl (lv_at hl 2 rfl) ?_
    exact x_iret C hw h dX7_finding_25
set_option maxHeartbeats 4000000 in
set_option maxRecDepth 100000 in
theorem mX7_apart {N : Nat} {l : Launch} {D : va_G} {ad : Nat → Nat} {cI cZ : ClassId} {S Sz : SS} {x1 x2 : Int32} {rz : Int32} (h : fX7_apart N S x1 x2 = some (rz, Sz)) : MI l D lyX ad cI cZ yX7_apart cX7_apart 3 (some .int) 3 [.ref (ad 0), .int x1, .int x2] S rz Sz := by
  refine x_startI RX7 (by decide) rfl (Nat.le_of_ble_eq_true rfl) ?_
  intro p e s m args below meth c A C hw ls hl
  have hx := C.1
  have hb := C.2.1
  have hown := C.2.2.2.1
  have hts := C.2.2.2.2.1
  have hl : lv_has ls 3 [(0, .ref (ad 0)), (1, .int x1), (2, .int x2)] := hl
  have B21 : ∀ (S : SS) (H : Heap) (locs : List Loc) (ls : Array Slot), fX7_apart_b21 N S = some (rz, Sz) → WH D A s.heap lyX ad cI cZ S H locs → lv_has ls 3 [(0, .ref (ad 0))] → W p l e (rmK 3) s m args below meth c H locs 0 0 (MQ below (Qi D lyX ad cI cZ A rz Sz) args s 0 0 A) (F0 m 21 ls []) := by
    intro S  H locs ls h hw hl
    unfold fX7_apart_b21 at h
    refine lv_aload_n hx hb dX7_apart_21 rfl (lv_at hl 0 rfl) ?_
    refine lv_ldc (v := (-1000001)) hx hb hown (hts _ kwX7_48) dX7_apart_22 ?_
    obtain ⟨r1, S1, hv, h⟩ := b2_some h
    refine x_callVI C hw (mX7_finding hv) lkX7_49 rfl (Nat.le_of_ble_eq_true rfl) hl.1 rfl (Nat.le_of_ble_eq_true rfl) dX7_apart_24 (fun H locs hw => ?_)
    exact x_iret C hw h dX7_apart_27
  unfold fX7_apart at h
  refine lv_aload_n hx hb dX7_apart_0 rfl (lv_at hl 0 rfl) ?_
  refine x_getR C hw gtX7_26 dX7_apart_1 ?_
  refine lv_iload_n hx hb dX7_apart_4 rfl (lv_at hl 1 rfl) ?_
  obtain ⟨r1, S1, hv, h⟩ := b2_some h
  refine x_callVI C hw (mX3_holds hv) lkX7_212 rfl (Nat.le_of_ble_eq_true rfl) hl.1 rfl (Nat.le_of_ble_eq_true rfl) dX7_apart_5 (fun H locs hw => ?_)
  refine lv_if_eq (tgt := 21) hx hb dX7_apart_8 (by decide) (fun c => ?_) (fun c => ?_)
  · have h := (it_d h).1 c
    exact B21 S1 _ _ ls h hw (lv_sub hl [0] rfl)
  · have h := (it_d h).2 c
    refine lv_iload_n hx hb dX7_apart_11 rfl (lv_at hl 2 rfl) ?_
    refine lv_iconst (v := 0) hx hb dX7_apart_12 (by decide) ?_
    refine lv_bipush (v := 100) hx hb dX7_apart_13 (by decide) ?_
    obtain ⟨r2, S2, hv, h⟩ := b2_some h
    refine x_callSI C hw (mX7_isWithin hv) lkX7_44 rfl (Nat.le_of_ble_eq_true rfl) hl.1 rfl (Nat.le_of_ble_eq_true rfl) dX7_apart_15 (fun H locs hw => ?_)
    refine lv_if_ne (tgt := 28) hx hb dX7_apart_18 (by decide) (fun c => ?_) (fun c => ?_)
    · have h := (it_d h).2 c
      refine lv_aload_n hx hb dX7_apart_28 rfl (lv_at hl 0 rfl) ?_
      refine x_getR C hw gtX7_26 dX7_apart_29 ?_
      refine lv_iload_n hx hb dX7_apart_32 rfl (lv_at hl 1 rfl) ?_
      obtain ⟨r3, S3, hv, h⟩ := b2_some h
      refine x_callVI C hw (mX3_isWhole hv) lkX7_220 rfl (Nat.le_of_ble_eq_true rfl) hl.1 rfl (Nat.le_of_ble_eq_true rfl) dX7_apart_33 (fun H locs hw => ?_)
      refine lv_if_ne (tgt := 46) hx hb dX7_apart_36 (by decide) (fun c => ?_) (fun c => ?_)
      · have h := (it_d h).2 c
        refine lv_aload_n hx hb dX7_apart_46 rfl (lv_at hl 0 rfl) ?_
        refine x_getR C hw gtX7_26 dX7_apart_47 ?_
        refine lv_iload_n hx hb dX7_apart_50 rfl (lv_at hl 1 rfl) ?_
        refine lv_iload_n hx hb dX7_apart_51 rfl (lv_at hl 2 rfl) ?_
        obtain ⟨r4, S4, hv, h⟩ := b2_some h
        refine x_callVI C hw (mX3_awayFromMiddle hv) lkX7_226 rfl (Nat.le_of_ble_eq_true rfl) hl.1 rfl (Nat.le_of_ble_eq_true rfl) dX7_apart_52 (fun H locs hw => ?_)
        exact x_iret C hw h dX7_apart_55
      · have h := (it_d h).1 c
        refine lv_aload_n hx hb dX7_apart_39 rfl (lv_at hl 0 rfl) ?_
        refine lv_ldc (v := (-1000003)) hx hb hown (hts _ kwX7_151) dX7_apart_40 ?_
        obtain ⟨r5, S5, hv, h⟩ := b2_some h
        refine x_callVI C hw (mX7_finding hv) lkX7_49 rfl (Nat.le_of_ble_eq_true rfl) hl.1 rfl (Nat.le_of_ble_eq_true rfl) dX7_apart_42 (fun H locs hw => ?_)
        exact x_iret C hw h dX7_apart_45
    · have h := (it_d h).1 c
      exact B21 S2 _ _ ls h hw (lv_sub hl [0] rfl)
set_option maxHeartbeats 4000000 in
set_option maxRecDepth 100000 in
theorem mX7_isKind {N : Nat} {l : Launch} {D : va_G} {ad : Nat → Nat} {cI cZ : ClassId} {S Sz : SS} {x0 : Int32} {rz : Int32} (h : fX7_isKind N S x0 = some (rz, Sz)) : MI l D lyX ad cI cZ yX7_isKind cX7_isKind 1 (some .boolean) 1 [.int x0] S rz Sz := by
  refine x_startI RX7 (by decide) rfl (Nat.le_of_ble_eq_true rfl) ?_
  intro p e s m args below meth c A C hw ls hl
  have hx := C.1
  have hb := C.2.1
  have hown := C.2.2.2.1
  have hts := C.2.2.2.2.1
  have hl : lv_has ls 1 [(0, .int x0)] := hl
  unfold fX7_isKind at h
  refine lv_iload_n hx hb dX7_isKind_0 rfl (lv_at hl 0 rfl) ?_
  refine lv_iconst (v := 0) hx hb dX7_isKind_1 (by decide) ?_
  refine lv_iconst (v := 2) hx hb dX7_isKind_2 (by decide) ?_
  obtain ⟨r1, S1, hv, h⟩ := b2_some h
  refine x_callSI C hw (mX7_isWithin hv) lkX7_44 rfl (Nat.le_of_ble_eq_true rfl) hl.1 rfl (Nat.le_of_ble_eq_true rfl) dX7_isKind_3 (fun H locs hw => ?_)
  exact x_zret C hw h dX7_isKind_6
set_option maxHeartbeats 4000000 in
set_option maxRecDepth 100000 in
theorem mX7_as {N : Nat} {l : Launch} {D : va_G} {ad : Nat → Nat} {cI cZ : ClassId} {S Sz : SS} {x1 x2 : Int32} {rz : Int32} (h : fX7_as N S x1 x2 = some (rz, Sz)) : MI l D lyX ad cI cZ yX7_as cX7_as 3 (some .int) 2 [.ref (ad 0), .int x1, .int x2] S rz Sz := by
  refine x_startI RX7 (by decide) rfl (Nat.le_of_ble_eq_true rfl) ?_
  intro p e s m args below meth c A C hw ls hl
  have hx := C.1
  have hb := C.2.1
  have hown := C.2.2.2.1
  have hts := C.2.2.2.2.1
  have hl : lv_has ls 3 [(0, .ref (ad 0)), (1, .int x1), (2, .int x2)] := hl
  have B55 : ∀ (S : SS) (x1 : Int32) (H : Heap) (locs : List Loc) (ls : Array Slot), fX7_as_b55 N S x1 = some (rz, Sz) → WH D A s.heap lyX ad cI cZ S H locs → lv_has ls 3 [(0, .ref (ad 0)), (1, .int x1)] → W p l e (rmK 2) s m args below meth c H locs 0 0 (MQ below (Qi D lyX ad cI cZ A rz Sz) args s 0 0 A) (F0 m 55 ls []) := by
    intro S x1 H locs ls h hw hl
    unfold fX7_as_b55 at h
    refine lv_aload_n hx hb dX7_as_55 rfl (lv_at hl 0 rfl) ?_
    refine x_getR C hw gtX7_12 dX7_as_56 ?_
    refine x_getR C hw gtX7_53 dX7_as_59 ?_
    refine x_getR C hw gtX7_74 dX7_as_62 ?_
    refine lv_iload_n hx hb dX7_as_65 rfl (lv_at hl 1 rfl) ?_
    obtain ⟨v1, hv, h⟩ := bb_some h
    refine x_ald C hw alX_12 hv dX7_as_66 ?_
    exact x_iret C hw h dX7_as_67
  have B21 : ∀ (S : SS) (H : Heap) (locs : List Loc) (ls : Array Slot), fX7_as_b21 N S = some (rz, Sz) → WH D A s.heap lyX ad cI cZ S H locs → lv_has ls 3 [(0, .ref (ad 0))] → W p l e (rmK 2) s m args below meth c H locs 0 0 (MQ below (Qi D lyX ad cI cZ A rz Sz) args s 0 0 A) (F0 m 21 ls []) := by
    intro S  H locs ls h hw hl
    unfold fX7_as_b21 at h
    refine lv_aload_n hx hb dX7_as_21 rfl (lv_at hl 0 rfl) ?_
    refine lv_ldc (v := (-1000001)) hx hb hown (hts _ kwX7_48) dX7_as_22 ?_
    obtain ⟨r1, S1, hv, h⟩ := b2_some h
    refine x_callVI C hw (mX7_finding hv) lkX7_49 rfl (Nat.le_of_ble_eq_true rfl) hl.1 rfl (Nat.le_of_ble_eq_true rfl) dX7_as_24 (fun H locs hw => ?_)
    exact x_iret C hw h dX7_as_27
  unfold fX7_as at h
  refine lv_aload_n hx hb dX7_as_0 rfl (lv_at hl 0 rfl) ?_
  refine x_getR C hw gtX7_12 dX7_as_1 ?_
  refine x_getR C hw gtX7_53 dX7_as_4 ?_
  refine lv_iload_n hx hb dX7_as_7 rfl (lv_at hl 1 rfl) ?_
  obtain ⟨r1, S1, hv, h⟩ := b2_some h
  refine x_callVI C hw (mX4_holds hv) lkX7_67 rfl (Nat.le_of_ble_eq_true rfl) hl.1 rfl (Nat.le_of_ble_eq_true rfl) dX7_as_8 (fun H locs hw => ?_)
  refine lv_if_eq (tgt := 21) hx hb dX7_as_11 (by decide) (fun c => ?_) (fun c => ?_)
  · have h := (it_d h).1 c
    exact B21 S1 _ _ ls h hw (lv_sub hl [0] rfl)
  · have h := (it_d h).2 c
    refine lv_iload_n hx hb dX7_as_14 rfl (lv_at hl 2 rfl) ?_
    obtain ⟨r2, S2, hv, h⟩ := b2_some h
    refine x_callSI C hw (mX7_isKind hv) lkX7_37 rfl (Nat.le_of_ble_eq_true rfl) hl.1 rfl (Nat.le_of_ble_eq_true rfl) dX7_as_15 (fun H locs hw => ?_)
    refine lv_if_ne (tgt := 28) hx hb dX7_as_18 (by decide) (fun c => ?_) (fun c => ?_)
    · have h := (it_d h).2 c
      refine lv_iload_n hx hb dX7_as_28 rfl (lv_at hl 2 rfl) ?_
      refine lv_if_eq (tgt := 55) hx hb dX7_as_29 (by decide) (fun c => ?_) (fun c => ?_)
      · have h := (it_d h).1 c
        exact B55 S2 x1 _ _ ls h hw (lv_sub hl [0, 1] rfl)
      · have h := (it_d h).2 c
        refine lv_aload_n hx hb dX7_as_32 rfl (lv_at hl 0 rfl) ?_
        refine x_getR C hw gtX7_12 dX7_as_33 ?_
        refine x_getR C hw gtX7_53 dX7_as_36 ?_
        refine x_getR C hw gtX7_70 dX7_as_39 ?_
        refine lv_iload_n hx hb dX7_as_42 rfl (lv_at hl 1 rfl) ?_
        obtain ⟨v1, hv, h⟩ := bb_some h
        refine x_ald C hw alX_10 hv dX7_as_43 ?_
        refine lv_iload_n hx hb dX7_as_44 rfl (lv_at hl 2 rfl) ?_
        refine lv_icmp_eq (tgt := 55) hx hb dX7_as_45 (by decide) (fun c => ?_) (fun c => ?_)
        · have h := (it_d h).1 c
          exact B55 S2 x1 _ _ ls h hw (lv_sub hl [0, 1] rfl)
        · have h := (it_d h).2 c
          refine lv_aload_n hx hb dX7_as_48 rfl (lv_at hl 0 rfl) ?_
          refine lv_ldc (v := (-1000005)) hx hb hown (hts _ kwX7_73) dX7_as_49 ?_
          obtain ⟨r3, S3, hv, h⟩ := b2_some h
          refine x_callVI C hw (mX7_finding hv) lkX7_49 rfl (Nat.le_of_ble_eq_true rfl) hl.1 rfl (Nat.le_of_ble_eq_true rfl) dX7_as_51 (fun H locs hw => ?_)
          exact x_iret C hw h dX7_as_54
    · have h := (it_d h).1 c
      exact B21 S2 _ _ ls h hw (lv_sub hl [0] rfl)
set_option maxHeartbeats 4000000 in
set_option maxRecDepth 100000 in
theorem mX7_isDay {N : Nat} {l : Launch} {D : va_G} {ad : Nat → Nat} {cI cZ : ClassId} {S Sz : SS} {x0 : Int32} {rz : Int32} (h : fX7_isDay N S x0 = some (rz, Sz)) : MI l D lyX ad cI cZ yX7_isDay cX7_isDay 1 (some .boolean) 1 [.int x0] S rz Sz := by
  refine x_startI RX7 (by decide) rfl (Nat.le_of_ble_eq_true rfl) ?_
  intro p e s m args below meth c A C hw ls hl
  have hx := C.1
  have hb := C.2.1
  have hown := C.2.2.2.1
  have hts := C.2.2.2.2.1
  have hl : lv_has ls 1 [(0, .int x0)] := hl
  unfold fX7_isDay at h
  refine lv_iload_n hx hb dX7_isDay_0 rfl (lv_at hl 0 rfl) ?_
  refine lv_iconst (v := 0) hx hb dX7_isDay_1 (by decide) ?_
  refine lv_sipush (v := 30000) hx hb dX7_isDay_2 (by decide) ?_
  obtain ⟨r1, S1, hv, h⟩ := b2_some h
  refine x_callSI C hw (mX7_isWithin hv) lkX7_44 rfl (Nat.le_of_ble_eq_true rfl) hl.1 rfl (Nat.le_of_ble_eq_true rfl) dX7_isDay_5 (fun H locs hw => ?_)
  exact x_zret C hw h dX7_isDay_8
