set_option maxHeartbeats 4000000 in
set_option maxRecDepth 100000 in
theorem mX7_isUnion {N : Nat} {l : Launch} {D : va_G} {ad : Nat → Nat} {cI cZ : ClassId} {S Sz : SS} {x0 : Int32} {rz : Int32} (h : fX7_isUnion N S x0 = some (rz, Sz)) : MI l D lyX ad cI cZ yX7_isUnion cX7_isUnion 1 (some .boolean) 1 [.int x0] S rz Sz := by
  refine x_startI RX7 (by decide) rfl (Nat.le_of_ble_eq_true rfl) ?_
  intro p e s m args below meth c A C hw ls hl
  have hx := C.1
  have hb := C.2.1
  have hown := C.2.2.2.1
  have hts := C.2.2.2.2.1
  have hl : lv_has ls 1 [(0, .int x0)] := hl
  unfold fX7_isUnion at h
  refine lv_iload_n hx hb dX7_isUnion_0 rfl (lv_at hl 0 rfl) ?_
  refine lv_iconst (v := 0) hx hb dX7_isUnion_1 (by decide) ?_
  refine lv_iconst (v := 2) hx hb dX7_isUnion_2 (by decide) ?_
  obtain ⟨r1, S1, hv, h⟩ := b2_some h
  refine x_callSI C hw (mX7_isWithin hv) lkX7_44 rfl (Nat.le_of_ble_eq_true rfl) hl.1 rfl (Nat.le_of_ble_eq_true rfl) dX7_isUnion_3 (fun H locs hw => ?_)
  exact x_zret C hw h dX7_isUnion_6
set_option maxHeartbeats 4000000 in
set_option maxRecDepth 100000 in
theorem mX7_best {N : Nat} {l : Launch} {D : va_G} {ad : Nat → Nat} {cI cZ : ClassId} {S Sz : SS} {x1 x2 x3 : Int32} {rz : Int32} (h : fX7_best N S x1 x2 x3 = some (rz, Sz)) : MI l D lyX ad cI cZ yX7_best cX7_best 4 (some .int) 9 [.ref (ad 0), .int x1, .int x2, .int x3] S rz Sz := by
  refine x_startI RX7 (by decide) rfl (Nat.le_of_ble_eq_true rfl) ?_
  intro p e s m args below meth c A C hw ls hl
  have hx := C.1
  have hb := C.2.1
  have hown := C.2.2.2.1
  have hts := C.2.2.2.2.1
  have hl : lv_has ls 4 [(0, .ref (ad 0)), (1, .int x1), (2, .int x2), (3, .int x3)] := hl
  have B23 : ∀ (S : SS) (H : Heap) (locs : List Loc) (ls : Array Slot), fX7_best_b23 N S = some (rz, Sz) → WH D A s.heap lyX ad cI cZ S H locs → lv_has ls 4 [(0, .ref (ad 0))] → W p l e (rmK 9) s m args below meth c H locs 0 0 (MQ below (Qi D lyX ad cI cZ A rz Sz) args s 0 0 A) (F0 m 23 ls []) := by
    intro S  H locs ls h hw hl
    unfold fX7_best_b23 at h
    refine lv_aload_n hx hb dX7_best_23 rfl (lv_at hl 0 rfl) ?_
    refine lv_ldc (v := (-1000001)) hx hb hown (hts _ kwX7_48) dX7_best_24 ?_
    obtain ⟨r1, S1, hv, h⟩ := b2_some h
    refine x_callVI C hw (mX7_finding hv) lkX7_49 rfl (Nat.le_of_ble_eq_true rfl) hl.1 rfl (Nat.le_of_ble_eq_true rfl) dX7_best_26 (fun H locs hw => ?_)
    exact x_iret C hw h dX7_best_29
  unfold fX7_best at h
  refine lv_iload_n hx hb dX7_best_0 rfl (lv_at hl 1 rfl) ?_
  obtain ⟨r1, S1, hv, h⟩ := b2_some h
  refine x_callSI C hw (mX7_isUnion hv) lkX7_83 rfl (Nat.le_of_ble_eq_true rfl) hl.1 rfl (Nat.le_of_ble_eq_true rfl) dX7_best_1 (fun H locs hw => ?_)
  refine lv_if_eq (tgt := 23) hx hb dX7_best_4 (by decide) (fun c => ?_) (fun c => ?_)
  · have h := (it_d h).1 c
    exact B23 S1 _ _ ls h hw (lv_sub hl [0] rfl)
  · have h := (it_d h).2 c
    refine lv_iload_n hx hb dX7_best_7 rfl (lv_at hl 2 rfl) ?_
    obtain ⟨r2, S2, hv, h⟩ := b2_some h
    refine x_callSI C hw (mX7_isDay hv) lkX7_41 rfl (Nat.le_of_ble_eq_true rfl) hl.1 rfl (Nat.le_of_ble_eq_true rfl) dX7_best_8 (fun H locs hw => ?_)
    refine lv_if_eq (tgt := 23) hx hb dX7_best_11 (by decide) (fun c => ?_) (fun c => ?_)
    · have h := (it_d h).1 c
      exact B23 S2 _ _ ls h hw (lv_sub hl [0] rfl)
    · have h := (it_d h).2 c
      refine lv_iload_n hx hb dX7_best_14 rfl (lv_at hl 3 rfl) ?_
      refine lv_iconst (v := 1) hx hb dX7_best_15 (by decide) ?_
      refine lv_iconst (v := 4) hx hb dX7_best_16 (by decide) ?_
      obtain ⟨r3, S3, hv, h⟩ := b2_some h
      refine x_callSI C hw (mX7_isWithin hv) lkX7_44 rfl (Nat.le_of_ble_eq_true rfl) hl.1 rfl (Nat.le_of_ble_eq_true rfl) dX7_best_17 (fun H locs hw => ?_)
      refine lv_if_ne (tgt := 30) hx hb dX7_best_20 (by decide) (fun c => ?_) (fun c => ?_)
      · have h := (it_d h).2 c
        refine lv_aload_n hx hb dX7_best_30 rfl (lv_at hl 0 rfl) ?_
        refine x_getR C hw gtX7_12 dX7_best_31 ?_
        refine x_getR C hw gtX7_89 dX7_best_34 ?_
        refine lv_iload_n hx hb dX7_best_37 rfl (lv_at hl 2 rfl) ?_
        obtain ⟨S4, hv, h⟩ := bb_some h
        refine x_callVV C hw (mX2_know hv) lkX7_122 rfl (Nat.le_of_ble_eq_true rfl) hl.1 rfl (Nat.le_of_ble_eq_true rfl) dX7_best_38 (fun H locs hw => ?_)
        refine lv_aload_n hx hb dX7_best_41 rfl (lv_at hl 0 rfl) ?_
        refine x_getR C hw gtX7_19 dX7_best_42 ?_
        refine lv_aload_n hx hb dX7_best_45 rfl (lv_at hl 0 rfl) ?_
        refine x_getR C hw gtX7_12 dX7_best_46 ?_
        refine lv_iload_n hx hb dX7_best_49 rfl (lv_at hl 1 rfl) ?_
        refine lv_iload_n hx hb dX7_best_50 rfl (lv_at hl 2 rfl) ?_
        refine lv_iload_n hx hb dX7_best_51 rfl (lv_at hl 3 rfl) ?_
        obtain ⟨r4, S5, hv, h⟩ := b2_some h
        refine x_callVI C hw (mX1_seat hv) lkX7_198 rfl (Nat.le_of_ble_eq_true rfl) hl.1 rfl (Nat.le_of_ble_eq_true rfl) dX7_best_52 (fun H locs hw => ?_)
        exact x_iret C hw h dX7_best_55
      · have h := (it_d h).1 c
        exact B23 S3 _ _ ls h hw (lv_sub hl [0] rfl)
set_option maxHeartbeats 4000000 in
set_option maxRecDepth 100000 in
theorem mX7_check {N : Nat} {l : Launch} {D : va_G} {ad : Nat → Nat} {cI cZ : ClassId} {S Sz : SS} {x1 : Int32} {rz : Int32} (h : fX7_check N S x1 = some (rz, Sz)) : MI l D lyX ad cI cZ yX7_check cX7_check 5 (some .int) 3 [.ref (ad 0), .int x1] S rz Sz := by
  refine x_startI RX7 (by decide) rfl (Nat.le_of_ble_eq_true rfl) ?_
  intro p e s m args below meth c A C hw ls hl
  have hx := C.1
  have hb := C.2.1
  have hown := C.2.2.2.1
  have hts := C.2.2.2.2.1
  have hl : lv_has ls 5 [(0, .ref (ad 0)), (1, .int x1)] := hl
  have B100 : ∀ (S : SS) (x2 x3 : Int32) (H : Heap) (locs : List Loc) (ls : Array Slot), fX7_check_b100 N S x2 x3 = some (rz, Sz) → WH D A s.heap lyX ad cI cZ S H locs → lv_has ls 5 [(2, .int x2), (3, .int x3)] → W p l e (rmK 3) s m args below meth c H locs 0 0 (MQ below (Qi D lyX ad cI cZ A rz Sz) args s 0 0 A) (F0 m 100 ls []) := by
    intro S x2 x3 H locs ls h hw hl
    unfold fX7_check_b100 at h
    refine lv_iload_n hx hb dX7_check_100 rfl (lv_at hl 1 rfl) ?_
    refine lv_iload_n hx hb dX7_check_101 rfl (lv_at hl 0 rfl) ?_
    refine lv_icmp_ge (tgt := 110) hx hb dX7_check_102 (by decide) (fun c => ?_) (fun c => ?_)
    · have h := (it_d h).1 c
      refine lv_iconst (v := 0) hx hb dX7_check_110 (by decide) ?_
      exact x_iret C hw h dX7_check_111
    · have h := (it_d h).2 c
      refine lv_bipush (v := 99) hx hb dX7_check_105 (by decide) ?_
      refine lv_goto (tgt := 111) hx hb dX7_check_107 (by decide) ?_
      exact x_iret C hw h dX7_check_111
  have B40 : ∀ n : Nat, ∀ (S : SS) (x2 x3 x4 : Int32) (H : Heap) (locs : List Loc) (ls : Array Slot), fX7_check_b40 N n S x2 x3 x4 = some (rz, Sz) → WH D A s.heap lyX ad cI cZ S H locs → lv_has ls 5 [(0, .ref (ad 0)), (2, .int x2), (3, .int x3), (4, .int x4)] → W p l e (rmK 3) s m args below meth c H locs 0 0 (MQ below (Qi D lyX ad cI cZ A rz Sz) args s 0 0 A) (F0 m 40 ls []) := by
    intro n
    induction n with
    | zero =>
      intro S x2 x3 x4 H locs ls h hw hl
      rw [fX7_check_b40] at h
      cases h
    | succ n ih40 =>
      intro S x2 x3 x4 H locs ls h hw hl
      rw [fX7_check_b40] at h
      refine lv_iload hx hb dX7_check_40 (lv_at hl 3 rfl) ?_
      refine lv_aload_n hx hb dX7_check_42 rfl (lv_at hl 0 rfl) ?_
      refine x_getR C hw gtX7_12 dX7_check_43 ?_
      refine x_getR C hw gtX7_89 dX7_check_46 ?_
      refine x_getI C hw gtX7_152 dX7_check_49 ?_
      refine lv_icmp_ge (tgt := 100) hx hb dX7_check_52 (by decide) (fun c => ?_) (fun c => ?_)
      · have h := (it_d h).1 c
        exact B100 S x2 x3 _ _ ls h hw (lv_sub hl [1, 2] rfl)
      · have h := (it_d h).2 c
        refine lv_aload_n hx hb dX7_check_55 rfl (lv_at hl 0 rfl) ?_
        refine x_getR C hw gtX7_12 dX7_check_56 ?_
        refine x_getR C hw gtX7_89 dX7_check_59 ?_
        refine x_getR C hw gtX7_171 dX7_check_62 ?_
        refine lv_iload hx hb dX7_check_65 (lv_at hl 3 rfl) ?_
        obtain ⟨v1, hv, h⟩ := bb_some h
        refine x_zald C hw alX_28 hv dX7_check_67 ?_
        refine lv_if_eq (tgt := 94) hx hb dX7_check_68 (by decide) (fun c => ?_) (fun c => ?_)
        · have h := (it_d h).1 c
          refine lv_iinc (v := (x4 + 1)) (lv' := [(4, .int (x4 + 1)), (0, .ref (ad 0)), (2, .int x2), (3, .int x3)]) hx hb dX7_check_94 hl (k := 3) rfl rfl (by decide) rfl (fun ls hl => ?_)
          refine lv_goto (tgt := 40) hx hb dX7_check_97 (by decide) ?_
          exact ih40 S x2 x3 (x4 + 1) _ _ ls h hw (lv_sub hl [1, 2, 3, 0] rfl)
        · have h := (it_d h).2 c
          refine lv_iload_n hx hb dX7_check_71 rfl (lv_at hl 2 rfl) ?_
          refine lv_iload_n hx hb dX7_check_72 rfl (lv_at hl 1 rfl) ?_
          refine lv_icmp_ge (tgt := 87) hx hb dX7_check_73 (by decide) (fun c => ?_) (fun c => ?_)
          · have h := (it_d h).1 c
            refine lv_iconst (v := 1) hx hb dX7_check_87 (by decide) ?_
            refine lv_iload_n hx hb dX7_check_88 rfl (lv_at hl 2 rfl) ?_
            refine lv_iadd hx hb dX7_check_89 ?_
            exact x_iret C hw h dX7_check_90
          · have h := (it_d h).2 c
            refine lv_aload_n hx hb dX7_check_76 rfl (lv_at hl 0 rfl) ?_
            refine x_getR C hw gtX7_30 dX7_check_77 ?_
            refine lv_iload_n hx hb dX7_check_80 rfl (lv_at hl 2 rfl) ?_
            obtain ⟨v2, hv, h⟩ := bb_some h
            refine x_ald C hw alX_8 hv dX7_check_81 ?_
            refine lv_iload hx hb dX7_check_82 (lv_at hl 3 rfl) ?_
            refine lv_icmp_eq (tgt := 91) hx hb dX7_check_84 (by decide) (fun c => ?_) (fun c => ?_)
            · have h := (it_d h).1 c
              refine lv_iinc (v := (x3 + 1)) (lv' := [(3, .int (x3 + 1)), (0, .ref (ad 0)), (2, .int x2), (4, .int x4)]) hx hb dX7_check_91 hl (k := 2) rfl rfl (by decide) rfl (fun ls hl => ?_)
              refine lv_iinc (v := (x4 + 1)) (lv' := [(4, .int (x4 + 1)), (3, .int (x3 + 1)), (0, .ref (ad 0)), (2, .int x2)]) hx hb dX7_check_94 hl (k := 3) rfl rfl (by decide) rfl (fun ls hl => ?_)
              refine lv_goto (tgt := 40) hx hb dX7_check_97 (by decide) ?_
              exact ih40 S x2 (x3 + 1) (x4 + 1) _ _ ls h hw (lv_sub hl [2, 3, 1, 0] rfl)
            · have h := (it_d h).2 c
              refine lv_iconst (v := 1) hx hb dX7_check_87 (by decide) ?_
              refine lv_iload_n hx hb dX7_check_88 rfl (lv_at hl 2 rfl) ?_
              refine lv_iadd hx hb dX7_check_89 ?_
              exact x_iret C hw h dX7_check_90
  unfold fX7_check at h
  refine lv_aload_n hx hb dX7_check_0 rfl (lv_at hl 0 rfl) ?_
  refine x_getI C hw gtX7_232 dX7_check_1 ?_
  refine lv_istore_n (lv' := [(2, .int (S.1 0)), (0, .ref (ad 0)), (1, .int x1)]) hx hb dX7_check_4 rfl hl (by decide) rfl (fun ls hl => ?_)
  refine lv_aload_n hx hb dX7_check_5 rfl (lv_at hl 1 rfl) ?_
  refine lv_iconst (v := 0) hx hb dX7_check_6 (by decide) ?_
  obtain ⟨S1, hv, h⟩ := bb_some h
  refine x_putO C hw gpX7_232 hv rfl rfl dX7_check_7 (fun H locs hw => ?_)
  refine lv_iload_n hx hb dX7_check_10 rfl (lv_at hl 2 rfl) ?_
  obtain ⟨r1, S2, hv, h⟩ := b2_some h
  refine x_callSI C hw (mX7_isDay hv) lkX7_41 rfl (Nat.le_of_ble_eq_true rfl) hl.1 rfl (Nat.le_of_ble_eq_true rfl) dX7_check_11 (fun H locs hw => ?_)
  refine lv_if_ne (tgt := 24) hx hb dX7_check_14 (by decide) (fun c => ?_) (fun c => ?_)
  · have h := (it_d h).2 c
    refine lv_aload_n hx hb dX7_check_24 rfl (lv_at hl 1 rfl) ?_
    refine x_getR C hw gtX7_12 dX7_check_25 ?_
    refine x_getR C hw gtX7_89 dX7_check_28 ?_
    refine lv_iload_n hx hb dX7_check_31 rfl (lv_at hl 2 rfl) ?_
    obtain ⟨S3, hv, h⟩ := bb_some h
    refine x_callVV C hw (mX2_know hv) lkX7_122 rfl (Nat.le_of_ble_eq_true rfl) hl.1 rfl (Nat.le_of_ble_eq_true rfl) dX7_check_32 (fun H locs hw => ?_)
    refine lv_iconst (v := 0) hx hb dX7_check_35 (by decide) ?_
    refine lv_istore_n (lv' := [(3, .int 0), (2, .int (S.1 0)), (0, .ref (ad 0)), (1, .int x1)]) hx hb dX7_check_36 rfl hl (by decide) rfl (fun ls hl => ?_)
    refine lv_iconst (v := 0) hx hb dX7_check_37 (by decide) ?_
    refine lv_istore (lv' := [(4, .int 0), (3, .int 0), (2, .int (S.1 0)), (0, .ref (ad 0)), (1, .int x1)]) hx hb dX7_check_38 hl (by decide) rfl (fun ls hl => ?_)
    exact B40 N S3 (S.1 0) 0 0 _ _ ls h hw (lv_sub hl [3, 2, 1, 0] rfl)
  · have h := (it_d h).1 c
    refine lv_aload_n hx hb dX7_check_17 rfl (lv_at hl 1 rfl) ?_
    refine lv_ldc (v := (-1000001)) hx hb hown (hts _ kwX7_48) dX7_check_18 ?_
    obtain ⟨r2, S4, hv, h⟩ := b2_some h
    refine x_callVI C hw (mX7_finding hv) lkX7_49 rfl (Nat.le_of_ble_eq_true rfl) hl.1 rfl (Nat.le_of_ble_eq_true rfl) dX7_check_20 (fun H locs hw => ?_)
    exact x_iret C hw h dX7_check_23
set_option maxHeartbeats 4000000 in
set_option maxRecDepth 100000 in
theorem mX7_count {N : Nat} {l : Launch} {D : va_G} {ad : Nat → Nat} {cI cZ : ClassId} {S Sz : SS} {x1 : Int32} {rz : Int32} (h : fX7_count N S x1 = some (rz, Sz)) : MI l D lyX ad cI cZ yX7_count cX7_count 2 (some .int) 2 [.ref (ad 0), .int x1] S rz Sz := by
  refine x_startI RX7 (by decide) rfl (Nat.le_of_ble_eq_true rfl) ?_
  intro p e s m args below meth c A C hw ls hl
  have hx := C.1
  have hb := C.2.1
  have hown := C.2.2.2.1
  have hts := C.2.2.2.2.1
  have hl : lv_has ls 2 [(0, .ref (ad 0)), (1, .int x1)] := hl
  unfold fX7_count at h
  refine lv_iload_n hx hb dX7_count_0 rfl (lv_at hl 1 rfl) ?_
  rcases Decidable.em (x1 = 0) with c0 | c0
  · have h := (it_d h).1 c0
    refine lv_tableIn (off := 43) (tgt := 44) hx hb dX7_count_1 (by rw [c0]; decide) (by rw [c0]; decide) (by rw [c0]; decide) (by decide) ?_
    refine lv_aload_n hx hb dX7_count_44 rfl (lv_at hl 0 rfl) ?_
    refine x_getR C hw gtX7_12 dX7_count_45 ?_
    refine x_getR C hw gtX7_53 dX7_count_48 ?_
    refine x_getI C hw gtX7_235 dX7_count_51 ?_
    exact x_iret C hw h dX7_count_54
  · have h := (it_d h).2 c0
    rcases Decidable.em (x1 = 1) with c1 | c1
    · have h := (it_d h).1 c1
      refine lv_tableIn (off := 54) (tgt := 55) hx hb dX7_count_1 (by rw [c1]; decide) (by rw [c1]; decide) (by rw [c1]; decide) (by decide) ?_
      refine lv_aload_n hx hb dX7_count_55 rfl (lv_at hl 0 rfl) ?_
      refine x_getR C hw gtX7_12 dX7_count_56 ?_
      refine x_getR C hw gtX7_105 dX7_count_59 ?_
      refine x_getI C hw gtX7_109 dX7_count_62 ?_
      exact x_iret C hw h dX7_count_65
    · have h := (it_d h).2 c1
      rcases Decidable.em (x1 = 2) with c2 | c2
      · have h := (it_d h).1 c2
        refine lv_tableIn (off := 65) (tgt := 66) hx hb dX7_count_1 (by rw [c2]; decide) (by rw [c2]; decide) (by rw [c2]; decide) (by decide) ?_
        refine lv_aload_n hx hb dX7_count_66 rfl (lv_at hl 0 rfl) ?_
        refine x_getR C hw gtX7_12 dX7_count_67 ?_
        refine x_getR C hw gtX7_89 dX7_count_70 ?_
        refine x_getI C hw gtX7_152 dX7_count_73 ?_
        exact x_iret C hw h dX7_count_76
      · have h := (it_d h).2 c2
        rcases Decidable.em (x1 = 3) with c3 | c3
        · have h := (it_d h).1 c3
          refine lv_tableIn (off := 76) (tgt := 77) hx hb dX7_count_1 (by rw [c3]; decide) (by rw [c3]; decide) (by rw [c3]; decide) (by decide) ?_
          refine lv_aload_n hx hb dX7_count_77 rfl (lv_at hl 0 rfl) ?_
          refine x_getR C hw gtX7_12 dX7_count_78 ?_
          refine x_getR C hw gtX7_89 dX7_count_81 ?_
          refine x_getR C hw gtX7_178 dX7_count_84 ?_
          refine x_getI C hw gtX7_182 dX7_count_87 ?_
          exact x_iret C hw h dX7_count_90
        · have h := (it_d h).2 c3
          rcases Decidable.em (x1 = 4) with c4 | c4
          · have h := (it_d h).1 c4
            refine lv_tableIn (off := 90) (tgt := 91) hx hb dX7_count_1 (by rw [c4]; decide) (by rw [c4]; decide) (by rw [c4]; decide) (by decide) ?_
            refine lv_aload_n hx hb dX7_count_91 rfl (lv_at hl 0 rfl) ?_
            refine x_getR C hw gtX7_26 dX7_count_92 ?_
            refine x_getI C hw gtX7_209 dX7_count_95 ?_
            exact x_iret C hw h dX7_count_98
          · have h := (it_d h).2 c4
            rcases Decidable.em (x1 = 5) with c5 | c5
            · have h := (it_d h).1 c5
              refine lv_tableIn (off := 98) (tgt := 99) hx hb dX7_count_1 (by rw [c5]; decide) (by rw [c5]; decide) (by rw [c5]; decide) (by decide) ?_
              refine lv_aload_n hx hb dX7_count_99 rfl (lv_at hl 0 rfl) ?_
              refine x_getR C hw gtX7_19 dX7_count_100 ?_
              refine x_getI C hw gtX7_192 dX7_count_103 ?_
              exact x_iret C hw h dX7_count_106
            · have h := (it_d h).2 c5
              rcases Decidable.em (x1 = 6) with c6 | c6
              · have h := (it_d h).1 c6
                refine lv_tableIn (off := 106) (tgt := 107) hx hb dX7_count_1 (by rw [c6]; decide) (by rw [c6]; decide) (by rw [c6]; decide) (by decide) ?_
                refine lv_aload_n hx hb dX7_count_107 rfl (lv_at hl 0 rfl) ?_
                refine x_getI C hw gtX7_232 dX7_count_108 ?_
                exact x_iret C hw h dX7_count_111
              · have h := (it_d h).2 c6
                have hsw : (x1 : Int32).toInt < 0 ∨ 6 < (x1 : Int32).toInt := by
                  have z0 := ne_ti c0
                  have z1 := ne_ti c1
                  have z2 := ne_ti c2
                  have z3 := ne_ti c3
                  have z4 := ne_ti c4
                  have z5 := ne_ti c5
                  have z6 := ne_ti c6
                  simp only [show (0 : Int32).toInt = 0 from rfl, show (1 : Int32).toInt = 1 from rfl, show (2 : Int32).toInt = 2 from rfl, show (3 : Int32).toInt = 3 from rfl, show (4 : Int32).toInt = 4 from rfl, show (5 : Int32).toInt = 5 from rfl, show (6 : Int32).toInt = 6 from rfl] at z0 z1 z2 z3 z4 z5 z6
                  omega
                refine lv_tableOut (tgt := 112) hx hb dX7_count_1 hsw (by decide) ?_
                refine lv_aload_n hx hb dX7_count_112 rfl (lv_at hl 0 rfl) ?_
                refine lv_ldc (v := (-1000001)) hx hb hown (hts _ kwX7_48) dX7_count_113 ?_
                obtain ⟨r1, S1, hv, h⟩ := b2_some h
                refine x_callVI C hw (mX7_finding hv) lkX7_49 rfl (Nat.le_of_ble_eq_true rfl) hl.1 rfl (Nat.le_of_ble_eq_true rfl) dX7_count_115 (fun H locs hw => ?_)
                exact x_iret C hw h dX7_count_118
set_option maxHeartbeats 4000000 in
set_option maxRecDepth 100000 in
theorem mX7_entry {N : Nat} {l : Launch} {D : va_G} {ad : Nat → Nat} {cI cZ : ClassId} {S Sz : SS} {x1 x2 : Int32} {rz : Int32} (h : fX7_entry N S x1 x2 = some (rz, Sz)) : MI l D lyX ad cI cZ yX7_entry cX7_entry 3 (some .int) 2 [.ref (ad 0), .int x1, .int x2] S rz Sz := by
  refine x_startI RX7 (by decide) rfl (Nat.le_of_ble_eq_true rfl) ?_
  intro p e s m args below meth c A C hw ls hl
  have hx := C.1
  have hb := C.2.1
  have hown := C.2.2.2.1
  have hts := C.2.2.2.2.1
  have hl : lv_has ls 3 [(0, .ref (ad 0)), (1, .int x1), (2, .int x2)] := hl
  unfold fX7_entry at h
  refine lv_aload_n hx hb dX7_entry_0 rfl (lv_at hl 0 rfl) ?_
  refine x_getR C hw gtX7_12 dX7_entry_1 ?_
  refine x_getR C hw gtX7_89 dX7_entry_4 ?_
  refine lv_iload_n hx hb dX7_entry_7 rfl (lv_at hl 1 rfl) ?_
  obtain ⟨r1, S1, hv, h⟩ := b2_some h
  refine x_callVI C hw (mX2_holds hv) lkX7_155 rfl (Nat.le_of_ble_eq_true rfl) hl.1 rfl (Nat.le_of_ble_eq_true rfl) dX7_entry_8 (fun H locs hw => ?_)
  refine lv_if_ne (tgt := 21) hx hb dX7_entry_11 (by decide) (fun c => ?_) (fun c => ?_)
  · have h := (it_d h).2 c
    refine lv_iload_n hx hb dX7_entry_21 rfl (lv_at hl 2 rfl) ?_
    rcases Decidable.em (x2 = 0) with c0 | c0
    · have h := (it_d h).1 c0
      refine lv_tableIn (off := 34) (tgt := 56) hx hb dX7_entry_22 (by rw [c0]; decide) (by rw [c0]; decide) (by rw [c0]; decide) (by decide) ?_
      refine lv_aload_n hx hb dX7_entry_56 rfl (lv_at hl 0 rfl) ?_
      refine x_getR C hw gtX7_12 dX7_entry_57 ?_
      refine x_getR C hw gtX7_89 dX7_entry_60 ?_
      refine x_getR C hw gtX7_156 dX7_entry_63 ?_
      refine lv_iload_n hx hb dX7_entry_66 rfl (lv_at hl 1 rfl) ?_
      obtain ⟨v1, hv, h⟩ := bb_some h
      refine x_ald C hw alX_23 hv dX7_entry_67 ?_
      exact x_iret C hw h dX7_entry_68
    · have h := (it_d h).2 c0
      rcases Decidable.em (x2 = 1) with c1 | c1
      · have h := (it_d h).1 c1
        refine lv_tableIn (off := 47) (tgt := 69) hx hb dX7_entry_22 (by rw [c1]; decide) (by rw [c1]; decide) (by rw [c1]; decide) (by decide) ?_
        refine lv_aload_n hx hb dX7_entry_69 rfl (lv_at hl 0 rfl) ?_
        refine x_getR C hw gtX7_12 dX7_entry_70 ?_
        refine x_getR C hw gtX7_89 dX7_entry_73 ?_
        refine x_getR C hw gtX7_159 dX7_entry_76 ?_
        refine lv_iload_n hx hb dX7_entry_79 rfl (lv_at hl 1 rfl) ?_
        obtain ⟨v2, hv, h⟩ := bb_some h
        refine x_ald C hw alX_24 hv dX7_entry_80 ?_
        exact x_iret C hw h dX7_entry_81
      · have h := (it_d h).2 c1
        rcases Decidable.em (x2 = 2) with c2 | c2
        · have h := (it_d h).1 c2
          refine lv_tableIn (off := 60) (tgt := 82) hx hb dX7_entry_22 (by rw [c2]; decide) (by rw [c2]; decide) (by rw [c2]; decide) (by decide) ?_
          refine lv_aload_n hx hb dX7_entry_82 rfl (lv_at hl 0 rfl) ?_
          refine x_getR C hw gtX7_12 dX7_entry_83 ?_
          refine x_getR C hw gtX7_89 dX7_entry_86 ?_
          refine x_getR C hw gtX7_162 dX7_entry_89 ?_
          refine lv_iload_n hx hb dX7_entry_92 rfl (lv_at hl 1 rfl) ?_
          obtain ⟨v3, hv, h⟩ := bb_some h
          refine x_ald C hw alX_25 hv dX7_entry_93 ?_
          exact x_iret C hw h dX7_entry_94
        · have h := (it_d h).2 c2
          rcases Decidable.em (x2 = 3) with c3 | c3
          · have h := (it_d h).1 c3
            refine lv_tableIn (off := 73) (tgt := 95) hx hb dX7_entry_22 (by rw [c3]; decide) (by rw [c3]; decide) (by rw [c3]; decide) (by decide) ?_
            refine lv_aload_n hx hb dX7_entry_95 rfl (lv_at hl 0 rfl) ?_
            refine x_getR C hw gtX7_12 dX7_entry_96 ?_
            refine x_getR C hw gtX7_89 dX7_entry_99 ?_
            refine x_getR C hw gtX7_165 dX7_entry_102 ?_
            refine lv_iload_n hx hb dX7_entry_105 rfl (lv_at hl 1 rfl) ?_
            obtain ⟨v4, hv, h⟩ := bb_some h
            refine x_ald C hw alX_26 hv dX7_entry_106 ?_
            exact x_iret C hw h dX7_entry_107
          · have h := (it_d h).2 c3
            rcases Decidable.em (x2 = 4) with c4 | c4
            · have h := (it_d h).1 c4
              refine lv_tableIn (off := 86) (tgt := 108) hx hb dX7_entry_22 (by rw [c4]; decide) (by rw [c4]; decide) (by rw [c4]; decide) (by decide) ?_
              refine lv_aload_n hx hb dX7_entry_108 rfl (lv_at hl 0 rfl) ?_
              refine x_getR C hw gtX7_12 dX7_entry_109 ?_
              refine x_getR C hw gtX7_89 dX7_entry_112 ?_
              refine x_getR C hw gtX7_168 dX7_entry_115 ?_
              refine lv_iload_n hx hb dX7_entry_118 rfl (lv_at hl 1 rfl) ?_
              obtain ⟨v5, hv, h⟩ := bb_some h
              refine x_ald C hw alX_27 hv dX7_entry_119 ?_
              exact x_iret C hw h dX7_entry_120
            · have h := (it_d h).2 c4
              have hsw : (x2 : Int32).toInt < 0 ∨ 4 < (x2 : Int32).toInt := by
                have z0 := ne_ti c0
                have z1 := ne_ti c1
                have z2 := ne_ti c2
                have z3 := ne_ti c3
                have z4 := ne_ti c4
                simp only [show (0 : Int32).toInt = 0 from rfl, show (1 : Int32).toInt = 1 from rfl, show (2 : Int32).toInt = 2 from rfl, show (3 : Int32).toInt = 3 from rfl, show (4 : Int32).toInt = 4 from rfl] at z0 z1 z2 z3 z4
                omega
              refine lv_tableOut (tgt := 121) hx hb dX7_entry_22 hsw (by decide) ?_
              refine lv_aload_n hx hb dX7_entry_121 rfl (lv_at hl 0 rfl) ?_
              refine lv_ldc (v := (-1000001)) hx hb hown (hts _ kwX7_48) dX7_entry_122 ?_
              obtain ⟨r2, S2, hv, h⟩ := b2_some h
              refine x_callVI C hw (mX7_finding hv) lkX7_49 rfl (Nat.le_of_ble_eq_true rfl) hl.1 rfl (Nat.le_of_ble_eq_true rfl) dX7_entry_124 (fun H locs hw => ?_)
              exact x_iret C hw h dX7_entry_127
  · have h := (it_d h).1 c
    refine lv_aload_n hx hb dX7_entry_14 rfl (lv_at hl 0 rfl) ?_
    refine lv_ldc (v := (-1000001)) hx hb hown (hts _ kwX7_48) dX7_entry_15 ?_
    obtain ⟨r3, S3, hv, h⟩ := b2_some h
    refine x_callVI C hw (mX7_finding hv) lkX7_49 rfl (Nat.le_of_ble_eq_true rfl) hl.1 rfl (Nat.le_of_ble_eq_true rfl) dX7_entry_17 (fun H locs hw => ?_)
    exact x_iret C hw h dX7_entry_20
set_option maxHeartbeats 4000000 in
set_option maxRecDepth 100000 in
theorem mX7_exam {N : Nat} {l : Launch} {D : va_G} {ad : Nat → Nat} {cI cZ : ClassId} {S Sz : SS} {rz : Int32} (h : fX7_exam N S  = some (rz, Sz)) : MI l D lyX ad cI cZ yX7_exam cX7_exam 1 (some .int) 2 [.ref (ad 0)] S rz Sz := by
  refine x_startI RX7 (by decide) rfl (Nat.le_of_ble_eq_true rfl) ?_
  intro p e s m args below meth c A C hw ls hl
  have hx := C.1
  have hb := C.2.1
  have hown := C.2.2.2.1
  have hts := C.2.2.2.2.1
  have hl : lv_has ls 1 [(0, .ref (ad 0))] := hl
  unfold fX7_exam at h
  refine lv_aload_n hx hb dX7_exam_0 rfl (lv_at hl 0 rfl) ?_
  refine x_getR C hw gtX7_26 dX7_exam_1 ?_
  refine x_getI C hw gtX7_209 dX7_exam_4 ?_
  refine lv_bipush (v := 20) hx hb dX7_exam_7 (by decide) ?_
  refine lv_icmp_lt (tgt := 19) hx hb dX7_exam_9 (by decide) (fun c => ?_) (fun c => ?_)
  · have h := (it_d h).1 c
    refine lv_aload_n hx hb dX7_exam_19 rfl (lv_at hl 0 rfl) ?_
    refine x_getR C hw gtX7_26 dX7_exam_20 ?_
    obtain ⟨r1, S1, hv, h⟩ := b2_some h
    refine x_callVI C hw (mX3_add hv) lkX7_210 rfl (Nat.le_of_ble_eq_true rfl) hl.1 rfl (Nat.le_of_ble_eq_true rfl) dX7_exam_23 (fun H locs hw => ?_)
    exact x_iret C hw h dX7_exam_26
  · have h := (it_d h).2 c
    refine lv_aload_n hx hb dX7_exam_12 rfl (lv_at hl 0 rfl) ?_
    refine lv_ldc (v := (-1000004)) hx hb hown (hts _ kwX7_62) dX7_exam_13 ?_
    obtain ⟨r2, S2, hv, h⟩ := b2_some h
    refine x_callVI C hw (mX7_finding hv) lkX7_49 rfl (Nat.le_of_ble_eq_true rfl) hl.1 rfl (Nat.le_of_ble_eq_true rfl) dX7_exam_15 (fun H locs hw => ?_)
    exact x_iret C hw h dX7_exam_18
set_option maxHeartbeats 4000000 in
set_option maxRecDepth 100000 in
theorem mX7_isGrade {N : Nat} {l : Launch} {D : va_G} {ad : Nat → Nat} {cI cZ : ClassId} {S Sz : SS} {x0 : Int32} {rz : Int32} (h : fX7_isGrade N S x0 = some (rz, Sz)) : MI l D lyX ad cI cZ yX7_isGrade cX7_isGrade 1 (some .boolean) 1 [.int x0] S rz Sz := by
  refine x_startI RX7 (by decide) rfl (Nat.le_of_ble_eq_true rfl) ?_
  intro p e s m args below meth c A C hw ls hl
  have hx := C.1
  have hb := C.2.1
  have hown := C.2.2.2.1
  have hts := C.2.2.2.2.1
  have hl : lv_has ls 1 [(0, .int x0)] := hl
  unfold fX7_isGrade at h
  refine lv_iload_n hx hb dX7_isGrade_0 rfl (lv_at hl 0 rfl) ?_
  refine lv_iconst (v := 1) hx hb dX7_isGrade_1 (by decide) ?_
  refine lv_bipush (v := 10) hx hb dX7_isGrade_2 (by decide) ?_
  obtain ⟨r1, S1, hv, h⟩ := b2_some h
  refine x_callSI C hw (mX7_isWithin hv) lkX7_44 rfl (Nat.le_of_ble_eq_true rfl) hl.1 rfl (Nat.le_of_ble_eq_true rfl) dX7_isGrade_4 (fun H locs hw => ?_)
  exact x_zret C hw h dX7_isGrade_7
set_option maxHeartbeats 4000000 in
set_option maxRecDepth 100000 in
theorem mX7_force {N : Nat} {l : Launch} {D : va_G} {ad : Nat → Nat} {cI cZ : ClassId} {S Sz : SS} {x1 x2 x3 : Int32} {rz : Int32} (h : fX7_force N S x1 x2 x3 = some (rz, Sz)) : MI l D lyX ad cI cZ yX7_force cX7_force 5 (some .int) 2 [.ref (ad 0), .int x1, .int x2, .int x3] S rz Sz := by
  refine x_startI RX7 (by decide) rfl (Nat.le_of_ble_eq_true rfl) ?_
  intro p e s m args below meth c A C hw ls hl
  have hx := C.1
  have hb := C.2.1
  have hown := C.2.2.2.1
  have hts := C.2.2.2.2.1
  have hl : lv_has ls 5 [(0, .ref (ad 0)), (1, .int x1), (2, .int x2), (3, .int x3)] := hl
  have B21 : ∀ (S : SS) (H : Heap) (locs : List Loc) (ls : Array Slot), fX7_force_b21 N S = some (rz, Sz) → WH D A s.heap lyX ad cI cZ S H locs → lv_has ls 5 [(0, .ref (ad 0))] → W p l e (rmK 2) s m args below meth c H locs 0 0 (MQ below (Qi D lyX ad cI cZ A rz Sz) args s 0 0 A) (F0 m 21 ls []) := by
    intro S  H locs ls h hw hl
    unfold fX7_force_b21 at h
    refine lv_aload_n hx hb dX7_force_21 rfl (lv_at hl 0 rfl) ?_
    refine lv_ldc (v := (-1000001)) hx hb hown (hts _ kwX7_48) dX7_force_22 ?_
    obtain ⟨r1, S1, hv, h⟩ := b2_some h
    refine x_callVI C hw (mX7_finding hv) lkX7_49 rfl (Nat.le_of_ble_eq_true rfl) hl.1 rfl (Nat.le_of_ble_eq_true rfl) dX7_force_24 (fun H locs hw => ?_)
    exact x_iret C hw h dX7_force_27
  unfold fX7_force at h
  refine lv_iload_n hx hb dX7_force_0 rfl (lv_at hl 1 rfl) ?_
  obtain ⟨r1, S1, hv, h⟩ := b2_some h
  refine x_callSI C hw (mX7_isUnion hv) lkX7_83 rfl (Nat.le_of_ble_eq_true rfl) hl.1 rfl (Nat.le_of_ble_eq_true rfl) dX7_force_1 (fun H locs hw => ?_)
  refine lv_if_eq (tgt := 21) hx hb dX7_force_4 (by decide) (fun c => ?_) (fun c => ?_)
  · have h := (it_d h).1 c
    exact B21 S1 _ _ ls h hw (lv_sub hl [0] rfl)
  · have h := (it_d h).2 c
    refine lv_iload_n hx hb dX7_force_7 rfl (lv_at hl 2 rfl) ?_
    obtain ⟨r2, S2, hv, h⟩ := b2_some h
    refine x_callSI C hw (mX7_isGrade hv) lkX7_86 rfl (Nat.le_of_ble_eq_true rfl) hl.1 rfl (Nat.le_of_ble_eq_true rfl) dX7_force_8 (fun H locs hw => ?_)
    refine lv_if_eq (tgt := 21) hx hb dX7_force_11 (by decide) (fun c => ?_) (fun c => ?_)
    · have h := (it_d h).1 c
      exact B21 S2 _ _ ls h hw (lv_sub hl [0] rfl)
    · have h := (it_d h).2 c
      refine lv_iload_n hx hb dX7_force_14 rfl (lv_at hl 3 rfl) ?_
      obtain ⟨r3, S3, hv, h⟩ := b2_some h
      refine x_callSI C hw (mX7_isDay hv) lkX7_41 rfl (Nat.le_of_ble_eq_true rfl) hl.1 rfl (Nat.le_of_ble_eq_true rfl) dX7_force_15 (fun H locs hw => ?_)
      refine lv_if_ne (tgt := 28) hx hb dX7_force_18 (by decide) (fun c => ?_) (fun c => ?_)
      · have h := (it_d h).2 c
        refine lv_aload_n hx hb dX7_force_28 rfl (lv_at hl 0 rfl) ?_
        refine x_getR C hw gtX7_12 dX7_force_29 ?_
        refine x_getR C hw gtX7_105 dX7_force_32 ?_
        refine lv_iload_n hx hb dX7_force_35 rfl (lv_at hl 1 rfl) ?_
        refine lv_iload_n hx hb dX7_force_36 rfl (lv_at hl 2 rfl) ?_
        refine lv_iload_n hx hb dX7_force_37 rfl (lv_at hl 3 rfl) ?_
        obtain ⟨r4, S4, hv, h⟩ := b2_some h
        refine x_callVI C hw (mX5_inForce hv) lkX7_118 rfl (Nat.le_of_ble_eq_true rfl) hl.1 rfl (Nat.le_of_ble_eq_true rfl) dX7_force_38 (fun H locs hw => ?_)
        refine lv_istore (lv' := [(4, .int r4), (0, .ref (ad 0)), (1, .int x1), (2, .int x2), (3, .int x3)]) hx hb dX7_force_41 hl (by decide) rfl (fun ls hl => ?_)
        refine lv_iload hx hb dX7_force_43 (lv_at hl 0 rfl) ?_
        refine lv_if_ge (tgt := 57) hx hb dX7_force_45 (by decide) (fun c => ?_) (fun c => ?_)
        · have h := (it_d h).1 c
          refine lv_iload hx hb dX7_force_57 (lv_at hl 0 rfl) ?_
          exact x_iret C hw h dX7_force_59
        · have h := (it_d h).2 c
          refine lv_aload_n hx hb dX7_force_48 rfl (lv_at hl 1 rfl) ?_
          refine lv_ldc (v := (-1000002)) hx hb hown (hts _ kwX7_121) dX7_force_49 ?_
          obtain ⟨r5, S5, hv, h⟩ := b2_some h
          refine x_callVI C hw (mX7_finding hv) lkX7_49 rfl (Nat.le_of_ble_eq_true rfl) hl.1 rfl (Nat.le_of_ble_eq_true rfl) dX7_force_51 (fun H locs hw => ?_)
          refine lv_goto (tgt := 59) hx hb dX7_force_54 (by decide) ?_
          exact x_iret C hw h dX7_force_59
      · have h := (it_d h).1 c
        exact B21 S3 _ _ ls h hw (lv_sub hl [0] rfl)
set_option maxHeartbeats 4000000 in
set_option maxRecDepth 100000 in
theorem mX7_found {N : Nat} {l : Launch} {D : va_G} {ad : Nat → Nat} {cI cZ : ClassId} {S Sz : SS} {x1 : Int32} {rz : Int32} (h : fX7_found N S x1 = some (rz, Sz)) : MI l D lyX ad cI cZ yX7_found cX7_found 2 (some .int) 2 [.ref (ad 0), .int x1] S rz Sz := by
  refine x_startI RX7 (by decide) rfl (Nat.le_of_ble_eq_true rfl) ?_
  intro p e s m args below meth c A C hw ls hl
  have hx := C.1
  have hb := C.2.1
  have hown := C.2.2.2.1
  have hts := C.2.2.2.2.1
  have hl : lv_has ls 2 [(0, .ref (ad 0)), (1, .int x1)] := hl
  unfold fX7_found at h
  refine lv_iload_n hx hb dX7_found_0 rfl (lv_at hl 1 rfl) ?_
  refine lv_iconst (v := 1) hx hb dX7_found_1 (by decide) ?_
  refine lv_iconst (v := 5) hx hb dX7_found_2 (by decide) ?_
  obtain ⟨r1, S1, hv, h⟩ := b2_some h
  refine x_callSI C hw (mX7_isWithin hv) lkX7_44 rfl (Nat.le_of_ble_eq_true rfl) hl.1 rfl (Nat.le_of_ble_eq_true rfl) dX7_found_3 (fun H locs hw => ?_)
  refine lv_if_ne (tgt := 16) hx hb dX7_found_6 (by decide) (fun c => ?_) (fun c => ?_)
  · have h := (it_d h).2 c
    refine lv_aload_n hx hb dX7_found_16 rfl (lv_at hl 0 rfl) ?_
    refine x_getR C hw gtX7_34 dX7_found_17 ?_
    refine lv_iload_n hx hb dX7_found_20 rfl (lv_at hl 1 rfl) ?_
    obtain ⟨v1, hv, h⟩ := bb_some h
    refine x_ald C hw alX_9 hv dX7_found_21 ?_
    exact x_iret C hw h dX7_found_22
  · have h := (it_d h).1 c
    refine lv_aload_n hx hb dX7_found_9 rfl (lv_at hl 0 rfl) ?_
    refine lv_ldc (v := (-1000001)) hx hb hown (hts _ kwX7_48) dX7_found_10 ?_
    obtain ⟨r2, S2, hv, h⟩ := b2_some h
    refine x_callVI C hw (mX7_finding hv) lkX7_49 rfl (Nat.le_of_ble_eq_true rfl) hl.1 rfl (Nat.le_of_ble_eq_true rfl) dX7_found_12 (fun H locs hw => ?_)
    exact x_iret C hw h dX7_found_15
set_option maxHeartbeats 4000000 in
set_option maxRecDepth 100000 in
theorem mX7_isAsked {N : Nat} {l : Launch} {D : va_G} {ad : Nat → Nat} {cI cZ : ClassId} {S Sz : SS} {x1 x2 x3 x4 : Int32} {rz : Int32} (h : fX7_isAsked N S x1 x2 x3 x4 = some (rz, Sz)) : MI l D lyX ad cI cZ yX7_isAsked cX7_isAsked 5 (some .boolean) 2 [.ref (ad 0), .int x1, .int x2, .int x3, .int x4] S rz Sz := by
  refine x_startI RX7 (by decide) rfl (Nat.le_of_ble_eq_true rfl) ?_
  intro p e s m args below meth c A C hw ls hl
  have hx := C.1
  have hb := C.2.1
  have hown := C.2.2.2.1
  have hts := C.2.2.2.2.1
  have hl : lv_has ls 5 [(0, .ref (ad 0)), (1, .int x1), (2, .int x2), (3, .int x3), (4, .int x4)] := hl
  unfold fX7_isAsked at h
  refine lv_aload_n hx hb dX7_isAsked_0 rfl (lv_at hl 0 rfl) ?_
  refine x_getR C hw gtX7_12 dX7_isAsked_1 ?_
  refine x_getR C hw gtX7_53 dX7_isAsked_4 ?_
  refine lv_iload_n hx hb dX7_isAsked_7 rfl (lv_at hl 1 rfl) ?_
  obtain ⟨r1, S1, hv, h⟩ := b2_some h
  refine x_callVI C hw (mX4_holds hv) lkX7_67 rfl (Nat.le_of_ble_eq_true rfl) hl.1 rfl (Nat.le_of_ble_eq_true rfl) dX7_isAsked_8 (fun H locs hw => ?_)
  refine lv_if_eq (tgt := 40) hx hb dX7_isAsked_11 (by decide) (fun c => ?_) (fun c => ?_)
  · have h := (it_d h).1 c
    refine lv_iconst (v := 0) hx hb dX7_isAsked_40 (by decide) ?_
    exact x_zret C hw h dX7_isAsked_41
  · have h := (it_d h).2 c
    refine lv_iload_n hx hb dX7_isAsked_14 rfl (lv_at hl 2 rfl) ?_
    obtain ⟨r2, S2, hv, h⟩ := b2_some h
    refine x_callSI C hw (mX7_isUnion hv) lkX7_83 rfl (Nat.le_of_ble_eq_true rfl) hl.1 rfl (Nat.le_of_ble_eq_true rfl) dX7_isAsked_15 (fun H locs hw => ?_)
    refine lv_if_eq (tgt := 40) hx hb dX7_isAsked_18 (by decide) (fun c => ?_) (fun c => ?_)
    · have h := (it_d h).1 c
      refine lv_iconst (v := 0) hx hb dX7_isAsked_40 (by decide) ?_
      exact x_zret C hw h dX7_isAsked_41
    · have h := (it_d h).2 c
      refine lv_iload_n hx hb dX7_isAsked_21 rfl (lv_at hl 3 rfl) ?_
      obtain ⟨r3, S3, hv, h⟩ := b2_some h
      refine x_callSI C hw (mX7_isGrade hv) lkX7_86 rfl (Nat.le_of_ble_eq_true rfl) hl.1 rfl (Nat.le_of_ble_eq_true rfl) dX7_isAsked_22 (fun H locs hw => ?_)
      refine lv_if_eq (tgt := 40) hx hb dX7_isAsked_25 (by decide) (fun c => ?_) (fun c => ?_)
      · have h := (it_d h).1 c
        refine lv_iconst (v := 0) hx hb dX7_isAsked_40 (by decide) ?_
        exact x_zret C hw h dX7_isAsked_41
      · have h := (it_d h).2 c
        refine lv_iload hx hb dX7_isAsked_28 (lv_at hl 4 rfl) ?_
        obtain ⟨r4, S4, hv, h⟩ := b2_some h
        refine x_callSI C hw (mX7_isDay hv) lkX7_41 rfl (Nat.le_of_ble_eq_true rfl) hl.1 rfl (Nat.le_of_ble_eq_true rfl) dX7_isAsked_30 (fun H locs hw => ?_)
        refine lv_if_eq (tgt := 40) hx hb dX7_isAsked_33 (by decide) (fun c => ?_) (fun c => ?_)
        · have h := (it_d h).1 c
          refine lv_iconst (v := 0) hx hb dX7_isAsked_40 (by decide) ?_
          exact x_zret C hw h dX7_isAsked_41
        · have h := (it_d h).2 c
          refine lv_iconst (v := 1) hx hb dX7_isAsked_36 (by decide) ?_
          refine lv_goto (tgt := 41) hx hb dX7_isAsked_37 (by decide) ?_
          exact x_zret C hw h dX7_isAsked_41
set_option maxHeartbeats 4000000 in
set_option maxRecDepth 100000 in
theorem mX7_give {N : Nat} {l : Launch} {D : va_G} {ad : Nat → Nat} {cI cZ : ClassId} {S Sz : SS} {x1 x2 x3 x4 x5 : Int32} {rz : Int32} (h : fX7_give N S x1 x2 x3 x4 x5 = some (rz, Sz)) : MI l D lyX ad cI cZ yX7_give cX7_give 7 (some .int) 4 [.ref (ad 0), .int x1, .int x2, .int x3, .int x4, .int x5] S rz Sz := by
  refine x_startI RX7 (by decide) rfl (Nat.le_of_ble_eq_true rfl) ?_
  intro p e s m args below meth c A C hw ls hl
  have hx := C.1
  have hb := C.2.1
  have hown := C.2.2.2.1
  have hts := C.2.2.2.2.1
  have hl : lv_has ls 7 [(0, .ref (ad 0)), (1, .int x1), (2, .int x2), (3, .int x3), (4, .int x4), (5, .int x5)] := hl
  have B126 : ∀ (S : SS) (H : Heap) (locs : List Loc) (ls : Array Slot), fX7_give_b126 N S = some (rz, Sz) → WH D A s.heap lyX ad cI cZ S H locs → lv_has ls 7 [(0, .ref (ad 0))] → W p l e (rmK 4) s m args below meth c H locs 0 0 (MQ below (Qi D lyX ad cI cZ A rz Sz) args s 0 0 A) (F0 m 126 ls []) := by
    intro S  H locs ls h hw hl
    unfold fX7_give_b126 at h
    refine lv_aload_n hx hb dX7_give_126 rfl (lv_at hl 0 rfl) ?_
    refine lv_ldc (v := (-1000003)) hx hb hown (hts _ kwX7_151) dX7_give_127 ?_
    obtain ⟨r1, S1, hv, h⟩ := b2_some h
    refine x_callVI C hw (mX7_finding hv) lkX7_49 rfl (Nat.le_of_ble_eq_true rfl) hl.1 rfl (Nat.le_of_ble_eq_true rfl) dX7_give_129 (fun H locs hw => ?_)
    exact x_iret C hw h dX7_give_132
  have B42 : ∀ (S : SS) (H : Heap) (locs : List Loc) (ls : Array Slot), fX7_give_b42 N S = some (rz, Sz) → WH D A s.heap lyX ad cI cZ S H locs → lv_has ls 7 [(0, .ref (ad 0))] → W p l e (rmK 4) s m args below meth c H locs 0 0 (MQ below (Qi D lyX ad cI cZ A rz Sz) args s 0 0 A) (F0 m 42 ls []) := by
    intro S  H locs ls h hw hl
    unfold fX7_give_b42 at h
    refine lv_aload_n hx hb dX7_give_42 rfl (lv_at hl 0 rfl) ?_
    refine lv_ldc (v := (-1000001)) hx hb hown (hts _ kwX7_48) dX7_give_43 ?_
    obtain ⟨r1, S1, hv, h⟩ := b2_some h
    refine x_callVI C hw (mX7_finding hv) lkX7_49 rfl (Nat.le_of_ble_eq_true rfl) hl.1 rfl (Nat.le_of_ble_eq_true rfl) dX7_give_45 (fun H locs hw => ?_)
    exact x_iret C hw h dX7_give_48
  unfold fX7_give at h
  refine lv_aload_n hx hb dX7_give_0 rfl (lv_at hl 0 rfl) ?_
  refine lv_iload_n hx hb dX7_give_1 rfl (lv_at hl 1 rfl) ?_
  refine lv_iload_n hx hb dX7_give_2 rfl (lv_at hl 2 rfl) ?_
  refine lv_iload_n hx hb dX7_give_3 rfl (lv_at hl 3 rfl) ?_
  refine lv_iload hx hb dX7_give_4 (lv_at hl 4 rfl) ?_
  obtain ⟨r1, S1, hv, h⟩ := b2_some h
  refine x_callVI C hw (mX7_isAsked hv) lkX7_129 rfl (Nat.le_of_ble_eq_true rfl) hl.1 rfl (Nat.le_of_ble_eq_true rfl) dX7_give_6 (fun H locs hw => ?_)
  refine lv_if_eq (tgt := 42) hx hb dX7_give_9 (by decide) (fun c => ?_) (fun c => ?_)
  · have h := (it_d h).1 c
    exact B42 S1 _ _ ls h hw (lv_sub hl [0] rfl)
  · have h := (it_d h).2 c
    refine lv_aload_n hx hb dX7_give_12 rfl (lv_at hl 0 rfl) ?_
    refine x_getR C hw gtX7_12 dX7_give_13 ?_
    refine x_getR C hw gtX7_53 dX7_give_16 ?_
    refine lv_iload hx hb dX7_give_19 (lv_at hl 5 rfl) ?_
    obtain ⟨r2, S2, hv, h⟩ := b2_some h
    refine x_callVI C hw (mX4_areAll hv) lkX7_137 rfl (Nat.le_of_ble_eq_true rfl) hl.1 rfl (Nat.le_of_ble_eq_true rfl) dX7_give_21 (fun H locs hw => ?_)
    refine lv_if_eq (tgt := 42) hx hb dX7_give_24 (by decide) (fun c => ?_) (fun c => ?_)
    · have h := (it_d h).1 c
      exact B42 S2 _ _ ls h hw (lv_sub hl [0] rfl)
    · have h := (it_d h).2 c
      refine lv_iload hx hb dX7_give_27 (lv_at hl 4 rfl) ?_
      refine lv_aload_n hx hb dX7_give_29 rfl (lv_at hl 0 rfl) ?_
      refine x_getR C hw gtX7_12 dX7_give_30 ?_
      refine x_getR C hw gtX7_89 dX7_give_33 ?_
      obtain ⟨r3, S3, hv, h⟩ := b2_some h
      refine x_callVI C hw (mX2_latestDay hv) lkX7_147 rfl (Nat.le_of_ble_eq_true rfl) hl.1 rfl (Nat.le_of_ble_eq_true rfl) dX7_give_36 (fun H locs hw => ?_)
      refine lv_icmp_ge (tgt := 49) hx hb dX7_give_39 (by decide) (fun c => ?_) (fun c => ?_)
      · have h := (it_d h).1 c
        refine lv_aload_n hx hb dX7_give_49 rfl (lv_at hl 0 rfl) ?_
        refine x_getR C hw gtX7_12 dX7_give_50 ?_
        refine x_getR C hw gtX7_89 dX7_give_53 ?_
        refine lv_iload hx hb dX7_give_56 (lv_at hl 4 rfl) ?_
        obtain ⟨S4, hv, h⟩ := bb_some h
        refine x_callVV C hw (mX2_know hv) lkX7_122 rfl (Nat.le_of_ble_eq_true rfl) hl.1 rfl (Nat.le_of_ble_eq_true rfl) dX7_give_58 (fun H locs hw => ?_)
        refine lv_aload_n hx hb dX7_give_61 rfl (lv_at hl 0 rfl) ?_
        refine x_getR C hw gtX7_12 dX7_give_62 ?_
        refine x_getR C hw gtX7_105 dX7_give_65 ?_
        refine lv_iload_n hx hb dX7_give_68 rfl (lv_at hl 2 rfl) ?_
        refine lv_iload_n hx hb dX7_give_69 rfl (lv_at hl 3 rfl) ?_
        refine lv_iload hx hb dX7_give_70 (lv_at hl 4 rfl) ?_
        obtain ⟨r4, S5, hv, h⟩ := b2_some h
        refine x_callVI C hw (mX5_inForce hv) lkX7_118 rfl (Nat.le_of_ble_eq_true rfl) hl.1 rfl (Nat.le_of_ble_eq_true rfl) dX7_give_72 (fun H locs hw => ?_)
        refine lv_istore (lv' := [(6, .int r4), (0, .ref (ad 0)), (1, .int x1), (2, .int x2), (3, .int x3), (4, .int x4), (5, .int x5)]) hx hb dX7_give_75 hl (by decide) rfl (fun ls hl => ?_)
        refine lv_iload hx hb dX7_give_77 (lv_at hl 0 rfl) ?_
        refine lv_if_lt (tgt := 126) hx hb dX7_give_79 (by decide) (fun c => ?_) (fun c => ?_)
        · have h := (it_d h).1 c
          exact B126 S5 _ _ ls h hw (lv_sub hl [1] rfl)
        · have h := (it_d h).2 c
          refine lv_aload_n hx hb dX7_give_82 rfl (lv_at hl 1 rfl) ?_
          refine x_getR C hw gtX7_12 dX7_give_83 ?_
          refine lv_iload_n hx hb dX7_give_86 rfl (lv_at hl 2 rfl) ?_
          refine lv_iload_n hx hb dX7_give_87 rfl (lv_at hl 3 rfl) ?_
          refine lv_iload_n hx hb dX7_give_88 rfl (lv_at hl 4 rfl) ?_
          refine lv_iload hx hb dX7_give_89 (lv_at hl 5 rfl) ?_
          obtain ⟨r5, S6, hv, h⟩ := b2_some h
          refine x_callVI C hw (mX0_whyNot hv) lkX7_133 rfl (Nat.le_of_ble_eq_true rfl) hl.1 rfl (Nat.le_of_ble_eq_true rfl) dX7_give_91 (fun H locs hw => ?_)
          refine lv_if_ne (tgt := 126) hx hb dX7_give_94 (by decide) (fun c => ?_) (fun c => ?_)
          · have h := (it_d h).2 c
            exact B126 S6 _ _ ls h hw (lv_sub hl [1] rfl)
          · have h := (it_d h).1 c
            refine lv_aload_n hx hb dX7_give_97 rfl (lv_at hl 1 rfl) ?_
            refine x_getR C hw gtX7_12 dX7_give_98 ?_
            refine lv_iload_n hx hb dX7_give_101 rfl (lv_at hl 2 rfl) ?_
            refine lv_iload_n hx hb dX7_give_102 rfl (lv_at hl 3 rfl) ?_
            refine lv_iload hx hb dX7_give_103 (lv_at hl 5 rfl) ?_
            refine lv_iload hx hb dX7_give_105 (lv_at hl 6 rfl) ?_
            refine lv_aload_n hx hb dX7_give_107 rfl (lv_at hl 1 rfl) ?_
            refine x_getR C hw gtX7_12 dX7_give_108 ?_
            refine x_getR C hw gtX7_105 dX7_give_111 ?_
            refine x_getR C hw gtX7_140 dX7_give_114 ?_
            refine lv_iload hx hb dX7_give_117 (lv_at hl 0 rfl) ?_
            obtain ⟨v1, hv, h⟩ := bb_some h
            refine x_ald C hw alX_20 hv dX7_give_119 ?_
            obtain ⟨r6, S7, hv, h⟩ := b2_some h
            refine x_callVI C hw (mX0_whyNoPanel hv) lkX7_143 rfl (Nat.le_of_ble_eq_true rfl) hl.1 rfl (Nat.le_of_ble_eq_true rfl) dX7_give_120 (fun H locs hw => ?_)
            refine lv_if_eq (tgt := 133) hx hb dX7_give_123 (by decide) (fun c => ?_) (fun c => ?_)
            · have h := (it_d h).1 c
              refine lv_aload_n hx hb dX7_give_133 rfl (lv_at hl 1 rfl) ?_
              refine x_getR C hw gtX7_12 dX7_give_134 ?_
              refine x_getR C hw gtX7_89 dX7_give_137 ?_
              refine x_getI C hw gtX7_152 dX7_give_140 ?_
              refine lv_bipush (v := 60) hx hb dX7_give_143 (by decide) ?_
              refine lv_icmp_lt (tgt := 155) hx hb dX7_give_145 (by decide) (fun c => ?_) (fun c => ?_)
              · have h := (it_d h).1 c
                refine lv_aload_n hx hb dX7_give_155 rfl (lv_at hl 1 rfl) ?_
                refine x_getR C hw gtX7_12 dX7_give_156 ?_
                refine x_getR C hw gtX7_89 dX7_give_159 ?_
                refine lv_iload_n hx hb dX7_give_162 rfl (lv_at hl 2 rfl) ?_
                refine lv_iload_n hx hb dX7_give_163 rfl (lv_at hl 3 rfl) ?_
                refine lv_iload_n hx hb dX7_give_164 rfl (lv_at hl 4 rfl) ?_
                refine lv_iload hx hb dX7_give_165 (lv_at hl 5 rfl) ?_
                refine lv_iload hx hb dX7_give_167 (lv_at hl 6 rfl) ?_
                obtain ⟨r7, S8, hv, h⟩ := b2_some h
                refine x_callVI C hw (mX2_add hv) lkX7_153 rfl (Nat.le_of_ble_eq_true rfl) hl.1 rfl (Nat.le_of_ble_eq_true rfl) dX7_give_169 (fun H locs hw => ?_)
                exact x_iret C hw h dX7_give_172
              · have h := (it_d h).2 c
                refine lv_aload_n hx hb dX7_give_148 rfl (lv_at hl 1 rfl) ?_
                refine lv_ldc (v := (-1000004)) hx hb hown (hts _ kwX7_62) dX7_give_149 ?_
                obtain ⟨r8, S9, hv, h⟩ := b2_some h
                refine x_callVI C hw (mX7_finding hv) lkX7_49 rfl (Nat.le_of_ble_eq_true rfl) hl.1 rfl (Nat.le_of_ble_eq_true rfl) dX7_give_151 (fun H locs hw => ?_)
                exact x_iret C hw h dX7_give_154
            · have h := (it_d h).2 c
              exact B126 S7 _ _ ls h hw (lv_sub hl [1] rfl)
      · have h := (it_d h).2 c
        exact B42 S3 _ _ ls h hw (lv_sub hl [0] rfl)
set_option maxHeartbeats 4000000 in
set_option maxRecDepth 100000 in
theorem mX7_given {N : Nat} {l : Launch} {D : va_G} {ad : Nat → Nat} {cI cZ : ClassId} {S Sz : SS} {x1 : Int32} {rz : Int32} (h : fX7_given N S x1 = some (rz, Sz)) : MI l D lyX ad cI cZ yX7_given cX7_given 2 (some .int) 2 [.ref (ad 0), .int x1] S rz Sz := by
  refine x_startI RX7 (by decide) rfl (Nat.le_of_ble_eq_true rfl) ?_
  intro p e s m args below meth c A C hw ls hl
  have hx := C.1
  have hb := C.2.1
  have hown := C.2.2.2.1
  have hts := C.2.2.2.2.1
  have hl : lv_has ls 2 [(0, .ref (ad 0)), (1, .int x1)] := hl
  unfold fX7_given at h
  refine lv_iload_n hx hb dX7_given_0 rfl (lv_at hl 1 rfl) ?_
  refine lv_iconst (v := 0) hx hb dX7_given_1 (by decide) ?_
  refine lv_aload_n hx hb dX7_given_2 rfl (lv_at hl 0 rfl) ?_
  refine x_getR C hw gtX7_19 dX7_given_3 ?_
  refine x_getI C hw gtX7_192 dX7_given_6 ?_
  refine lv_iconst (v := 1) hx hb dX7_given_9 (by decide) ?_
  refine lv_isub hx hb dX7_given_10 ?_
  obtain ⟨r1, S1, hv, h⟩ := b2_some h
  refine x_callSI C hw (mX7_isWithin hv) lkX7_44 rfl (Nat.le_of_ble_eq_true rfl) hl.1 rfl (Nat.le_of_ble_eq_true rfl) dX7_given_11 (fun H locs hw => ?_)
  refine lv_if_ne (tgt := 24) hx hb dX7_given_14 (by decide) (fun c => ?_) (fun c => ?_)
  · have h := (it_d h).2 c
    refine lv_aload_n hx hb dX7_given_24 rfl (lv_at hl 0 rfl) ?_
    refine x_getR C hw gtX7_19 dX7_given_25 ?_
    refine x_getI C hw gtX7_202 dX7_given_28 ?_
    refine lv_if_ne (tgt := 41) hx hb dX7_given_31 (by decide) (fun c => ?_) (fun c => ?_)
    · have h := (it_d h).2 c
      refine lv_aload_n hx hb dX7_given_41 rfl (lv_at hl 0 rfl) ?_
      refine x_getR C hw gtX7_19 dX7_given_42 ?_
      refine x_getR C hw gtX7_206 dX7_given_45 ?_
      refine lv_iload_n hx hb dX7_given_48 rfl (lv_at hl 1 rfl) ?_
      obtain ⟨v1, hv, h⟩ := bb_some h
      refine x_ald C hw alX_36 hv dX7_given_49 ?_
      exact x_iret C hw h dX7_given_50
    · have h := (it_d h).1 c
      refine lv_aload_n hx hb dX7_given_34 rfl (lv_at hl 0 rfl) ?_
      refine lv_ldc (v := (-1000003)) hx hb hown (hts _ kwX7_151) dX7_given_35 ?_
      obtain ⟨r2, S2, hv, h⟩ := b2_some h
      refine x_callVI C hw (mX7_finding hv) lkX7_49 rfl (Nat.le_of_ble_eq_true rfl) hl.1 rfl (Nat.le_of_ble_eq_true rfl) dX7_given_37 (fun H locs hw => ?_)
      exact x_iret C hw h dX7_given_40
  · have h := (it_d h).1 c
    refine lv_aload_n hx hb dX7_given_17 rfl (lv_at hl 0 rfl) ?_
    refine lv_ldc (v := (-1000001)) hx hb hown (hts _ kwX7_48) dX7_given_18 ?_
    obtain ⟨r3, S3, hv, h⟩ := b2_some h
    refine x_callVI C hw (mX7_finding hv) lkX7_49 rfl (Nat.le_of_ble_eq_true rfl) hl.1 rfl (Nat.le_of_ble_eq_true rfl) dX7_given_20 (fun H locs hw => ?_)
    exact x_iret C hw h dX7_given_23
set_option maxHeartbeats 4000000 in
set_option maxRecDepth 100000 in
theorem mX7_go {N : Nat} {l : Launch} {D : va_G} {ad : Nat → Nat} {cI cZ : ClassId} {S Sz : SS} {rz : Int32} (h : fX7_go N S  = some (rz, Sz)) : MI l D lyX ad cI cZ yX7_go cX7_go 2 (some .int) 1 [.ref (ad 0)] S rz Sz := by
  refine x_startI RX7 (by decide) rfl (Nat.le_of_ble_eq_true rfl) ?_
  intro p e s m args below meth c A C hw ls hl
  have hx := C.1
  have hb := C.2.1
  have hown := C.2.2.2.1
  have hts := C.2.2.2.2.1
  have hl : lv_has ls 2 [(0, .ref (ad 0))] := hl
  unfold fX7_go at h
  refine lv_aload_n hx hb dX7_go_0 rfl (lv_at hl 0 rfl) ?_
  refine x_getR C hw gtX7_19 dX7_go_1 ?_
  refine x_getI C hw gtX7_192 dX7_go_4 ?_
  refine lv_istore_n (lv' := [(1, .int (S.1 6)), (0, .ref (ad 0))]) hx hb dX7_go_7 rfl hl (by decide) rfl (fun ls hl => ?_)
  refine lv_aload_n hx hb dX7_go_8 rfl (lv_at hl 1 rfl) ?_
  refine x_getR C hw gtX7_19 dX7_go_9 ?_
  obtain ⟨S1, hv, h⟩ := bb_some h
  refine x_callVV C hw (mX1_clear hv) lkX7_195 rfl (Nat.le_of_ble_eq_true rfl) hl.1 rfl (Nat.le_of_ble_eq_true rfl) dX7_go_12 (fun H locs hw => ?_)
  refine lv_iload_n hx hb dX7_go_15 rfl (lv_at hl 0 rfl) ?_
  exact x_iret C hw h dX7_go_16
set_option maxHeartbeats 4000000 in
set_option maxRecDepth 100000 in
theorem mX7_hard {N : Nat} {l : Launch} {D : va_G} {ad : Nat → Nat} {cI cZ : ClassId} {S Sz : SS} {x1 : Int32} {rz : Int32} (h : fX7_hard N S x1 = some (rz, Sz)) : MI l D lyX ad cI cZ yX7_hard cX7_hard 2 (some .int) 3 [.ref (ad 0), .int x1] S rz Sz := by
  refine x_startI RX7 (by decide) rfl (Nat.le_of_ble_eq_true rfl) ?_
  intro p e s m args below meth c A C hw ls hl
  have hx := C.1
  have hb := C.2.1
  have hown := C.2.2.2.1
  have hts := C.2.2.2.2.1
  have hl : lv_has ls 2 [(0, .ref (ad 0)), (1, .int x1)] := hl
  unfold fX7_hard at h
  refine lv_aload_n hx hb dX7_hard_0 rfl (lv_at hl 0 rfl) ?_
  refine x_getR C hw gtX7_12 dX7_hard_1 ?_
  refine x_getR C hw gtX7_53 dX7_hard_4 ?_
  refine lv_iload_n hx hb dX7_hard_7 rfl (lv_at hl 1 rfl) ?_
  obtain ⟨r1, S1, hv, h⟩ := b2_some h
  refine x_callVI C hw (mX4_holds hv) lkX7_67 rfl (Nat.le_of_ble_eq_true rfl) hl.1 rfl (Nat.le_of_ble_eq_true rfl) dX7_hard_8 (fun H locs hw => ?_)
  refine lv_if_ne (tgt := 21) hx hb dX7_hard_11 (by decide) (fun c => ?_) (fun c => ?_)
  · have h := (it_d h).2 c
    refine lv_aload_n hx hb dX7_hard_21 rfl (lv_at hl 0 rfl) ?_
    refine x_getR C hw gtX7_12 dX7_hard_22 ?_
    refine x_getR C hw gtX7_53 dX7_hard_25 ?_
    refine lv_iload_n hx hb dX7_hard_28 rfl (lv_at hl 1 rfl) ?_
    obtain ⟨r2, S2, hv, h⟩ := b2_some h
    refine x_callVI C hw (mX4_isExaminer hv) lkX7_175 rfl (Nat.le_of_ble_eq_true rfl) hl.1 rfl (Nat.le_of_ble_eq_true rfl) dX7_hard_29 (fun H locs hw => ?_)
    refine lv_if_ne (tgt := 42) hx hb dX7_hard_32 (by decide) (fun c => ?_) (fun c => ?_)
    · have h := (it_d h).2 c
      refine lv_aload_n hx hb dX7_hard_42 rfl (lv_at hl 0 rfl) ?_
      refine x_getR C hw gtX7_26 dX7_hard_43 ?_
      refine lv_iload_n hx hb dX7_hard_46 rfl (lv_at hl 1 rfl) ?_
      obtain ⟨r3, S3, hv, h⟩ := b2_some h
      refine x_callVI C hw (mX3_hardness hv) lkX7_229 rfl (Nat.le_of_ble_eq_true rfl) hl.1 rfl (Nat.le_of_ble_eq_true rfl) dX7_hard_47 (fun H locs hw => ?_)
      exact x_iret C hw h dX7_hard_50
    · have h := (it_d h).1 c
      refine lv_aload_n hx hb dX7_hard_35 rfl (lv_at hl 0 rfl) ?_
      refine lv_ldc (v := (-1000005)) hx hb hown (hts _ kwX7_73) dX7_hard_36 ?_
      obtain ⟨r4, S4, hv, h⟩ := b2_some h
      refine x_callVI C hw (mX7_finding hv) lkX7_49 rfl (Nat.le_of_ble_eq_true rfl) hl.1 rfl (Nat.le_of_ble_eq_true rfl) dX7_hard_38 (fun H locs hw => ?_)
      exact x_iret C hw h dX7_hard_41
  · have h := (it_d h).1 c
    refine lv_aload_n hx hb dX7_hard_14 rfl (lv_at hl 0 rfl) ?_
    refine lv_ldc (v := (-1000001)) hx hb hown (hts _ kwX7_48) dX7_hard_15 ?_
    obtain ⟨r5, S5, hv, h⟩ := b2_some h
    refine x_callVI C hw (mX7_finding hv) lkX7_49 rfl (Nat.le_of_ble_eq_true rfl) hl.1 rfl (Nat.le_of_ble_eq_true rfl) dX7_hard_17 (fun H locs hw => ?_)
    exact x_iret C hw h dX7_hard_20
set_option maxHeartbeats 4000000 in
set_option maxRecDepth 100000 in
theorem mX7_has {N : Nat} {l : Launch} {D : va_G} {ad : Nat → Nat} {cI cZ : ClassId} {S Sz : SS} {x1 x2 x3 x4 : Int32} {rz : Int32} (h : fX7_has N S x1 x2 x3 x4 = some (rz, Sz)) : MI l D lyX ad cI cZ yX7_has cX7_has 5 (some .int) 3 [.ref (ad 0), .int x1, .int x2, .int x3, .int x4] S rz Sz := by
  refine x_startI RX7 (by decide) rfl (Nat.le_of_ble_eq_true rfl) ?_
  intro p e s m args below meth c A C hw ls hl
  have hx := C.1
  have hb := C.2.1
  have hown := C.2.2.2.1
  have hts := C.2.2.2.2.1
  have hl : lv_has ls 5 [(0, .ref (ad 0)), (1, .int x1), (2, .int x2), (3, .int x3), (4, .int x4)] := hl
  have B36 : ∀ (S : SS) (H : Heap) (locs : List Loc) (ls : Array Slot), fX7_has_b36 N S = some (rz, Sz) → WH D A s.heap lyX ad cI cZ S H locs → lv_has ls 5 [(0, .ref (ad 0))] → W p l e (rmK 3) s m args below meth c H locs 0 0 (MQ below (Qi D lyX ad cI cZ A rz Sz) args s 0 0 A) (F0 m 36 ls []) := by
    intro S  H locs ls h hw hl
    unfold fX7_has_b36 at h
    refine lv_aload_n hx hb dX7_has_36 rfl (lv_at hl 0 rfl) ?_
    refine lv_ldc (v := (-1000001)) hx hb hown (hts _ kwX7_48) dX7_has_37 ?_
    obtain ⟨r1, S1, hv, h⟩ := b2_some h
    refine x_callVI C hw (mX7_finding hv) lkX7_49 rfl (Nat.le_of_ble_eq_true rfl) hl.1 rfl (Nat.le_of_ble_eq_true rfl) dX7_has_39 (fun H locs hw => ?_)
    exact x_iret C hw h dX7_has_42
  unfold fX7_has at h
  refine lv_aload_n hx hb dX7_has_0 rfl (lv_at hl 0 rfl) ?_
  refine x_getR C hw gtX7_12 dX7_has_1 ?_
  refine x_getR C hw gtX7_53 dX7_has_4 ?_
  refine lv_iload_n hx hb dX7_has_7 rfl (lv_at hl 1 rfl) ?_
  obtain ⟨r1, S1, hv, h⟩ := b2_some h
  refine x_callVI C hw (mX4_holds hv) lkX7_67 rfl (Nat.le_of_ble_eq_true rfl) hl.1 rfl (Nat.le_of_ble_eq_true rfl) dX7_has_8 (fun H locs hw => ?_)
  refine lv_if_eq (tgt := 36) hx hb dX7_has_11 (by decide) (fun c => ?_) (fun c => ?_)
  · have h := (it_d h).1 c
    exact B36 S1 _ _ ls h hw (lv_sub hl [0] rfl)
  · have h := (it_d h).2 c
    refine lv_iload_n hx hb dX7_has_14 rfl (lv_at hl 2 rfl) ?_
    obtain ⟨r2, S2, hv, h⟩ := b2_some h
    refine x_callSI C hw (mX7_isUnion hv) lkX7_83 rfl (Nat.le_of_ble_eq_true rfl) hl.1 rfl (Nat.le_of_ble_eq_true rfl) dX7_has_15 (fun H locs hw => ?_)
    refine lv_if_eq (tgt := 36) hx hb dX7_has_18 (by decide) (fun c => ?_) (fun c => ?_)
    · have h := (it_d h).1 c
      exact B36 S2 _ _ ls h hw (lv_sub hl [0] rfl)
    · have h := (it_d h).2 c
      refine lv_iload_n hx hb dX7_has_21 rfl (lv_at hl 3 rfl) ?_
      obtain ⟨r3, S3, hv, h⟩ := b2_some h
      refine x_callSI C hw (mX7_isDay hv) lkX7_41 rfl (Nat.le_of_ble_eq_true rfl) hl.1 rfl (Nat.le_of_ble_eq_true rfl) dX7_has_22 (fun H locs hw => ?_)
      refine lv_if_eq (tgt := 36) hx hb dX7_has_25 (by decide) (fun c => ?_) (fun c => ?_)
      · have h := (it_d h).1 c
        exact B36 S3 _ _ ls h hw (lv_sub hl [0] rfl)
      · have h := (it_d h).2 c
        refine lv_iload hx hb dX7_has_28 (lv_at hl 4 rfl) ?_
        obtain ⟨r4, S4, hv, h⟩ := b2_some h
        refine x_callSI C hw (mX7_isDay hv) lkX7_41 rfl (Nat.le_of_ble_eq_true rfl) hl.1 rfl (Nat.le_of_ble_eq_true rfl) dX7_has_30 (fun H locs hw => ?_)
        refine lv_if_ne (tgt := 43) hx hb dX7_has_33 (by decide) (fun c => ?_) (fun c => ?_)
        · have h := (it_d h).2 c
          refine lv_aload_n hx hb dX7_has_43 rfl (lv_at hl 0 rfl) ?_
          refine x_getR C hw gtX7_12 dX7_has_44 ?_
          refine x_getR C hw gtX7_89 dX7_has_47 ?_
          refine lv_iload hx hb dX7_has_50 (lv_at hl 4 rfl) ?_
          obtain ⟨S5, hv, h⟩ := bb_some h
          refine x_callVV C hw (mX2_know hv) lkX7_122 rfl (Nat.le_of_ble_eq_true rfl) hl.1 rfl (Nat.le_of_ble_eq_true rfl) dX7_has_52 (fun H locs hw => ?_)
          refine lv_aload_n hx hb dX7_has_55 rfl (lv_at hl 0 rfl) ?_
          refine x_getR C hw gtX7_12 dX7_has_56 ?_
          refine x_getR C hw gtX7_89 dX7_has_59 ?_
          refine lv_iload_n hx hb dX7_has_62 rfl (lv_at hl 1 rfl) ?_
          refine lv_iload_n hx hb dX7_has_63 rfl (lv_at hl 2 rfl) ?_
          refine lv_iload_n hx hb dX7_has_64 rfl (lv_at hl 3 rfl) ?_
          obtain ⟨r5, S6, hv, h⟩ := b2_some h
          refine x_callVI C hw (mX2_heldOn hv) lkX7_126 rfl (Nat.le_of_ble_eq_true rfl) hl.1 rfl (Nat.le_of_ble_eq_true rfl) dX7_has_65 (fun H locs hw => ?_)
          exact x_iret C hw h dX7_has_68
        · have h := (it_d h).1 c
          exact B36 S4 _ _ ls h hw (lv_sub hl [0] rfl)
set_option maxHeartbeats 4000000 in
set_option maxRecDepth 100000 in
theorem mX7_licence {N : Nat} {l : Launch} {D : va_G} {ad : Nat → Nat} {cI cZ : ClassId} {S Sz : SS} {x1 x2 : Int32} {rz : Int32} (h : fX7_licence N S x1 x2 = some (rz, Sz)) : MI l D lyX ad cI cZ yX7_licence cX7_licence 4 (some .int) 2 [.ref (ad 0), .int x1, .int x2] S rz Sz := by
  refine x_startI RX7 (by decide) rfl (Nat.le_of_ble_eq_true rfl) ?_
  intro p e s m args below meth c A C hw ls hl
  have hx := C.1
  have hb := C.2.1
  have hown := C.2.2.2.1
  have hts := C.2.2.2.2.1
  have hl : lv_has ls 4 [(0, .ref (ad 0)), (1, .int x1), (2, .int x2)] := hl
  have B21 : ∀ (S : SS) (H : Heap) (locs : List Loc) (ls : Array Slot), fX7_licence_b21 N S = some (rz, Sz) → WH D A s.heap lyX ad cI cZ S H locs → lv_has ls 4 [(0, .ref (ad 0))] → W p l e (rmK 2) s m args below meth c H locs 0 0 (MQ below (Qi D lyX ad cI cZ A rz Sz) args s 0 0 A) (F0 m 21 ls []) := by
    intro S  H locs ls h hw hl
    unfold fX7_licence_b21 at h
    refine lv_aload_n hx hb dX7_licence_21 rfl (lv_at hl 0 rfl) ?_
    refine lv_ldc (v := (-1000001)) hx hb hown (hts _ kwX7_48) dX7_licence_22 ?_
    obtain ⟨r1, S1, hv, h⟩ := b2_some h
    refine x_callVI C hw (mX7_finding hv) lkX7_49 rfl (Nat.le_of_ble_eq_true rfl) hl.1 rfl (Nat.le_of_ble_eq_true rfl) dX7_licence_24 (fun H locs hw => ?_)
    exact x_iret C hw h dX7_licence_27
  unfold fX7_licence at h
  refine lv_aload_n hx hb dX7_licence_0 rfl (lv_at hl 0 rfl) ?_
  refine x_getR C hw gtX7_12 dX7_licence_1 ?_
  refine x_getR C hw gtX7_53 dX7_licence_4 ?_
  refine lv_iload_n hx hb dX7_licence_7 rfl (lv_at hl 1 rfl) ?_
  obtain ⟨r1, S1, hv, h⟩ := b2_some h
  refine x_callVI C hw (mX4_holds hv) lkX7_67 rfl (Nat.le_of_ble_eq_true rfl) hl.1 rfl (Nat.le_of_ble_eq_true rfl) dX7_licence_8 (fun H locs hw => ?_)
  refine lv_if_eq (tgt := 21) hx hb dX7_licence_11 (by decide) (fun c => ?_) (fun c => ?_)
  · have h := (it_d h).1 c
    exact B21 S1 _ _ ls h hw (lv_sub hl [0] rfl)
  · have h := (it_d h).2 c
    refine lv_iload_n hx hb dX7_licence_14 rfl (lv_at hl 2 rfl) ?_
    obtain ⟨r2, S2, hv, h⟩ := b2_some h
    refine x_callSI C hw (mX7_isDay hv) lkX7_41 rfl (Nat.le_of_ble_eq_true rfl) hl.1 rfl (Nat.le_of_ble_eq_true rfl) dX7_licence_15 (fun H locs hw => ?_)
    refine lv_if_ne (tgt := 28) hx hb dX7_licence_18 (by decide) (fun c => ?_) (fun c => ?_)
    · have h := (it_d h).2 c
      refine lv_aload_n hx hb dX7_licence_28 rfl (lv_at hl 0 rfl) ?_
      refine x_getR C hw gtX7_12 dX7_licence_29 ?_
      refine x_getR C hw gtX7_53 dX7_licence_32 ?_
      refine x_getR C hw gtX7_77 dX7_licence_35 ?_
      refine lv_iload_n hx hb dX7_licence_38 rfl (lv_at hl 1 rfl) ?_
      obtain ⟨v1, hv, h⟩ := bb_some h
      refine x_ald C hw alX_13 hv dX7_licence_39 ?_
      refine lv_istore_n (lv' := [(3, .int v1), (0, .ref (ad 0)), (1, .int x1), (2, .int x2)]) hx hb dX7_licence_40 rfl hl (by decide) rfl (fun ls hl => ?_)
      refine lv_aload_n hx hb dX7_licence_41 rfl (lv_at hl 1 rfl) ?_
      refine x_getR C hw gtX7_12 dX7_licence_42 ?_
      refine x_getR C hw gtX7_53 dX7_licence_45 ?_
      refine x_getR C hw gtX7_77 dX7_licence_48 ?_
      refine lv_iload_n hx hb dX7_licence_51 rfl (lv_at hl 2 rfl) ?_
      refine lv_iload_n hx hb dX7_licence_52 rfl (lv_at hl 3 rfl) ?_
      obtain ⟨S3, hv, h⟩ := bb_some h
      refine x_ast C hw alX_13 hv dX7_licence_53 (fun H locs hw => ?_)
      refine lv_iload_n hx hb dX7_licence_54 rfl (lv_at hl 0 rfl) ?_
      exact x_iret C hw h dX7_licence_55
    · have h := (it_d h).1 c
      exact B21 S2 _ _ ls h hw (lv_sub hl [0] rfl)
set_option maxHeartbeats 4000000 in
set_option maxRecDepth 100000 in
theorem mX7_mark {N : Nat} {l : Launch} {D : va_G} {ad : Nat → Nat} {cI cZ : ClassId} {S Sz : SS} {x1 x2 x3 : Int32} {rz : Int32} (h : fX7_mark N S x1 x2 x3 = some (rz, Sz)) : MI l D lyX ad cI cZ yX7_mark cX7_mark 5 (some .int) 2 [.ref (ad 0), .int x1, .int x2, .int x3] S rz Sz := by
  refine x_startI RX7 (by decide) rfl (Nat.le_of_ble_eq_true rfl) ?_
  intro p e s m args below meth c A C hw ls hl
  have hx := C.1
  have hb := C.2.1
  have hown := C.2.2.2.1
  have hts := C.2.2.2.2.1
  have hl : lv_has ls 5 [(0, .ref (ad 0)), (1, .int x1), (2, .int x2), (3, .int x3)] := hl
  have B35 : ∀ (S : SS) (H : Heap) (locs : List Loc) (ls : Array Slot), fX7_mark_b35 N S = some (rz, Sz) → WH D A s.heap lyX ad cI cZ S H locs → lv_has ls 5 [(0, .ref (ad 0))] → W p l e (rmK 2) s m args below meth c H locs 0 0 (MQ below (Qi D lyX ad cI cZ A rz Sz) args s 0 0 A) (F0 m 35 ls []) := by
    intro S  H locs ls h hw hl
    unfold fX7_mark_b35 at h
    refine lv_aload_n hx hb dX7_mark_35 rfl (lv_at hl 0 rfl) ?_
    refine lv_ldc (v := (-1000001)) hx hb hown (hts _ kwX7_48) dX7_mark_36 ?_
    obtain ⟨r1, S1, hv, h⟩ := b2_some h
    refine x_callVI C hw (mX7_finding hv) lkX7_49 rfl (Nat.le_of_ble_eq_true rfl) hl.1 rfl (Nat.le_of_ble_eq_true rfl) dX7_mark_38 (fun H locs hw => ?_)
    exact x_iret C hw h dX7_mark_41
  unfold fX7_mark at h
  refine lv_aload_n hx hb dX7_mark_0 rfl (lv_at hl 0 rfl) ?_
  refine x_getR C hw gtX7_26 dX7_mark_1 ?_
  refine lv_iload_n hx hb dX7_mark_4 rfl (lv_at hl 1 rfl) ?_
  obtain ⟨r1, S1, hv, h⟩ := b2_some h
  refine x_callVI C hw (mX3_holds hv) lkX7_212 rfl (Nat.le_of_ble_eq_true rfl) hl.1 rfl (Nat.le_of_ble_eq_true rfl) dX7_mark_5 (fun H locs hw => ?_)
  refine lv_if_eq (tgt := 35) hx hb dX7_mark_8 (by decide) (fun c => ?_) (fun c => ?_)
  · have h := (it_d h).1 c
    exact B35 S1 _ _ ls h hw (lv_sub hl [0] rfl)
  · have h := (it_d h).2 c
    refine lv_aload_n hx hb dX7_mark_11 rfl (lv_at hl 0 rfl) ?_
    refine x_getR C hw gtX7_12 dX7_mark_12 ?_
    refine x_getR C hw gtX7_53 dX7_mark_15 ?_
    refine lv_iload_n hx hb dX7_mark_18 rfl (lv_at hl 2 rfl) ?_
    obtain ⟨r2, S2, hv, h⟩ := b2_some h
    refine x_callVI C hw (mX4_holds hv) lkX7_67 rfl (Nat.le_of_ble_eq_true rfl) hl.1 rfl (Nat.le_of_ble_eq_true rfl) dX7_mark_19 (fun H locs hw => ?_)
    refine lv_if_eq (tgt := 35) hx hb dX7_mark_22 (by decide) (fun c => ?_) (fun c => ?_)
    · have h := (it_d h).1 c
      exact B35 S2 _ _ ls h hw (lv_sub hl [0] rfl)
    · have h := (it_d h).2 c
      refine lv_iload_n hx hb dX7_mark_25 rfl (lv_at hl 3 rfl) ?_
      refine lv_iconst (v := 0) hx hb dX7_mark_26 (by decide) ?_
      refine lv_bipush (v := 100) hx hb dX7_mark_27 (by decide) ?_
      obtain ⟨r3, S3, hv, h⟩ := b2_some h
      refine x_callSI C hw (mX7_isWithin hv) lkX7_44 rfl (Nat.le_of_ble_eq_true rfl) hl.1 rfl (Nat.le_of_ble_eq_true rfl) dX7_mark_29 (fun H locs hw => ?_)
      refine lv_if_ne (tgt := 42) hx hb dX7_mark_32 (by decide) (fun c => ?_) (fun c => ?_)
      · have h := (it_d h).2 c
        refine lv_aload_n hx hb dX7_mark_42 rfl (lv_at hl 0 rfl) ?_
        refine x_getR C hw gtX7_12 dX7_mark_43 ?_
        refine x_getR C hw gtX7_53 dX7_mark_46 ?_
        refine lv_iload_n hx hb dX7_mark_49 rfl (lv_at hl 2 rfl) ?_
        obtain ⟨r4, S4, hv, h⟩ := b2_some h
        refine x_callVI C hw (mX4_isExaminer hv) lkX7_175 rfl (Nat.le_of_ble_eq_true rfl) hl.1 rfl (Nat.le_of_ble_eq_true rfl) dX7_mark_50 (fun H locs hw => ?_)
        refine lv_if_ne (tgt := 63) hx hb dX7_mark_53 (by decide) (fun c => ?_) (fun c => ?_)
        · have h := (it_d h).2 c
          refine lv_aload_n hx hb dX7_mark_63 rfl (lv_at hl 0 rfl) ?_
          refine x_getR C hw gtX7_26 dX7_mark_64 ?_
          refine lv_iload_n hx hb dX7_mark_67 rfl (lv_at hl 1 rfl) ?_
          refine lv_iload_n hx hb dX7_mark_68 rfl (lv_at hl 2 rfl) ?_
          obtain ⟨r5, S5, hv, h⟩ := b2_some h
          refine x_callVI C hw (mX3_placeFor hv) lkX7_213 rfl (Nat.le_of_ble_eq_true rfl) hl.1 rfl (Nat.le_of_ble_eq_true rfl) dX7_mark_69 (fun H locs hw => ?_)
          refine lv_istore (lv' := [(4, .int r5), (0, .ref (ad 0)), (1, .int x1), (2, .int x2), (3, .int x3)]) hx hb dX7_mark_72 hl (by decide) rfl (fun ls hl => ?_)
          refine lv_iload hx hb dX7_mark_74 (lv_at hl 0 rfl) ?_
          refine lv_iconst (v := 5) hx hb dX7_mark_76 (by decide) ?_
          refine lv_icmp_lt (tgt := 87) hx hb dX7_mark_77 (by decide) (fun c => ?_) (fun c => ?_)
          · have h := (it_d h).1 c
            refine lv_aload_n hx hb dX7_mark_87 rfl (lv_at hl 1 rfl) ?_
            refine x_getR C hw gtX7_26 dX7_mark_88 ?_
            refine lv_iload_n hx hb dX7_mark_91 rfl (lv_at hl 2 rfl) ?_
            refine lv_iload hx hb dX7_mark_92 (lv_at hl 0 rfl) ?_
            refine lv_iload_n hx hb dX7_mark_94 rfl (lv_at hl 3 rfl) ?_
            refine lv_iload_n hx hb dX7_mark_95 rfl (lv_at hl 4 rfl) ?_
            obtain ⟨r6, S6, hv, h⟩ := b2_some h
            refine x_callVI C hw (mX3_put hv) lkX7_217 rfl (Nat.le_of_ble_eq_true rfl) hl.1 rfl (Nat.le_of_ble_eq_true rfl) dX7_mark_96 (fun H locs hw => ?_)
            exact x_iret C hw h dX7_mark_99
          · have h := (it_d h).2 c
            refine lv_aload_n hx hb dX7_mark_80 rfl (lv_at hl 1 rfl) ?_
            refine lv_ldc (v := (-1000004)) hx hb hown (hts _ kwX7_62) dX7_mark_81 ?_
            obtain ⟨r7, S7, hv, h⟩ := b2_some h
            refine x_callVI C hw (mX7_finding hv) lkX7_49 rfl (Nat.le_of_ble_eq_true rfl) hl.1 rfl (Nat.le_of_ble_eq_true rfl) dX7_mark_83 (fun H locs hw => ?_)
            exact x_iret C hw h dX7_mark_86
        · have h := (it_d h).1 c
          refine lv_aload_n hx hb dX7_mark_56 rfl (lv_at hl 0 rfl) ?_
          refine lv_ldc (v := (-1000005)) hx hb hown (hts _ kwX7_73) dX7_mark_57 ?_
          obtain ⟨r8, S8, hv, h⟩ := b2_some h
          refine x_callVI C hw (mX7_finding hv) lkX7_49 rfl (Nat.le_of_ble_eq_true rfl) hl.1 rfl (Nat.le_of_ble_eq_true rfl) dX7_mark_59 (fun H locs hw => ?_)
          exact x_iret C hw h dX7_mark_62
      · have h := (it_d h).1 c
        exact B35 S3 _ _ ls h hw (lv_sub hl [0] rfl)
set_option maxHeartbeats 4000000 in
set_option maxRecDepth 100000 in
theorem mX7_middle {N : Nat} {l : Launch} {D : va_G} {ad : Nat → Nat} {cI cZ : ClassId} {S Sz : SS} {x1 : Int32} {rz : Int32} (h : fX7_middle N S x1 = some (rz, Sz)) : MI l D lyX ad cI cZ yX7_middle cX7_middle 2 (some .int) 2 [.ref (ad 0), .int x1] S rz Sz := by
  refine x_startI RX7 (by decide) rfl (Nat.le_of_ble_eq_true rfl) ?_
  intro p e s m args below meth c A C hw ls hl
  have hx := C.1
  have hb := C.2.1
  have hown := C.2.2.2.1
  have hts := C.2.2.2.2.1
  have hl : lv_has ls 2 [(0, .ref (ad 0)), (1, .int x1)] := hl
  unfold fX7_middle at h
  refine lv_aload_n hx hb dX7_middle_0 rfl (lv_at hl 0 rfl) ?_
  refine x_getR C hw gtX7_26 dX7_middle_1 ?_
  refine lv_iload_n hx hb dX7_middle_4 rfl (lv_at hl 1 rfl) ?_
  obtain ⟨r1, S1, hv, h⟩ := b2_some h
  refine x_callVI C hw (mX3_holds hv) lkX7_212 rfl (Nat.le_of_ble_eq_true rfl) hl.1 rfl (Nat.le_of_ble_eq_true rfl) dX7_middle_5 (fun H locs hw => ?_)
  refine lv_if_ne (tgt := 18) hx hb dX7_middle_8 (by decide) (fun c => ?_) (fun c => ?_)
  · have h := (it_d h).2 c
    refine lv_aload_n hx hb dX7_middle_18 rfl (lv_at hl 0 rfl) ?_
    refine x_getR C hw gtX7_26 dX7_middle_19 ?_
    refine lv_iload_n hx hb dX7_middle_22 rfl (lv_at hl 1 rfl) ?_
    obtain ⟨r2, S2, hv, h⟩ := b2_some h
    refine x_callVI C hw (mX3_isWhole hv) lkX7_220 rfl (Nat.le_of_ble_eq_true rfl) hl.1 rfl (Nat.le_of_ble_eq_true rfl) dX7_middle_23 (fun H locs hw => ?_)
    refine lv_if_ne (tgt := 36) hx hb dX7_middle_26 (by decide) (fun c => ?_) (fun c => ?_)
    · have h := (it_d h).2 c
      refine lv_aload_n hx hb dX7_middle_36 rfl (lv_at hl 0 rfl) ?_
      refine x_getR C hw gtX7_26 dX7_middle_37 ?_
      refine lv_iload_n hx hb dX7_middle_40 rfl (lv_at hl 1 rfl) ?_
      obtain ⟨r3, S3, hv, h⟩ := b2_some h
      refine x_callVI C hw (mX3_middleOf hv) lkX7_223 rfl (Nat.le_of_ble_eq_true rfl) hl.1 rfl (Nat.le_of_ble_eq_true rfl) dX7_middle_41 (fun H locs hw => ?_)
      exact x_iret C hw h dX7_middle_44
    · have h := (it_d h).1 c
      refine lv_aload_n hx hb dX7_middle_29 rfl (lv_at hl 0 rfl) ?_
      refine lv_ldc (v := (-1000003)) hx hb hown (hts _ kwX7_151) dX7_middle_30 ?_
      obtain ⟨r4, S4, hv, h⟩ := b2_some h
      refine x_callVI C hw (mX7_finding hv) lkX7_49 rfl (Nat.le_of_ble_eq_true rfl) hl.1 rfl (Nat.le_of_ble_eq_true rfl) dX7_middle_32 (fun H locs hw => ?_)
      exact x_iret C hw h dX7_middle_35
  · have h := (it_d h).1 c
    refine lv_aload_n hx hb dX7_middle_11 rfl (lv_at hl 0 rfl) ?_
    refine lv_ldc (v := (-1000001)) hx hb hown (hts _ kwX7_48) dX7_middle_12 ?_
    obtain ⟨r5, S5, hv, h⟩ := b2_some h
    refine x_callVI C hw (mX7_finding hv) lkX7_49 rfl (Nat.le_of_ble_eq_true rfl) hl.1 rfl (Nat.le_of_ble_eq_true rfl) dX7_middle_14 (fun H locs hw => ?_)
    exact x_iret C hw h dX7_middle_17
set_option maxHeartbeats 4000000 in
set_option maxRecDepth 100000 in
theorem mX7_panel {N : Nat} {l : Launch} {D : va_G} {ad : Nat → Nat} {cI cZ : ClassId} {S Sz : SS} {x1 x2 x3 x4 x5 : Int32} {rz : Int32} (h : fX7_panel N S x1 x2 x3 x4 x5 = some (rz, Sz)) : MI l D lyX ad cI cZ yX7_panel cX7_panel 7 (some .int) 4 [.ref (ad 0), .int x1, .int x2, .int x3, .int x4, .int x5] S rz Sz := by
  refine x_startI RX7 (by decide) rfl (Nat.le_of_ble_eq_true rfl) ?_
  intro p e s m args below meth c A C hw ls hl
  have hx := C.1
  have hb := C.2.1
  have hown := C.2.2.2.1
  have hts := C.2.2.2.2.1
  have hl : lv_has ls 7 [(0, .ref (ad 0)), (1, .int x1), (2, .int x2), (3, .int x3), (4, .int x4), (5, .int x5)] := hl
  have B27 : ∀ (S : SS) (H : Heap) (locs : List Loc) (ls : Array Slot), fX7_panel_b27 N S = some (rz, Sz) → WH D A s.heap lyX ad cI cZ S H locs → lv_has ls 7 [(0, .ref (ad 0))] → W p l e (rmK 4) s m args below meth c H locs 0 0 (MQ below (Qi D lyX ad cI cZ A rz Sz) args s 0 0 A) (F0 m 27 ls []) := by
    intro S  H locs ls h hw hl
    unfold fX7_panel_b27 at h
    refine lv_aload_n hx hb dX7_panel_27 rfl (lv_at hl 0 rfl) ?_
    refine lv_ldc (v := (-1000001)) hx hb hown (hts _ kwX7_48) dX7_panel_28 ?_
    obtain ⟨r1, S1, hv, h⟩ := b2_some h
    refine x_callVI C hw (mX7_finding hv) lkX7_49 rfl (Nat.le_of_ble_eq_true rfl) hl.1 rfl (Nat.le_of_ble_eq_true rfl) dX7_panel_30 (fun H locs hw => ?_)
    exact x_iret C hw h dX7_panel_33
  unfold fX7_panel at h
  refine lv_aload_n hx hb dX7_panel_0 rfl (lv_at hl 0 rfl) ?_
  refine lv_iload_n hx hb dX7_panel_1 rfl (lv_at hl 1 rfl) ?_
  refine lv_iload_n hx hb dX7_panel_2 rfl (lv_at hl 2 rfl) ?_
  refine lv_iload_n hx hb dX7_panel_3 rfl (lv_at hl 3 rfl) ?_
  refine lv_iload hx hb dX7_panel_4 (lv_at hl 4 rfl) ?_
  obtain ⟨r1, S1, hv, h⟩ := b2_some h
  refine x_callVI C hw (mX7_isAsked hv) lkX7_129 rfl (Nat.le_of_ble_eq_true rfl) hl.1 rfl (Nat.le_of_ble_eq_true rfl) dX7_panel_6 (fun H locs hw => ?_)
  refine lv_if_eq (tgt := 27) hx hb dX7_panel_9 (by decide) (fun c => ?_) (fun c => ?_)
  · have h := (it_d h).1 c
    exact B27 S1 _ _ ls h hw (lv_sub hl [0] rfl)
  · have h := (it_d h).2 c
    refine lv_aload_n hx hb dX7_panel_12 rfl (lv_at hl 0 rfl) ?_
    refine x_getR C hw gtX7_12 dX7_panel_13 ?_
    refine x_getR C hw gtX7_53 dX7_panel_16 ?_
    refine lv_iload hx hb dX7_panel_19 (lv_at hl 5 rfl) ?_
    obtain ⟨r2, S2, hv, h⟩ := b2_some h
    refine x_callVI C hw (mX4_areAll hv) lkX7_137 rfl (Nat.le_of_ble_eq_true rfl) hl.1 rfl (Nat.le_of_ble_eq_true rfl) dX7_panel_21 (fun H locs hw => ?_)
    refine lv_if_ne (tgt := 34) hx hb dX7_panel_24 (by decide) (fun c => ?_) (fun c => ?_)
    · have h := (it_d h).2 c
      refine lv_aload_n hx hb dX7_panel_34 rfl (lv_at hl 0 rfl) ?_
      refine x_getR C hw gtX7_12 dX7_panel_35 ?_
      refine x_getR C hw gtX7_105 dX7_panel_38 ?_
      refine lv_iload_n hx hb dX7_panel_41 rfl (lv_at hl 2 rfl) ?_
      refine lv_iload_n hx hb dX7_panel_42 rfl (lv_at hl 3 rfl) ?_
      refine lv_iload hx hb dX7_panel_43 (lv_at hl 4 rfl) ?_
      obtain ⟨r3, S3, hv, h⟩ := b2_some h
      refine x_callVI C hw (mX5_inForce hv) lkX7_118 rfl (Nat.le_of_ble_eq_true rfl) hl.1 rfl (Nat.le_of_ble_eq_true rfl) dX7_panel_45 (fun H locs hw => ?_)
      refine lv_istore (lv' := [(6, .int r3), (0, .ref (ad 0)), (1, .int x1), (2, .int x2), (3, .int x3), (4, .int x4), (5, .int x5)]) hx hb dX7_panel_48 hl (by decide) rfl (fun ls hl => ?_)
      refine lv_iload hx hb dX7_panel_50 (lv_at hl 0 rfl) ?_
      refine lv_if_ge (tgt := 62) hx hb dX7_panel_52 (by decide) (fun c => ?_) (fun c => ?_)
      · have h := (it_d h).1 c
        refine lv_aload_n hx hb dX7_panel_62 rfl (lv_at hl 1 rfl) ?_
        refine x_getR C hw gtX7_12 dX7_panel_63 ?_
        refine x_getR C hw gtX7_89 dX7_panel_66 ?_
        refine lv_iload hx hb dX7_panel_69 (lv_at hl 5 rfl) ?_
        obtain ⟨S4, hv, h⟩ := bb_some h
        refine x_callVV C hw (mX2_know hv) lkX7_122 rfl (Nat.le_of_ble_eq_true rfl) hl.1 rfl (Nat.le_of_ble_eq_true rfl) dX7_panel_71 (fun H locs hw => ?_)
        refine lv_aload_n hx hb dX7_panel_74 rfl (lv_at hl 1 rfl) ?_
        refine x_getR C hw gtX7_12 dX7_panel_75 ?_
        refine lv_iload_n hx hb dX7_panel_78 rfl (lv_at hl 2 rfl) ?_
        refine lv_iload_n hx hb dX7_panel_79 rfl (lv_at hl 3 rfl) ?_
        refine lv_iload hx hb dX7_panel_80 (lv_at hl 5 rfl) ?_
        refine lv_iload hx hb dX7_panel_82 (lv_at hl 6 rfl) ?_
        refine lv_aload_n hx hb dX7_panel_84 rfl (lv_at hl 1 rfl) ?_
        refine x_getR C hw gtX7_12 dX7_panel_85 ?_
        refine x_getR C hw gtX7_105 dX7_panel_88 ?_
        refine x_getR C hw gtX7_140 dX7_panel_91 ?_
        refine lv_iload hx hb dX7_panel_94 (lv_at hl 0 rfl) ?_
        obtain ⟨v1, hv, h⟩ := bb_some h
        refine x_ald C hw alX_20 hv dX7_panel_96 ?_
        obtain ⟨r4, S5, hv, h⟩ := b2_some h
        refine x_callVI C hw (mX0_whyNoPanel hv) lkX7_143 rfl (Nat.le_of_ble_eq_true rfl) hl.1 rfl (Nat.le_of_ble_eq_true rfl) dX7_panel_97 (fun H locs hw => ?_)
        exact x_iret C hw h dX7_panel_100
      · have h := (it_d h).2 c
        refine lv_aload_n hx hb dX7_panel_55 rfl (lv_at hl 1 rfl) ?_
        refine lv_ldc (v := (-1000002)) hx hb hown (hts _ kwX7_121) dX7_panel_56 ?_
        obtain ⟨r5, S6, hv, h⟩ := b2_some h
        refine x_callVI C hw (mX7_finding hv) lkX7_49 rfl (Nat.le_of_ble_eq_true rfl) hl.1 rfl (Nat.le_of_ble_eq_true rfl) dX7_panel_58 (fun H locs hw => ?_)
        exact x_iret C hw h dX7_panel_61
    · have h := (it_d h).1 c
      exact B27 S2 _ _ ls h hw (lv_sub hl [0] rfl)
set_option maxHeartbeats 4000000 in
set_option maxRecDepth 100000 in
theorem mX7_part {N : Nat} {l : Launch} {D : va_G} {ad : Nat → Nat} {cI cZ : ClassId} {S Sz : SS} {x1 x2 x3 : Int32} {rz : Int32} (h : fX7_part N S x1 x2 x3 = some (rz, Sz)) : MI l D lyX ad cI cZ yX7_part cX7_part 6 (some .int) 2 [.ref (ad 0), .int x1, .int x2, .int x3] S rz Sz := by
  refine x_startI RX7 (by decide) rfl (Nat.le_of_ble_eq_true rfl) ?_
  intro p e s m args below meth c A C hw ls hl
  have hx := C.1
  have hb := C.2.1
  have hown := C.2.2.2.1
  have hts := C.2.2.2.2.1
  have hl : lv_has ls 6 [(0, .ref (ad 0)), (1, .int x1), (2, .int x2), (3, .int x3)] := hl
  have B35 : ∀ (S : SS) (H : Heap) (locs : List Loc) (ls : Array Slot), fX7_part_b35 N S = some (rz, Sz) → WH D A s.heap lyX ad cI cZ S H locs → lv_has ls 6 [(0, .ref (ad 0))] → W p l e (rmK 2) s m args below meth c H locs 0 0 (MQ below (Qi D lyX ad cI cZ A rz Sz) args s 0 0 A) (F0 m 35 ls []) := by
    intro S  H locs ls h hw hl
    unfold fX7_part_b35 at h
    refine lv_aload_n hx hb dX7_part_35 rfl (lv_at hl 0 rfl) ?_
    refine lv_ldc (v := (-1000001)) hx hb hown (hts _ kwX7_48) dX7_part_36 ?_
    obtain ⟨r1, S1, hv, h⟩ := b2_some h
    refine x_callVI C hw (mX7_finding hv) lkX7_49 rfl (Nat.le_of_ble_eq_true rfl) hl.1 rfl (Nat.le_of_ble_eq_true rfl) dX7_part_38 (fun H locs hw => ?_)
    exact x_iret C hw h dX7_part_41
  unfold fX7_part at h
  refine lv_aload_n hx hb dX7_part_0 rfl (lv_at hl 0 rfl) ?_
  refine x_getR C hw gtX7_12 dX7_part_1 ?_
  refine x_getR C hw gtX7_53 dX7_part_4 ?_
  refine lv_iload_n hx hb dX7_part_7 rfl (lv_at hl 1 rfl) ?_
  obtain ⟨r1, S1, hv, h⟩ := b2_some h
  refine x_callVI C hw (mX4_holds hv) lkX7_67 rfl (Nat.le_of_ble_eq_true rfl) hl.1 rfl (Nat.le_of_ble_eq_true rfl) dX7_part_8 (fun H locs hw => ?_)
  refine lv_if_eq (tgt := 35) hx hb dX7_part_11 (by decide) (fun c => ?_) (fun c => ?_)
  · have h := (it_d h).1 c
    exact B35 S1 _ _ ls h hw (lv_sub hl [0] rfl)
  · have h := (it_d h).2 c
    refine lv_iload_n hx hb dX7_part_14 rfl (lv_at hl 2 rfl) ?_
    refine lv_iconst (v := 0) hx hb dX7_part_15 (by decide) ?_
    refine lv_bipush (v := 7) hx hb dX7_part_16 (by decide) ?_
    obtain ⟨r2, S2, hv, h⟩ := b2_some h
    refine x_callSI C hw (mX7_isWithin hv) lkX7_44 rfl (Nat.le_of_ble_eq_true rfl) hl.1 rfl (Nat.le_of_ble_eq_true rfl) dX7_part_18 (fun H locs hw => ?_)
    refine lv_if_eq (tgt := 35) hx hb dX7_part_21 (by decide) (fun c => ?_) (fun c => ?_)
    · have h := (it_d h).1 c
      exact B35 S2 _ _ ls h hw (lv_sub hl [0] rfl)
    · have h := (it_d h).2 c
      refine lv_iload_n hx hb dX7_part_24 rfl (lv_at hl 3 rfl) ?_
      refine lv_iconst (v := (-1)) hx hb dX7_part_25 (by decide) ?_
      refine lv_sipush (v := 30000) hx hb dX7_part_26 (by decide) ?_
      obtain ⟨r3, S3, hv, h⟩ := b2_some h
      refine x_callSI C hw (mX7_isWithin hv) lkX7_44 rfl (Nat.le_of_ble_eq_true rfl) hl.1 rfl (Nat.le_of_ble_eq_true rfl) dX7_part_29 (fun H locs hw => ?_)
      refine lv_if_ne (tgt := 42) hx hb dX7_part_32 (by decide) (fun c => ?_) (fun c => ?_)
      · have h := (it_d h).2 c
        refine lv_iload_n hx hb dX7_part_42 rfl (lv_at hl 1 rfl) ?_
        refine lv_bipush (v := 8) hx hb dX7_part_43 (by decide) ?_
        refine lv_imul hx hb dX7_part_45 ?_
        refine lv_iload_n hx hb dX7_part_46 rfl (lv_at hl 2 rfl) ?_
        refine lv_iadd hx hb dX7_part_47 ?_
        refine lv_istore (lv' := [(4, .int ((x1 * 8) + x2)), (0, .ref (ad 0)), (1, .int x1), (2, .int x2), (3, .int x3)]) hx hb dX7_part_48 hl (by decide) rfl (fun ls hl => ?_)
        refine lv_aload_n hx hb dX7_part_50 rfl (lv_at hl 1 rfl) ?_
        refine x_getR C hw gtX7_12 dX7_part_51 ?_
        refine x_getR C hw gtX7_53 dX7_part_54 ?_
        refine x_getR C hw gtX7_80 dX7_part_57 ?_
        refine lv_iload hx hb dX7_part_60 (lv_at hl 0 rfl) ?_
        obtain ⟨v1, hv, h⟩ := bb_some h
        refine x_ald C hw alX_14 hv dX7_part_62 ?_
        refine lv_istore (lv' := [(5, .int v1), (4, .int ((x1 * 8) + x2)), (0, .ref (ad 0)), (1, .int x1), (2, .int x2), (3, .int x3)]) hx hb dX7_part_63 hl (by decide) rfl (fun ls hl => ?_)
        refine lv_aload_n hx hb dX7_part_65 rfl (lv_at hl 2 rfl) ?_
        refine x_getR C hw gtX7_12 dX7_part_66 ?_
        refine x_getR C hw gtX7_53 dX7_part_69 ?_
        refine x_getR C hw gtX7_80 dX7_part_72 ?_
        refine lv_iload hx hb dX7_part_75 (lv_at hl 1 rfl) ?_
        refine lv_iload_n hx hb dX7_part_77 rfl (lv_at hl 5 rfl) ?_
        obtain ⟨S4, hv, h⟩ := bb_some h
        refine x_ast C hw alX_14 hv dX7_part_78 (fun H locs hw => ?_)
        refine lv_iload hx hb dX7_part_79 (lv_at hl 0 rfl) ?_
        exact x_iret C hw h dX7_part_81
      · have h := (it_d h).1 c
        exact B35 S3 _ _ ls h hw (lv_sub hl [0] rfl)
set_option maxHeartbeats 4000000 in
set_option maxRecDepth 100000 in
theorem mX7_person {N : Nat} {l : Launch} {D : va_G} {ad : Nat → Nat} {cI cZ : ClassId} {S Sz : SS} {x1 x2 x3 : Int32} {rz : Int32} (h : fX7_person N S x1 x2 x3 = some (rz, Sz)) : MI l D lyX ad cI cZ yX7_person cX7_person 4 (some .int) 2 [.ref (ad 0), .int x1, .int x2, .int x3] S rz Sz := by
  refine x_startI RX7 (by decide) rfl (Nat.le_of_ble_eq_true rfl) ?_
  intro p e s m args below meth c A C hw ls hl
  have hx := C.1
  have hb := C.2.1
  have hown := C.2.2.2.1
  have hts := C.2.2.2.2.1
  have hl : lv_has ls 4 [(0, .ref (ad 0)), (1, .int x1), (2, .int x2), (3, .int x3)] := hl
  have B24 : ∀ (S : SS) (H : Heap) (locs : List Loc) (ls : Array Slot), fX7_person_b24 N S = some (rz, Sz) → WH D A s.heap lyX ad cI cZ S H locs → lv_has ls 4 [(0, .ref (ad 0))] → W p l e (rmK 2) s m args below meth c H locs 0 0 (MQ below (Qi D lyX ad cI cZ A rz Sz) args s 0 0 A) (F0 m 24 ls []) := by
    intro S  H locs ls h hw hl
    unfold fX7_person_b24 at h
    refine lv_aload_n hx hb dX7_person_24 rfl (lv_at hl 0 rfl) ?_
    refine lv_ldc (v := (-1000001)) hx hb hown (hts _ kwX7_48) dX7_person_25 ?_
    obtain ⟨r1, S1, hv, h⟩ := b2_some h
    refine x_callVI C hw (mX7_finding hv) lkX7_49 rfl (Nat.le_of_ble_eq_true rfl) hl.1 rfl (Nat.le_of_ble_eq_true rfl) dX7_person_27 (fun H locs hw => ?_)
    exact x_iret C hw h dX7_person_30
  unfold fX7_person at h
  refine lv_iload_n hx hb dX7_person_0 rfl (lv_at hl 1 rfl) ?_
  obtain ⟨r1, S1, hv, h⟩ := b2_some h
  refine x_callSI C hw (mX7_isKind hv) lkX7_37 rfl (Nat.le_of_ble_eq_true rfl) hl.1 rfl (Nat.le_of_ble_eq_true rfl) dX7_person_1 (fun H locs hw => ?_)
  refine lv_if_eq (tgt := 24) hx hb dX7_person_4 (by decide) (fun c => ?_) (fun c => ?_)
  · have h := (it_d h).1 c
    exact B24 S1 _ _ ls h hw (lv_sub hl [0] rfl)
  · have h := (it_d h).2 c
    refine lv_iload_n hx hb dX7_person_7 rfl (lv_at hl 2 rfl) ?_
    obtain ⟨r2, S2, hv, h⟩ := b2_some h
    refine x_callSI C hw (mX7_isDay hv) lkX7_41 rfl (Nat.le_of_ble_eq_true rfl) hl.1 rfl (Nat.le_of_ble_eq_true rfl) dX7_person_8 (fun H locs hw => ?_)
    refine lv_if_eq (tgt := 24) hx hb dX7_person_11 (by decide) (fun c => ?_) (fun c => ?_)
    · have h := (it_d h).1 c
      exact B24 S2 _ _ ls h hw (lv_sub hl [0] rfl)
    · have h := (it_d h).2 c
      refine lv_iload_n hx hb dX7_person_14 rfl (lv_at hl 3 rfl) ?_
      refine lv_iconst (v := 0) hx hb dX7_person_15 (by decide) ?_
      refine lv_bipush (v := 7) hx hb dX7_person_16 (by decide) ?_
      obtain ⟨r3, S3, hv, h⟩ := b2_some h
      refine x_callSI C hw (mX7_isWithin hv) lkX7_44 rfl (Nat.le_of_ble_eq_true rfl) hl.1 rfl (Nat.le_of_ble_eq_true rfl) dX7_person_18 (fun H locs hw => ?_)
      refine lv_if_ne (tgt := 31) hx hb dX7_person_21 (by decide) (fun c => ?_) (fun c => ?_)
      · have h := (it_d h).2 c
        refine lv_aload_n hx hb dX7_person_31 rfl (lv_at hl 0 rfl) ?_
        refine x_getR C hw gtX7_12 dX7_person_32 ?_
        refine x_getR C hw gtX7_53 dX7_person_35 ?_
        refine lv_iload_n hx hb dX7_person_38 rfl (lv_at hl 1 rfl) ?_
        obtain ⟨r4, S4, hv, h⟩ := b2_some h
        refine x_callVI C hw (mX4_hasRoomFor hv) lkX7_57 rfl (Nat.le_of_ble_eq_true rfl) hl.1 rfl (Nat.le_of_ble_eq_true rfl) dX7_person_39 (fun H locs hw => ?_)
        refine lv_if_ne (tgt := 52) hx hb dX7_person_42 (by decide) (fun c => ?_) (fun c => ?_)
        · have h := (it_d h).2 c
          refine lv_aload_n hx hb dX7_person_52 rfl (lv_at hl 0 rfl) ?_
          refine x_getR C hw gtX7_12 dX7_person_53 ?_
          refine x_getR C hw gtX7_53 dX7_person_56 ?_
          refine lv_iload_n hx hb dX7_person_59 rfl (lv_at hl 1 rfl) ?_
          refine lv_iload_n hx hb dX7_person_60 rfl (lv_at hl 2 rfl) ?_
          refine lv_iload_n hx hb dX7_person_61 rfl (lv_at hl 3 rfl) ?_
          obtain ⟨r5, S5, hv, h⟩ := b2_some h
          refine x_callVI C hw (mX4_add hv) lkX7_63 rfl (Nat.le_of_ble_eq_true rfl) hl.1 rfl (Nat.le_of_ble_eq_true rfl) dX7_person_62 (fun H locs hw => ?_)
          exact x_iret C hw h dX7_person_65
        · have h := (it_d h).1 c
          refine lv_aload_n hx hb dX7_person_45 rfl (lv_at hl 0 rfl) ?_
          refine lv_ldc (v := (-1000004)) hx hb hown (hts _ kwX7_62) dX7_person_46 ?_
          obtain ⟨r6, S6, hv, h⟩ := b2_some h
          refine x_callVI C hw (mX7_finding hv) lkX7_49 rfl (Nat.le_of_ble_eq_true rfl) hl.1 rfl (Nat.le_of_ble_eq_true rfl) dX7_person_48 (fun H locs hw => ?_)
          exact x_iret C hw h dX7_person_51
      · have h := (it_d h).1 c
        exact B24 S3 _ _ ls h hw (lv_sub hl [0] rfl)
set_option maxHeartbeats 4000000 in
set_option maxRecDepth 100000 in
theorem mX7_rule {N : Nat} {l : Launch} {D : va_G} {ad : Nat → Nat} {cI cZ : ClassId} {S Sz : SS} {x1 x2 x3 x4 x5 : Int32} {rz : Int32} (h : fX7_rule N S x1 x2 x3 x4 x5 = some (rz, Sz)) : MI l D lyX ad cI cZ yX7_rule cX7_rule 6 (some .int) 2 [.ref (ad 0), .int x1, .int x2, .int x3, .int x4, .int x5] S rz Sz := by
  refine x_startI RX7 (by decide) rfl (Nat.le_of_ble_eq_true rfl) ?_
  intro p e s m args below meth c A C hw ls hl
  have hx := C.1
  have hb := C.2.1
  have hown := C.2.2.2.1
  have hts := C.2.2.2.2.1
  have hl : lv_has ls 6 [(0, .ref (ad 0)), (1, .int x1), (2, .int x2), (3, .int x3), (4, .int x4), (5, .int x5)] := hl
  have B79 : ∀ (S : SS) (H : Heap) (locs : List Loc) (ls : Array Slot), fX7_rule_b79 N S = some (rz, Sz) → WH D A s.heap lyX ad cI cZ S H locs → lv_has ls 6 [(0, .ref (ad 0))] → W p l e (rmK 2) s m args below meth c H locs 0 0 (MQ below (Qi D lyX ad cI cZ A rz Sz) args s 0 0 A) (F0 m 79 ls []) := by
    intro S  H locs ls h hw hl
    unfold fX7_rule_b79 at h
    refine lv_aload_n hx hb dX7_rule_79 rfl (lv_at hl 0 rfl) ?_
    refine lv_ldc (v := (-1000001)) hx hb hown (hts _ kwX7_48) dX7_rule_80 ?_
    obtain ⟨r1, S1, hv, h⟩ := b2_some h
    refine x_callVI C hw (mX7_finding hv) lkX7_49 rfl (Nat.le_of_ble_eq_true rfl) hl.1 rfl (Nat.le_of_ble_eq_true rfl) dX7_rule_82 (fun H locs hw => ?_)
    exact x_iret C hw h dX7_rule_85
  unfold fX7_rule at h
  refine lv_iload_n hx hb dX7_rule_0 rfl (lv_at hl 1 rfl) ?_
  refine lv_if_lt (tgt := 79) hx hb dX7_rule_1 (by decide) (fun c => ?_) (fun c => ?_)
  · have h := (it_d h).1 c
    exact B79 S _ _ ls h hw (lv_sub hl [0] rfl)
  · have h := (it_d h).2 c
    refine lv_iload_n hx hb dX7_rule_4 rfl (lv_at hl 1 rfl) ?_
    refine lv_bipush (v := 100) hx hb dX7_rule_5 (by decide) ?_
    refine lv_idiv hx hb dX7_rule_7 (by decide) ?_
    obtain ⟨r1, S1, hv, h⟩ := b2_some h
    refine x_callSI C hw (mX7_isUnion hv) lkX7_83 rfl (Nat.le_of_ble_eq_true rfl) hl.1 rfl (Nat.le_of_ble_eq_true rfl) dX7_rule_8 (fun H locs hw => ?_)
    refine lv_if_eq (tgt := 79) hx hb dX7_rule_11 (by decide) (fun c => ?_) (fun c => ?_)
    · have h := (it_d h).1 c
      exact B79 S1 _ _ ls h hw (lv_sub hl [0] rfl)
    · have h := (it_d h).2 c
      refine lv_iload_n hx hb dX7_rule_14 rfl (lv_at hl 1 rfl) ?_
      refine lv_bipush (v := 100) hx hb dX7_rule_15 (by decide) ?_
      refine lv_irem hx hb dX7_rule_17 (by decide) ?_
      obtain ⟨r2, S2, hv, h⟩ := b2_some h
      refine x_callSI C hw (mX7_isGrade hv) lkX7_86 rfl (Nat.le_of_ble_eq_true rfl) hl.1 rfl (Nat.le_of_ble_eq_true rfl) dX7_rule_18 (fun H locs hw => ?_)
      refine lv_if_eq (tgt := 79) hx hb dX7_rule_21 (by decide) (fun c => ?_) (fun c => ?_)
      · have h := (it_d h).1 c
        exact B79 S2 _ _ ls h hw (lv_sub hl [0] rfl)
      · have h := (it_d h).2 c
        refine lv_iload_n hx hb dX7_rule_24 rfl (lv_at hl 2 rfl) ?_
        obtain ⟨r3, S3, hv, h⟩ := b2_some h
        refine x_callSI C hw (mX7_isDay hv) lkX7_41 rfl (Nat.le_of_ble_eq_true rfl) hl.1 rfl (Nat.le_of_ble_eq_true rfl) dX7_rule_25 (fun H locs hw => ?_)
        refine lv_if_eq (tgt := 79) hx hb dX7_rule_28 (by decide) (fun c => ?_) (fun c => ?_)
        · have h := (it_d h).1 c
          exact B79 S3 _ _ ls h hw (lv_sub hl [0] rfl)
        · have h := (it_d h).2 c
          refine lv_iload_n hx hb dX7_rule_31 rfl (lv_at hl 3 rfl) ?_
          refine lv_iconst (v := 0) hx hb dX7_rule_32 (by decide) ?_
          refine lv_sipush (v := 4000) hx hb dX7_rule_33 (by decide) ?_
          obtain ⟨r4, S4, hv, h⟩ := b2_some h
          refine x_callSI C hw (mX7_isWithin hv) lkX7_44 rfl (Nat.le_of_ble_eq_true rfl) hl.1 rfl (Nat.le_of_ble_eq_true rfl) dX7_rule_36 (fun H locs hw => ?_)
          refine lv_if_eq (tgt := 79) hx hb dX7_rule_39 (by decide) (fun c => ?_) (fun c => ?_)
          · have h := (it_d h).1 c
            exact B79 S4 _ _ ls h hw (lv_sub hl [0] rfl)
          · have h := (it_d h).2 c
            refine lv_iload hx hb dX7_rule_42 (lv_at hl 4 rfl) ?_
            refine lv_iconst (v := 0) hx hb dX7_rule_44 (by decide) ?_
            refine lv_sipush (v := 20000) hx hb dX7_rule_45 (by decide) ?_
            obtain ⟨r5, S5, hv, h⟩ := b2_some h
            refine x_callSI C hw (mX7_isWithin hv) lkX7_44 rfl (Nat.le_of_ble_eq_true rfl) hl.1 rfl (Nat.le_of_ble_eq_true rfl) dX7_rule_48 (fun H locs hw => ?_)
            refine lv_if_eq (tgt := 79) hx hb dX7_rule_51 (by decide) (fun c => ?_) (fun c => ?_)
            · have h := (it_d h).1 c
              exact B79 S5 _ _ ls h hw (lv_sub hl [0] rfl)
            · have h := (it_d h).2 c
              refine lv_iload hx hb dX7_rule_54 (lv_at hl 5 rfl) ?_
              refine lv_if_lt (tgt := 79) hx hb dX7_rule_56 (by decide) (fun c => ?_) (fun c => ?_)
              · have h := (it_d h).1 c
                exact B79 S5 _ _ ls h hw (lv_sub hl [0] rfl)
              · have h := (it_d h).2 c
                refine lv_iload hx hb dX7_rule_59 (lv_at hl 5 rfl) ?_
                refine lv_iconst (v := 4) hx hb dX7_rule_61 (by decide) ?_
                refine lv_ishr hx hb dX7_rule_62 ?_
                refine lv_sipush (v := 256) hx hb dX7_rule_63 (by decide) ?_
                refine lv_icmp_ge (tgt := 79) hx hb dX7_rule_66 (by decide) (fun c => ?_) (fun c => ?_)
                · have h := (it_d h).1 c
                  exact B79 S5 _ _ ls h hw (lv_sub hl [0] rfl)
                · have h := (it_d h).2 c
                  refine lv_iload hx hb dX7_rule_69 (lv_at hl 5 rfl) ?_
                  refine lv_bipush (v := 15) hx hb dX7_rule_71 (by decide) ?_
                  refine lv_iand hx hb dX7_rule_73 ?_
                  refine lv_bipush (v := 10) hx hb dX7_rule_74 (by decide) ?_
                  refine lv_icmp_le (tgt := 86) hx hb dX7_rule_76 (by decide) (fun c => ?_) (fun c => ?_)
                  · have h := (it_d h).1 c
                    refine lv_aload_n hx hb dX7_rule_86 rfl (lv_at hl 0 rfl) ?_
                    refine x_getR C hw gtX7_12 dX7_rule_87 ?_
                    refine x_getR C hw gtX7_105 dX7_rule_90 ?_
                    refine x_getI C hw gtX7_109 dX7_rule_93 ?_
                    refine lv_bipush (v := 40) hx hb dX7_rule_96 (by decide) ?_
                    refine lv_icmp_lt (tgt := 108) hx hb dX7_rule_98 (by decide) (fun c => ?_) (fun c => ?_)
                    · have h := (it_d h).1 c
                      refine lv_aload_n hx hb dX7_rule_108 rfl (lv_at hl 0 rfl) ?_
                      refine x_getR C hw gtX7_12 dX7_rule_109 ?_
                      refine x_getR C hw gtX7_105 dX7_rule_112 ?_
                      refine lv_iload_n hx hb dX7_rule_115 rfl (lv_at hl 1 rfl) ?_
                      refine lv_iload_n hx hb dX7_rule_116 rfl (lv_at hl 2 rfl) ?_
                      refine lv_iload_n hx hb dX7_rule_117 rfl (lv_at hl 3 rfl) ?_
                      refine lv_iload hx hb dX7_rule_118 (lv_at hl 4 rfl) ?_
                      refine lv_iload hx hb dX7_rule_120 (lv_at hl 5 rfl) ?_
                      obtain ⟨S6, hv, h⟩ := bb_some h
                      refine x_callVV C hw (mX5_add hv) lkX7_115 rfl (Nat.le_of_ble_eq_true rfl) hl.1 rfl (Nat.le_of_ble_eq_true rfl) dX7_rule_122 (fun H locs hw => ?_)
                      refine lv_aload_n hx hb dX7_rule_125 rfl (lv_at hl 0 rfl) ?_
                      refine x_getR C hw gtX7_12 dX7_rule_126 ?_
                      refine x_getR C hw gtX7_105 dX7_rule_129 ?_
                      refine x_getI C hw gtX7_109 dX7_rule_132 ?_
                      exact x_iret C hw h dX7_rule_135
                    · have h := (it_d h).2 c
                      refine lv_aload_n hx hb dX7_rule_101 rfl (lv_at hl 0 rfl) ?_
                      refine lv_ldc (v := (-1000004)) hx hb hown (hts _ kwX7_62) dX7_rule_102 ?_
                      obtain ⟨r6, S7, hv, h⟩ := b2_some h
                      refine x_callVI C hw (mX7_finding hv) lkX7_49 rfl (Nat.le_of_ble_eq_true rfl) hl.1 rfl (Nat.le_of_ble_eq_true rfl) dX7_rule_104 (fun H locs hw => ?_)
                      exact x_iret C hw h dX7_rule_107
                  · have h := (it_d h).2 c
                    exact B79 S5 _ _ ls h hw (lv_sub hl [0] rfl)
set_option maxHeartbeats 4000000 in
set_option maxRecDepth 100000 in
theorem mX7_stands {N : Nat} {l : Launch} {D : va_G} {ad : Nat → Nat} {cI cZ : ClassId} {S Sz : SS} {x1 x2 : Int32} {rz : Int32} (h : fX7_stands N S x1 x2 = some (rz, Sz)) : MI l D lyX ad cI cZ yX7_stands cX7_stands 3 (some .int) 3 [.ref (ad 0), .int x1, .int x2] S rz Sz := by
  refine x_startI RX7 (by decide) rfl (Nat.le_of_ble_eq_true rfl) ?_
  intro p e s m args below meth c A C hw ls hl
  have hx := C.1
  have hb := C.2.1
  have hown := C.2.2.2.1
  have hts := C.2.2.2.2.1
  have hl : lv_has ls 3 [(0, .ref (ad 0)), (1, .int x1), (2, .int x2)] := hl
  have B21 : ∀ (S : SS) (H : Heap) (locs : List Loc) (ls : Array Slot), fX7_stands_b21 N S = some (rz, Sz) → WH D A s.heap lyX ad cI cZ S H locs → lv_has ls 3 [(0, .ref (ad 0))] → W p l e (rmK 3) s m args below meth c H locs 0 0 (MQ below (Qi D lyX ad cI cZ A rz Sz) args s 0 0 A) (F0 m 21 ls []) := by
    intro S  H locs ls h hw hl
    unfold fX7_stands_b21 at h
    refine lv_aload_n hx hb dX7_stands_21 rfl (lv_at hl 0 rfl) ?_
    refine lv_ldc (v := (-1000001)) hx hb hown (hts _ kwX7_48) dX7_stands_22 ?_
    obtain ⟨r1, S1, hv, h⟩ := b2_some h
    refine x_callVI C hw (mX7_finding hv) lkX7_49 rfl (Nat.le_of_ble_eq_true rfl) hl.1 rfl (Nat.le_of_ble_eq_true rfl) dX7_stands_24 (fun H locs hw => ?_)
    exact x_iret C hw h dX7_stands_27
  unfold fX7_stands at h
  refine lv_aload_n hx hb dX7_stands_0 rfl (lv_at hl 0 rfl) ?_
  refine x_getR C hw gtX7_12 dX7_stands_1 ?_
  refine x_getR C hw gtX7_89 dX7_stands_4 ?_
  refine lv_iload_n hx hb dX7_stands_7 rfl (lv_at hl 1 rfl) ?_
  obtain ⟨r1, S1, hv, h⟩ := b2_some h
  refine x_callVI C hw (mX2_holds hv) lkX7_155 rfl (Nat.le_of_ble_eq_true rfl) hl.1 rfl (Nat.le_of_ble_eq_true rfl) dX7_stands_8 (fun H locs hw => ?_)
  refine lv_if_eq (tgt := 21) hx hb dX7_stands_11 (by decide) (fun c => ?_) (fun c => ?_)
  · have h := (it_d h).1 c
    exact B21 S1 _ _ ls h hw (lv_sub hl [0] rfl)
  · have h := (it_d h).2 c
    refine lv_iload_n hx hb dX7_stands_14 rfl (lv_at hl 2 rfl) ?_
    obtain ⟨r2, S2, hv, h⟩ := b2_some h
    refine x_callSI C hw (mX7_isDay hv) lkX7_41 rfl (Nat.le_of_ble_eq_true rfl) hl.1 rfl (Nat.le_of_ble_eq_true rfl) dX7_stands_15 (fun H locs hw => ?_)
    refine lv_if_ne (tgt := 28) hx hb dX7_stands_18 (by decide) (fun c => ?_) (fun c => ?_)
    · have h := (it_d h).2 c
      refine lv_aload_n hx hb dX7_stands_28 rfl (lv_at hl 0 rfl) ?_
      refine x_getR C hw gtX7_12 dX7_stands_29 ?_
      refine x_getR C hw gtX7_89 dX7_stands_32 ?_
      refine lv_iload_n hx hb dX7_stands_35 rfl (lv_at hl 2 rfl) ?_
      obtain ⟨S3, hv, h⟩ := bb_some h
      refine x_callVV C hw (mX2_know hv) lkX7_122 rfl (Nat.le_of_ble_eq_true rfl) hl.1 rfl (Nat.le_of_ble_eq_true rfl) dX7_stands_36 (fun H locs hw => ?_)
      refine lv_aload_n hx hb dX7_stands_39 rfl (lv_at hl 0 rfl) ?_
      refine x_getR C hw gtX7_12 dX7_stands_40 ?_
      refine x_getR C hw gtX7_89 dX7_stands_43 ?_
      refine x_getR C hw gtX7_171 dX7_stands_46 ?_
      refine lv_iload_n hx hb dX7_stands_49 rfl (lv_at hl 1 rfl) ?_
      obtain ⟨v1, hv, h⟩ := bb_some h
      refine x_zald C hw alX_28 hv dX7_stands_50 ?_
      refine lv_if_eq (tgt := 58) hx hb dX7_stands_51 (by decide) (fun c => ?_) (fun c => ?_)
      · have h := (it_d h).1 c
        refine lv_iconst (v := 0) hx hb dX7_stands_58 (by decide) ?_
        exact x_iret C hw h dX7_stands_59
      · have h := (it_d h).2 c
        refine lv_iconst (v := 1) hx hb dX7_stands_54 (by decide) ?_
        refine lv_goto (tgt := 59) hx hb dX7_stands_55 (by decide) ?_
        exact x_iret C hw h dX7_stands_59
    · have h := (it_d h).1 c
      exact B21 S2 _ _ ls h hw (lv_sub hl [0] rfl)
set_option maxHeartbeats 4000000 in
set_option maxRecDepth 100000 in
theorem mX7_strike {N : Nat} {l : Launch} {D : va_G} {ad : Nat → Nat} {cI cZ : ClassId} {S Sz : SS} {x1 x2 x3 : Int32} {rz : Int32} (h : fX7_strike N S x1 x2 x3 = some (rz, Sz)) : MI l D lyX ad cI cZ yX7_strike cX7_strike 5 (some .int) 4 [.ref (ad 0), .int x1, .int x2, .int x3] S rz Sz := by
  refine x_startI RX7 (by decide) rfl (Nat.le_of_ble_eq_true rfl) ?_
  intro p e s m args below meth c A C hw ls hl
  have hx := C.1
  have hb := C.2.1
  have hown := C.2.2.2.1
  have hts := C.2.2.2.2.1
  have hl : lv_has ls 5 [(0, .ref (ad 0)), (1, .int x1), (2, .int x2), (3, .int x3)] := hl
  have B28 : ∀ (S : SS) (H : Heap) (locs : List Loc) (ls : Array Slot), fX7_strike_b28 N S = some (rz, Sz) → WH D A s.heap lyX ad cI cZ S H locs → lv_has ls 5 [(0, .ref (ad 0))] → W p l e (rmK 4) s m args below meth c H locs 0 0 (MQ below (Qi D lyX ad cI cZ A rz Sz) args s 0 0 A) (F0 m 28 ls []) := by
    intro S  H locs ls h hw hl
    unfold fX7_strike_b28 at h
    refine lv_aload_n hx hb dX7_strike_28 rfl (lv_at hl 0 rfl) ?_
    refine lv_ldc (v := (-1000001)) hx hb hown (hts _ kwX7_48) dX7_strike_29 ?_
    obtain ⟨r1, S1, hv, h⟩ := b2_some h
    refine x_callVI C hw (mX7_finding hv) lkX7_49 rfl (Nat.le_of_ble_eq_true rfl) hl.1 rfl (Nat.le_of_ble_eq_true rfl) dX7_strike_31 (fun H locs hw => ?_)
    exact x_iret C hw h dX7_strike_34
  unfold fX7_strike at h
  refine lv_aload_n hx hb dX7_strike_0 rfl (lv_at hl 0 rfl) ?_
  refine x_getR C hw gtX7_12 dX7_strike_1 ?_
  refine x_getR C hw gtX7_53 dX7_strike_4 ?_
  refine lv_iload_n hx hb dX7_strike_7 rfl (lv_at hl 1 rfl) ?_
  obtain ⟨r1, S1, hv, h⟩ := b2_some h
  refine x_callVI C hw (mX4_holds hv) lkX7_67 rfl (Nat.le_of_ble_eq_true rfl) hl.1 rfl (Nat.le_of_ble_eq_true rfl) dX7_strike_8 (fun H locs hw => ?_)
  refine lv_if_eq (tgt := 28) hx hb dX7_strike_11 (by decide) (fun c => ?_) (fun c => ?_)
  · have h := (it_d h).1 c
    exact B28 S1 _ _ ls h hw (lv_sub hl [0] rfl)
  · have h := (it_d h).2 c
    refine lv_iload_n hx hb dX7_strike_14 rfl (lv_at hl 2 rfl) ?_
    obtain ⟨r2, S2, hv, h⟩ := b2_some h
    refine x_callSI C hw (mX7_isDay hv) lkX7_41 rfl (Nat.le_of_ble_eq_true rfl) hl.1 rfl (Nat.le_of_ble_eq_true rfl) dX7_strike_15 (fun H locs hw => ?_)
    refine lv_if_eq (tgt := 28) hx hb dX7_strike_18 (by decide) (fun c => ?_) (fun c => ?_)
    · have h := (it_d h).1 c
      exact B28 S2 _ _ ls h hw (lv_sub hl [0] rfl)
    · have h := (it_d h).2 c
      refine lv_iload_n hx hb dX7_strike_21 rfl (lv_at hl 3 rfl) ?_
      obtain ⟨r3, S3, hv, h⟩ := b2_some h
      refine x_callSI C hw (mX7_isDay hv) lkX7_41 rfl (Nat.le_of_ble_eq_true rfl) hl.1 rfl (Nat.le_of_ble_eq_true rfl) dX7_strike_22 (fun H locs hw => ?_)
      refine lv_if_ne (tgt := 35) hx hb dX7_strike_25 (by decide) (fun c => ?_) (fun c => ?_)
      · have h := (it_d h).2 c
        refine lv_aload_n hx hb dX7_strike_35 rfl (lv_at hl 0 rfl) ?_
        refine x_getR C hw gtX7_12 dX7_strike_36 ?_
        refine x_getR C hw gtX7_53 dX7_strike_39 ?_
        refine lv_iload_n hx hb dX7_strike_42 rfl (lv_at hl 1 rfl) ?_
        obtain ⟨r4, S4, hv, h⟩ := b2_some h
        refine x_callVI C hw (mX4_isExaminer hv) lkX7_175 rfl (Nat.le_of_ble_eq_true rfl) hl.1 rfl (Nat.le_of_ble_eq_true rfl) dX7_strike_43 (fun H locs hw => ?_)
        refine lv_if_ne (tgt := 56) hx hb dX7_strike_46 (by decide) (fun c => ?_) (fun c => ?_)
        · have h := (it_d h).2 c
          refine lv_aload_n hx hb dX7_strike_56 rfl (lv_at hl 0 rfl) ?_
          refine x_getR C hw gtX7_12 dX7_strike_57 ?_
          refine x_getR C hw gtX7_89 dX7_strike_60 ?_
          refine x_getR C hw gtX7_178 dX7_strike_63 ?_
          refine x_getI C hw gtX7_182 dX7_strike_66 ?_
          refine lv_bipush (v := 20) hx hb dX7_strike_69 (by decide) ?_
          refine lv_icmp_lt (tgt := 81) hx hb dX7_strike_71 (by decide) (fun c => ?_) (fun c => ?_)
          · have h := (it_d h).1 c
            refine lv_aload_n hx hb dX7_strike_81 rfl (lv_at hl 0 rfl) ?_
            refine x_getR C hw gtX7_12 dX7_strike_82 ?_
            refine x_getR C hw gtX7_89 dX7_strike_85 ?_
            obtain ⟨r5, S5, hv, h⟩ := b2_some h
            refine x_callVI C hw (mX2_standingAtLast hv) lkX7_185 rfl (Nat.le_of_ble_eq_true rfl) hl.1 rfl (Nat.le_of_ble_eq_true rfl) dX7_strike_88 (fun H locs hw => ?_)
            refine lv_istore (lv' := [(4, .int r5), (0, .ref (ad 0)), (1, .int x1), (2, .int x2), (3, .int x3)]) hx hb dX7_strike_91 hl (by decide) rfl (fun ls hl => ?_)
            refine lv_aload_n hx hb dX7_strike_93 rfl (lv_at hl 1 rfl) ?_
            refine x_getR C hw gtX7_12 dX7_strike_94 ?_
            refine x_getR C hw gtX7_89 dX7_strike_97 ?_
            refine x_getR C hw gtX7_178 dX7_strike_100 ?_
            refine lv_iload_n hx hb dX7_strike_103 rfl (lv_at hl 2 rfl) ?_
            refine lv_iload_n hx hb dX7_strike_104 rfl (lv_at hl 3 rfl) ?_
            refine lv_iload_n hx hb dX7_strike_105 rfl (lv_at hl 4 rfl) ?_
            obtain ⟨S6, hv, h⟩ := bb_some h
            refine x_callVV C hw (mX6_add hv) lkX7_188 rfl (Nat.le_of_ble_eq_true rfl) hl.1 rfl (Nat.le_of_ble_eq_true rfl) dX7_strike_106 (fun H locs hw => ?_)
            refine lv_iload hx hb dX7_strike_109 (lv_at hl 0 rfl) ?_
            refine lv_aload_n hx hb dX7_strike_111 rfl (lv_at hl 1 rfl) ?_
            refine x_getR C hw gtX7_12 dX7_strike_112 ?_
            refine x_getR C hw gtX7_89 dX7_strike_115 ?_
            obtain ⟨r6, S7, hv, h⟩ := b2_some h
            refine x_callVI C hw (mX2_standingAtLast hv) lkX7_185 rfl (Nat.le_of_ble_eq_true rfl) hl.1 rfl (Nat.le_of_ble_eq_true rfl) dX7_strike_118 (fun H locs hw => ?_)
            refine lv_isub hx hb dX7_strike_121 ?_
            exact x_iret C hw h dX7_strike_122
          · have h := (it_d h).2 c
            refine lv_aload_n hx hb dX7_strike_74 rfl (lv_at hl 0 rfl) ?_
            refine lv_ldc (v := (-1000004)) hx hb hown (hts _ kwX7_62) dX7_strike_75 ?_
            obtain ⟨r7, S8, hv, h⟩ := b2_some h
            refine x_callVI C hw (mX7_finding hv) lkX7_49 rfl (Nat.le_of_ble_eq_true rfl) hl.1 rfl (Nat.le_of_ble_eq_true rfl) dX7_strike_77 (fun H locs hw => ?_)
            exact x_iret C hw h dX7_strike_80
        · have h := (it_d h).1 c
          refine lv_aload_n hx hb dX7_strike_49 rfl (lv_at hl 0 rfl) ?_
          refine lv_ldc (v := (-1000005)) hx hb hown (hts _ kwX7_73) dX7_strike_50 ?_
          obtain ⟨r8, S9, hv, h⟩ := b2_some h
          refine x_callVI C hw (mX7_finding hv) lkX7_49 rfl (Nat.le_of_ble_eq_true rfl) hl.1 rfl (Nat.le_of_ble_eq_true rfl) dX7_strike_52 (fun H locs hw => ?_)
          exact x_iret C hw h dX7_strike_55
      · have h := (it_d h).1 c
        exact B28 S3 _ _ ls h hw (lv_sub hl [0] rfl)
