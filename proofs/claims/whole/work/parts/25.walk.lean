set_option maxHeartbeats 4000000 in
set_option maxRecDepth 100000 in
theorem mX8_found {N : Nat} {l : Launch} {D : va_G} {ad : Nat → Nat} {cI cZ : ClassId} {S Sz : SS} {x1 : Int32} {rz : Int32} (h : fX8_found N S x1 = some (rz, Sz)) : MI l D lyM ad cI cZ yX8_found cX8_found 2 (some .int) 1 [.ref (ad 0), .int x1] S rz Sz := by
  refine x_startI RX8 (by decide) rfl (Nat.le_of_ble_eq_true rfl) ?_
  intro p e s m args below meth c A C hw ls hl
  have hx := C.1
  have hb := C.2.1
  have hown := C.2.2.2.1
  have hts := C.2.2.2.2.1
  have hl : lv_has ls 2 [(0, .ref (ad 0)), (1, .int x1)] := hl
  unfold fX8_found at h
  refine lv_iload_n hx hb dX8_found_0 rfl (lv_at hl 1 rfl) ?_
  refine lv_iconst (v := 1) hx hb dX8_found_1 (by decide) ?_
  refine lv_iconst (v := 5) hx hb dX8_found_2 (by decide) ?_
  obtain ⟨r1, S1, hv, h⟩ := b2_some h
  refine x_callSI C hw (mX8_within hv) lkX8_111 rfl (Nat.le_of_ble_eq_true rfl) hl.1 rfl (Nat.le_of_ble_eq_true rfl) dX8_found_3 (fun H locs hw => ?_)
  refine lv_if_eq (tgt := 18) hx hb dX8_found_6 (by decide) (fun c => ?_) (fun c => ?_)
  · have h := (it_d h).1 c
    refine lv_aload_n hx hb dX8_found_18 rfl (lv_at hl 0 rfl) ?_
    refine lv_ldc (v := (-1000001)) hx hb hown (hts _ kwX8_123) dX8_found_19 ?_
    obtain ⟨r2, S2, hv, h⟩ := b2_some h
    refine x_callVI C hw (mX8_finding hv) lkX8_124 rfl (Nat.le_of_ble_eq_true rfl) hl.1 rfl (Nat.le_of_ble_eq_true rfl) dX8_found_21 (fun H locs hw => ?_)
    exact x_iret C hw h dX8_found_24
  · have h := (it_d h).2 c
    refine lv_aload_n hx hb dX8_found_9 rfl (lv_at hl 0 rfl) ?_
    refine x_getR C hw gtX8_91 dX8_found_10 ?_
    refine lv_iload_n hx hb dX8_found_13 rfl (lv_at hl 1 rfl) ?_
    obtain ⟨v1, hv, h⟩ := bb_some h
    refine x_ald C hw alM_28 hv dX8_found_14 ?_
    refine lv_goto (tgt := 24) hx hb dX8_found_15 (by decide) ?_
    exact x_iret C hw h dX8_found_24
set_option maxHeartbeats 4000000 in
set_option maxRecDepth 100000 in
theorem mX8_isPanel {N : Nat} {l : Launch} {D : va_G} {ad : Nat → Nat} {cI cZ : ClassId} {S Sz : SS} {x1 : Int32} {rz : Int32} (h : fX8_isPanel N S x1 = some (rz, Sz)) : MI l D lyM ad cI cZ yX8_isPanel cX8_isPanel 2 (some .boolean) 0 [.ref (ad 0), .int x1] S rz Sz := by
  refine x_startI RX8 (by decide) rfl (Nat.le_of_ble_eq_true rfl) ?_
  intro p e s m args below meth c A C hw ls hl
  have hx := C.1
  have hb := C.2.1
  have hown := C.2.2.2.1
  have hts := C.2.2.2.2.1
  have hl : lv_has ls 2 [(0, .ref (ad 0)), (1, .int x1)] := hl
  unfold fX8_isPanel at h
  refine lv_iload_n hx hb dX8_isPanel_0 rfl (lv_at hl 1 rfl) ?_
  refine lv_if_lt (tgt := 18) hx hb dX8_isPanel_1 (by decide) (fun c => ?_) (fun c => ?_)
  · have h := (it_d h).1 c
    refine lv_iconst (v := 0) hx hb dX8_isPanel_18 (by decide) ?_
    exact x_zret C hw h dX8_isPanel_19
  · have h := (it_d h).2 c
    refine lv_iload_n hx hb dX8_isPanel_4 rfl (lv_at hl 1 rfl) ?_
    refine lv_iconst (v := 1) hx hb dX8_isPanel_5 (by decide) ?_
    refine lv_aload_n hx hb dX8_isPanel_6 rfl (lv_at hl 0 rfl) ?_
    refine x_getI C hw gtX8_115 dX8_isPanel_7 ?_
    refine lv_ishl hx hb dX8_isPanel_10 ?_
    refine lv_icmp_ge (tgt := 18) hx hb dX8_isPanel_11 (by decide) (fun c => ?_) (fun c => ?_)
    · have h := (it_d h).1 c
      refine lv_iconst (v := 0) hx hb dX8_isPanel_18 (by decide) ?_
      exact x_zret C hw h dX8_isPanel_19
    · have h := (it_d h).2 c
      refine lv_iconst (v := 1) hx hb dX8_isPanel_14 (by decide) ?_
      refine lv_goto (tgt := 19) hx hb dX8_isPanel_15 (by decide) ?_
      exact x_zret C hw h dX8_isPanel_19
set_option maxHeartbeats 4000000 in
set_option maxRecDepth 100000 in
theorem mX8_give {N : Nat} {l : Launch} {D : va_G} {ad : Nat → Nat} {cI cZ : ClassId} {S Sz : SS} {x1 x2 x3 x4 x5 : Int32} {rz : Int32} (h : fX8_give N S x1 x2 x3 x4 x5 = some (rz, Sz)) : MI l D lyM ad cI cZ yX8_give cX8_give 6 (some .int) 5 [.ref (ad 0), .int x1, .int x2, .int x3, .int x4, .int x5] S rz Sz := by
  refine x_startI RX8 (by decide) rfl (Nat.le_of_ble_eq_true rfl) ?_
  intro p e s m args below meth c A C hw ls hl
  have hx := C.1
  have hb := C.2.1
  have hown := C.2.2.2.1
  have hts := C.2.2.2.2.1
  have hl : lv_has ls 6 [(0, .ref (ad 0)), (1, .int x1), (2, .int x2), (3, .int x3), (4, .int x4), (5, .int x5)] := hl
  have B90 : ∀ (S : SS) (H : Heap) (locs : List Loc) (ls : Array Slot), fX8_give_b90 N S = some (rz, Sz) → WH D A s.heap lyM ad cI cZ S H locs → lv_has ls 6 [(0, .ref (ad 0))] → W p l e (rmK 5) s m args below meth c H locs 0 0 (MQ below (Qi D lyM ad cI cZ A rz Sz) args s 0 0 A) (F0 m 90 ls []) := by
    intro S  H locs ls h hw hl
    unfold fX8_give_b90 at h
    refine lv_aload_n hx hb dX8_give_90 rfl (lv_at hl 0 rfl) ?_
    refine lv_ldc (v := (-1000003)) hx hb hown (hts _ kwX8_203) dX8_give_91 ?_
    obtain ⟨r1, S1, hv, h⟩ := b2_some h
    refine x_callVI C hw (mX8_finding hv) lkX8_124 rfl (Nat.le_of_ble_eq_true rfl) hl.1 rfl (Nat.le_of_ble_eq_true rfl) dX8_give_93 (fun H locs hw => ?_)
    exact x_iret C hw h dX8_give_96
  have B51 : ∀ (S : SS) (x1 x2 x3 x4 x5 : Int32) (H : Heap) (locs : List Loc) (ls : Array Slot), fX8_give_b51 N S x1 x2 x3 x4 x5 = some (rz, Sz) → WH D A s.heap lyM ad cI cZ S H locs → lv_has ls 6 [(0, .ref (ad 0)), (1, .int x1), (2, .int x2), (3, .int x3), (4, .int x4), (5, .int x5)] → W p l e (rmK 5) s m args below meth c H locs 0 0 (MQ below (Qi D lyM ad cI cZ A rz Sz) args s 0 0 A) (F0 m 51 ls []) := by
    intro S x1 x2 x3 x4 x5 H locs ls h hw hl
    unfold fX8_give_b51 at h
    refine lv_aload_n hx hb dX8_give_51 rfl (lv_at hl 0 rfl) ?_
    refine lv_iload hx hb dX8_give_52 (lv_at hl 4 rfl) ?_
    obtain ⟨S1, hv, h⟩ := bb_some h
    refine x_callVV C hw (mX8_findStanding hv) lkX8_175 rfl (Nat.le_of_ble_eq_true rfl) hl.1 rfl (Nat.le_of_ble_eq_true rfl) dX8_give_54 (fun H locs hw => ?_)
    refine lv_aload_n hx hb dX8_give_57 rfl (lv_at hl 0 rfl) ?_
    refine lv_iload_n hx hb dX8_give_58 rfl (lv_at hl 1 rfl) ?_
    refine lv_iload_n hx hb dX8_give_59 rfl (lv_at hl 2 rfl) ?_
    refine lv_iload_n hx hb dX8_give_60 rfl (lv_at hl 3 rfl) ?_
    refine lv_iload hx hb dX8_give_61 (lv_at hl 4 rfl) ?_
    obtain ⟨r1, S2, hv, h⟩ := b2_some h
    refine x_callVI C hw (mX8_whyOf hv) lkX8_186 rfl (Nat.le_of_ble_eq_true rfl) hl.1 rfl (Nat.le_of_ble_eq_true rfl) dX8_give_63 (fun H locs hw => ?_)
    refine lv_if_ne (tgt := 90) hx hb dX8_give_66 (by decide) (fun c => ?_) (fun c => ?_)
    · have h := (it_d h).2 c
      exact B90 S2 _ _ ls h hw (lv_sub hl [0] rfl)
    · have h := (it_d h).1 c
      refine lv_aload_n hx hb dX8_give_69 rfl (lv_at hl 0 rfl) ?_
      refine lv_iload_n hx hb dX8_give_70 rfl (lv_at hl 1 rfl) ?_
      refine lv_iload_n hx hb dX8_give_71 rfl (lv_at hl 2 rfl) ?_
      refine lv_aload_n hx hb dX8_give_72 rfl (lv_at hl 0 rfl) ?_
      refine lv_iload_n hx hb dX8_give_73 rfl (lv_at hl 2 rfl) ?_
      refine lv_iload_n hx hb dX8_give_74 rfl (lv_at hl 3 rfl) ?_
      refine lv_iload hx hb dX8_give_75 (lv_at hl 4 rfl) ?_
      obtain ⟨r2, S3, hv, h⟩ := b2_some h
      refine x_callVI C hw (mX8_ruleOf hv) lkX8_149 rfl (Nat.le_of_ble_eq_true rfl) hl.1 rfl (Nat.le_of_ble_eq_true rfl) dX8_give_77 (fun H locs hw => ?_)
      refine lv_iload hx hb dX8_give_80 (lv_at hl 4 rfl) ?_
      refine lv_iload hx hb dX8_give_82 (lv_at hl 5 rfl) ?_
      obtain ⟨r3, S4, hv, h⟩ := b2_some h
      refine x_callVI C hw (mX8_panelOf hv) lkX8_200 rfl (Nat.le_of_ble_eq_true rfl) hl.1 rfl (Nat.le_of_ble_eq_true rfl) dX8_give_84 (fun H locs hw => ?_)
      refine lv_if_eq (tgt := 97) hx hb dX8_give_87 (by decide) (fun c => ?_) (fun c => ?_)
      · have h := (it_d h).1 c
        refine lv_aload_n hx hb dX8_give_97 rfl (lv_at hl 0 rfl) ?_
        refine x_getI C hw gtX8_159 dX8_give_98 ?_
        refine lv_bipush (v := 60) hx hb dX8_give_101 (by decide) ?_
        refine lv_icmp_ne (tgt := 113) hx hb dX8_give_103 (by decide) (fun c => ?_) (fun c => ?_)
        · have h := (it_d h).2 c
          refine lv_aload_n hx hb dX8_give_113 rfl (lv_at hl 0 rfl) ?_
          refine x_getR C hw gtX8_49 dX8_give_114 ?_
          refine lv_aload_n hx hb dX8_give_117 rfl (lv_at hl 0 rfl) ?_
          refine x_getI C hw gtX8_159 dX8_give_118 ?_
          refine lv_iload_n hx hb dX8_give_121 rfl (lv_at hl 1 rfl) ?_
          obtain ⟨S5, hv, h⟩ := bb_some h
          refine x_ast C hw alM_14 hv dX8_give_122 (fun H locs hw => ?_)
          refine lv_aload_n hx hb dX8_give_123 rfl (lv_at hl 0 rfl) ?_
          refine x_getR C hw gtX8_52 dX8_give_124 ?_
          refine lv_aload_n hx hb dX8_give_127 rfl (lv_at hl 0 rfl) ?_
          refine x_getI C hw gtX8_159 dX8_give_128 ?_
          refine lv_iload_n hx hb dX8_give_131 rfl (lv_at hl 2 rfl) ?_
          obtain ⟨S6, hv, h⟩ := bb_some h
          refine x_ast C hw alM_15 hv dX8_give_132 (fun H locs hw => ?_)
          refine lv_aload_n hx hb dX8_give_133 rfl (lv_at hl 0 rfl) ?_
          refine x_getR C hw gtX8_55 dX8_give_134 ?_
          refine lv_aload_n hx hb dX8_give_137 rfl (lv_at hl 0 rfl) ?_
          refine x_getI C hw gtX8_159 dX8_give_138 ?_
          refine lv_iload_n hx hb dX8_give_141 rfl (lv_at hl 3 rfl) ?_
          obtain ⟨S7, hv, h⟩ := bb_some h
          refine x_ast C hw alM_16 hv dX8_give_142 (fun H locs hw => ?_)
          refine lv_aload_n hx hb dX8_give_143 rfl (lv_at hl 0 rfl) ?_
          refine x_getR C hw gtX8_58 dX8_give_144 ?_
          refine lv_aload_n hx hb dX8_give_147 rfl (lv_at hl 0 rfl) ?_
          refine x_getI C hw gtX8_159 dX8_give_148 ?_
          refine lv_iload hx hb dX8_give_151 (lv_at hl 4 rfl) ?_
          obtain ⟨S8, hv, h⟩ := bb_some h
          refine x_ast C hw alM_17 hv dX8_give_153 (fun H locs hw => ?_)
          refine lv_aload_n hx hb dX8_give_154 rfl (lv_at hl 0 rfl) ?_
          refine x_getR C hw gtX8_61 dX8_give_155 ?_
          refine lv_aload_n hx hb dX8_give_158 rfl (lv_at hl 0 rfl) ?_
          refine x_getI C hw gtX8_159 dX8_give_159 ?_
          refine lv_iload hx hb dX8_give_162 (lv_at hl 5 rfl) ?_
          obtain ⟨S9, hv, h⟩ := bb_some h
          refine x_ast C hw alM_18 hv dX8_give_164 (fun H locs hw => ?_)
          refine lv_aload_n hx hb dX8_give_165 rfl (lv_at hl 0 rfl) ?_
          refine lv_dup hx hb dX8_give_166 rfl ?_
          refine x_getI C hw gtX8_159 dX8_give_167 ?_
          refine lv_iconst (v := 1) hx hb dX8_give_170 (by decide) ?_
          refine lv_iadd hx hb dX8_give_171 ?_
          obtain ⟨S10, hv, h⟩ := bb_some h
          refine x_putO C hw gpX8_159 hv rfl rfl dX8_give_172 (fun H locs hw => ?_)
          refine lv_aload_n hx hb dX8_give_175 rfl (lv_at hl 0 rfl) ?_
          refine x_getI C hw gtX8_159 dX8_give_176 ?_
          refine lv_iconst (v := 1) hx hb dX8_give_179 (by decide) ?_
          refine lv_isub hx hb dX8_give_180 ?_
          exact x_iret C hw h dX8_give_181
        · have h := (it_d h).1 c
          refine lv_aload_n hx hb dX8_give_106 rfl (lv_at hl 0 rfl) ?_
          refine lv_ldc (v := (-1000004)) hx hb hown (hts _ kwX8_131) dX8_give_107 ?_
          obtain ⟨r4, S11, hv, h⟩ := b2_some h
          refine x_callVI C hw (mX8_finding hv) lkX8_124 rfl (Nat.le_of_ble_eq_true rfl) hl.1 rfl (Nat.le_of_ble_eq_true rfl) dX8_give_109 (fun H locs hw => ?_)
          exact x_iret C hw h dX8_give_112
      · have h := (it_d h).2 c
        exact B90 S4 _ _ ls h hw (lv_sub hl [0] rfl)
  have B44 : ∀ (S : SS) (H : Heap) (locs : List Loc) (ls : Array Slot), fX8_give_b44 N S = some (rz, Sz) → WH D A s.heap lyM ad cI cZ S H locs → lv_has ls 6 [(0, .ref (ad 0))] → W p l e (rmK 5) s m args below meth c H locs 0 0 (MQ below (Qi D lyM ad cI cZ A rz Sz) args s 0 0 A) (F0 m 44 ls []) := by
    intro S  H locs ls h hw hl
    unfold fX8_give_b44 at h
    refine lv_aload_n hx hb dX8_give_44 rfl (lv_at hl 0 rfl) ?_
    refine lv_ldc (v := (-1000001)) hx hb hown (hts _ kwX8_123) dX8_give_45 ?_
    obtain ⟨r1, S1, hv, h⟩ := b2_some h
    refine x_callVI C hw (mX8_finding hv) lkX8_124 rfl (Nat.le_of_ble_eq_true rfl) hl.1 rfl (Nat.le_of_ble_eq_true rfl) dX8_give_47 (fun H locs hw => ?_)
    exact x_iret C hw h dX8_give_50
  unfold fX8_give at h
  refine lv_aload_n hx hb dX8_give_0 rfl (lv_at hl 0 rfl) ?_
  refine lv_iload_n hx hb dX8_give_1 rfl (lv_at hl 1 rfl) ?_
  refine lv_iload_n hx hb dX8_give_2 rfl (lv_at hl 2 rfl) ?_
  refine lv_iload_n hx hb dX8_give_3 rfl (lv_at hl 3 rfl) ?_
  refine lv_iload hx hb dX8_give_4 (lv_at hl 4 rfl) ?_
  obtain ⟨r1, S1, hv, h⟩ := b2_some h
  refine x_callVI C hw (mX8_canAsk hv) lkX8_182 rfl (Nat.le_of_ble_eq_true rfl) hl.1 rfl (Nat.le_of_ble_eq_true rfl) dX8_give_6 (fun H locs hw => ?_)
  refine lv_if_eq (tgt := 44) hx hb dX8_give_9 (by decide) (fun c => ?_) (fun c => ?_)
  · have h := (it_d h).1 c
    exact B44 S1 _ _ ls h hw (lv_sub hl [0] rfl)
  · have h := (it_d h).2 c
    refine lv_aload_n hx hb dX8_give_12 rfl (lv_at hl 0 rfl) ?_
    refine lv_iload hx hb dX8_give_13 (lv_at hl 5 rfl) ?_
    obtain ⟨r2, S2, hv, h⟩ := b2_some h
    refine x_callVI C hw (mX8_isPanel hv) lkX8_197 rfl (Nat.le_of_ble_eq_true rfl) hl.1 rfl (Nat.le_of_ble_eq_true rfl) dX8_give_15 (fun H locs hw => ?_)
    refine lv_if_eq (tgt := 44) hx hb dX8_give_18 (by decide) (fun c => ?_) (fun c => ?_)
    · have h := (it_d h).1 c
      exact B44 S2 _ _ ls h hw (lv_sub hl [0] rfl)
    · have h := (it_d h).2 c
      refine lv_aload_n hx hb dX8_give_21 rfl (lv_at hl 0 rfl) ?_
      refine x_getI C hw gtX8_159 dX8_give_22 ?_
      refine lv_if_le (tgt := 51) hx hb dX8_give_25 (by decide) (fun c => ?_) (fun c => ?_)
      · have h := (it_d h).1 c
        exact B51 S2 x1 x2 x3 x4 x5 _ _ ls h hw (lv_sub hl [0, 1, 2, 3, 4, 5] rfl)
      · have h := (it_d h).2 c
        refine lv_iload hx hb dX8_give_28 (lv_at hl 4 rfl) ?_
        refine lv_aload_n hx hb dX8_give_30 rfl (lv_at hl 0 rfl) ?_
        refine x_getR C hw gtX8_58 dX8_give_31 ?_
        refine lv_aload_n hx hb dX8_give_34 rfl (lv_at hl 0 rfl) ?_
        refine x_getI C hw gtX8_159 dX8_give_35 ?_
        refine lv_iconst (v := 1) hx hb dX8_give_38 (by decide) ?_
        refine lv_isub hx hb dX8_give_39 ?_
        obtain ⟨v1, hv, h⟩ := bb_some h
        refine x_ald C hw alM_17 hv dX8_give_40 ?_
        refine lv_icmp_ge (tgt := 51) hx hb dX8_give_41 (by decide) (fun c => ?_) (fun c => ?_)
        · have h := (it_d h).1 c
          exact B51 S2 x1 x2 x3 x4 x5 _ _ ls h hw (lv_sub hl [0, 1, 2, 3, 4, 5] rfl)
        · have h := (it_d h).2 c
          exact B44 S2 _ _ ls h hw (lv_sub hl [0] rfl)
set_option maxHeartbeats 4000000 in
set_option maxRecDepth 100000 in
theorem mX8_given {N : Nat} {l : Launch} {D : va_G} {ad : Nat → Nat} {cI cZ : ClassId} {S Sz : SS} {x1 : Int32} {rz : Int32} (h : fX8_given N S x1 = some (rz, Sz)) : MI l D lyM ad cI cZ yX8_given cX8_given 2 (some .int) 1 [.ref (ad 0), .int x1] S rz Sz := by
  refine x_startI RX8 (by decide) rfl (Nat.le_of_ble_eq_true rfl) ?_
  intro p e s m args below meth c A C hw ls hl
  have hx := C.1
  have hb := C.2.1
  have hown := C.2.2.2.1
  have hts := C.2.2.2.2.1
  have hl : lv_has ls 2 [(0, .ref (ad 0)), (1, .int x1)] := hl
  unfold fX8_given at h
  refine lv_iload_n hx hb dX8_given_0 rfl (lv_at hl 1 rfl) ?_
  refine lv_iconst (v := 0) hx hb dX8_given_1 (by decide) ?_
  refine lv_aload_n hx hb dX8_given_2 rfl (lv_at hl 0 rfl) ?_
  refine x_getI C hw gtX8_208 dX8_given_3 ?_
  refine lv_iconst (v := 1) hx hb dX8_given_6 (by decide) ?_
  refine lv_isub hx hb dX8_given_7 ?_
  obtain ⟨r1, S1, hv, h⟩ := b2_some h
  refine x_callSI C hw (mX8_within hv) lkX8_111 rfl (Nat.le_of_ble_eq_true rfl) hl.1 rfl (Nat.le_of_ble_eq_true rfl) dX8_given_8 (fun H locs hw => ?_)
  refine lv_if_ne (tgt := 21) hx hb dX8_given_11 (by decide) (fun c => ?_) (fun c => ?_)
  · have h := (it_d h).2 c
    refine lv_aload_n hx hb dX8_given_21 rfl (lv_at hl 0 rfl) ?_
    refine x_getI C hw gtX8_211 dX8_given_22 ?_
    refine lv_if_eq (tgt := 37) hx hb dX8_given_25 (by decide) (fun c => ?_) (fun c => ?_)
    · have h := (it_d h).1 c
      refine lv_aload_n hx hb dX8_given_37 rfl (lv_at hl 0 rfl) ?_
      refine lv_ldc (v := (-1000003)) hx hb hown (hts _ kwX8_203) dX8_given_38 ?_
      obtain ⟨r2, S2, hv, h⟩ := b2_some h
      refine x_callVI C hw (mX8_finding hv) lkX8_124 rfl (Nat.le_of_ble_eq_true rfl) hl.1 rfl (Nat.le_of_ble_eq_true rfl) dX8_given_40 (fun H locs hw => ?_)
      exact x_iret C hw h dX8_given_43
    · have h := (it_d h).2 c
      refine lv_aload_n hx hb dX8_given_28 rfl (lv_at hl 0 rfl) ?_
      refine x_getR C hw gtX8_76 dX8_given_29 ?_
      refine lv_iload_n hx hb dX8_given_32 rfl (lv_at hl 1 rfl) ?_
      obtain ⟨v1, hv, h⟩ := bb_some h
      refine x_ald C hw alM_23 hv dX8_given_33 ?_
      refine lv_goto (tgt := 43) hx hb dX8_given_34 (by decide) ?_
      exact x_iret C hw h dX8_given_43
  · have h := (it_d h).1 c
    refine lv_aload_n hx hb dX8_given_14 rfl (lv_at hl 0 rfl) ?_
    refine lv_ldc (v := (-1000001)) hx hb hown (hts _ kwX8_123) dX8_given_15 ?_
    obtain ⟨r3, S3, hv, h⟩ := b2_some h
    refine x_callVI C hw (mX8_finding hv) lkX8_124 rfl (Nat.le_of_ble_eq_true rfl) hl.1 rfl (Nat.le_of_ble_eq_true rfl) dX8_given_17 (fun H locs hw => ?_)
    exact x_iret C hw h dX8_given_20
set_option maxHeartbeats 4000000 in
set_option maxRecDepth 100000 in
theorem mX8_go {N : Nat} {l : Launch} {D : va_G} {ad : Nat → Nat} {cI cZ : ClassId} {S Sz : SS} {rz : Int32} (h : fX8_go N S  = some (rz, Sz)) : MI l D lyM ad cI cZ yX8_go cX8_go 2 (some .int) 0 [.ref (ad 0)] S rz Sz := by
  refine x_startI RX8 (by decide) rfl (Nat.le_of_ble_eq_true rfl) ?_
  intro p e s m args below meth c A C hw ls hl
  have hx := C.1
  have hb := C.2.1
  have hown := C.2.2.2.1
  have hts := C.2.2.2.2.1
  have hl : lv_has ls 2 [(0, .ref (ad 0))] := hl
  unfold fX8_go at h
  refine lv_aload_n hx hb dX8_go_0 rfl (lv_at hl 0 rfl) ?_
  refine x_getI C hw gtX8_208 dX8_go_1 ?_
  refine lv_istore_n (lv' := [(1, .int (S.1 5)), (0, .ref (ad 0))]) hx hb dX8_go_4 rfl hl (by decide) rfl (fun ls hl => ?_)
  refine lv_aload_n hx hb dX8_go_5 rfl (lv_at hl 1 rfl) ?_
  refine lv_iconst (v := 0) hx hb dX8_go_6 (by decide) ?_
  obtain ⟨S1, hv, h⟩ := bb_some h
  refine x_putO C hw gpX8_208 hv rfl rfl dX8_go_7 (fun H locs hw => ?_)
  refine lv_aload_n hx hb dX8_go_10 rfl (lv_at hl 1 rfl) ?_
  refine lv_iconst (v := 0) hx hb dX8_go_11 (by decide) ?_
  obtain ⟨S2, hv, h⟩ := bb_some h
  refine x_putO C hw gpX8_211 hv (by decide) (by decide) dX8_go_12 (fun H locs hw => ?_)
  refine lv_iload_n hx hb dX8_go_15 rfl (lv_at hl 0 rfl) ?_
  exact x_iret C hw h dX8_go_16
set_option maxHeartbeats 4000000 in
set_option maxRecDepth 100000 in
theorem mX8_hard {N : Nat} {l : Launch} {D : va_G} {ad : Nat → Nat} {cI cZ : ClassId} {S Sz : SS} {x1 : Int32} {rz : Int32} (h : fX8_hard N S x1 = some (rz, Sz)) : MI l D lyM ad cI cZ yX8_hard cX8_hard 5 (some .int) 2 [.ref (ad 0), .int x1] S rz Sz := by
  refine x_startI RX8 (by decide) rfl (Nat.le_of_ble_eq_true rfl) ?_
  intro p e s m args below meth c A C hw ls hl
  have hx := C.1
  have hb := C.2.1
  have hown := C.2.2.2.1
  have hts := C.2.2.2.2.1
  have hl : lv_has ls 5 [(0, .ref (ad 0)), (1, .int x1)] := hl
  have B36 : ∀ n : Nat, ∀ (S : SS) (x1 x2 x3 : Int32) (H : Heap) (locs : List Loc) (ls : Array Slot), fX8_hard_b36 N n S x1 x2 x3 = some (rz, Sz) → WH D A s.heap lyM ad cI cZ S H locs → lv_has ls 5 [(0, .ref (ad 0)), (1, .int x1), (2, .int x2), (3, .int x3)] → W p l e (rmK 2) s m args below meth c H locs 0 0 (MQ below (Qi D lyM ad cI cZ A rz Sz) args s 0 0 A) (F0 m 36 ls []) := by
    intro n
    induction n with
    | zero =>
      intro S x1 x2 x3 H locs ls h hw hl
      rw [fX8_hard_b36] at h
      cases h
    | succ n36 ih36 =>
      have B47 : ∀ n : Nat, ∀ (S : SS) (x1 x2 x3 x4 : Int32) (H : Heap) (locs : List Loc) (ls : Array Slot), fX8_hard_b47 N (fun S x1 x2 x3 => fX8_hard_b36 N n36 S x1 x2 x3) n S x1 x2 x3 x4 = some (rz, Sz) → WH D A s.heap lyM ad cI cZ S H locs → lv_has ls 5 [(0, .ref (ad 0)), (1, .int x1), (2, .int x2), (3, .int x3), (4, .int x4)] → W p l e (rmK 2) s m args below meth c H locs 0 0 (MQ below (Qi D lyM ad cI cZ A rz Sz) args s 0 0 A) (F0 m 47 ls []) := by
        intro n
        induction n with
        | zero =>
          intro S x1 x2 x3 x4 H locs ls h hw hl
          rw [fX8_hard_b47] at h
          cases h
        | succ n ih47 =>
          intro S x1 x2 x3 x4 H locs ls h hw hl
          rw [fX8_hard_b47] at h
          refine lv_iload hx hb dX8_hard_47 (lv_at hl 4 rfl) ?_
          refine lv_iconst (v := 5) hx hb dX8_hard_49 (by decide) ?_
          refine lv_icmp_ge (tgt := 108) hx hb dX8_hard_50 (by decide) (fun c => ?_) (fun c => ?_)
          · have h := (it_d h).1 c
            refine lv_iinc (v := (x3 + 1)) (lv' := [(3, .int (x3 + 1)), (0, .ref (ad 0)), (1, .int x1), (2, .int x2), (4, .int x4)]) hx hb dX8_hard_108 hl (k := 3) rfl rfl (by decide) rfl (fun ls hl => ?_)
            refine lv_goto (tgt := 36) hx hb dX8_hard_111 (by decide) ?_
            exact ih36 S x1 x2 (x3 + 1) _ _ ls h hw (lv_sub hl [1, 2, 3, 0] rfl)
          · have h := (it_d h).2 c
            refine lv_aload_n hx hb dX8_hard_53 rfl (lv_at hl 0 rfl) ?_
            refine x_getR C hw gtX8_79 dX8_hard_54 ?_
            refine lv_iload_n hx hb dX8_hard_57 rfl (lv_at hl 3 rfl) ?_
            obtain ⟨v1, hv, h⟩ := bb_some h
            refine x_ald C hw alM_24 hv dX8_hard_58 ?_
            refine lv_iconst (v := 5) hx hb dX8_hard_59 (by decide) ?_
            refine lv_icmp_ne (tgt := 108) hx hb dX8_hard_60 (by decide) (fun c => ?_) (fun c => ?_)
            · have h := (it_d h).2 c
              refine lv_iinc (v := (x3 + 1)) (lv' := [(3, .int (x3 + 1)), (0, .ref (ad 0)), (1, .int x1), (2, .int x2), (4, .int x4)]) hx hb dX8_hard_108 hl (k := 3) rfl rfl (by decide) rfl (fun ls hl => ?_)
              refine lv_goto (tgt := 36) hx hb dX8_hard_111 (by decide) ?_
              exact ih36 S x1 x2 (x3 + 1) _ _ ls h hw (lv_sub hl [1, 2, 3, 0] rfl)
            · have h := (it_d h).1 c
              refine lv_iload_n hx hb dX8_hard_63 rfl (lv_at hl 2 rfl) ?_
              refine lv_aload_n hx hb dX8_hard_64 rfl (lv_at hl 0 rfl) ?_
              refine x_getR C hw gtX8_82 dX8_hard_65 ?_
              refine lv_iconst (v := 5) hx hb dX8_hard_68 (by decide) ?_
              refine lv_iload_n hx hb dX8_hard_69 rfl (lv_at hl 3 rfl) ?_
              refine lv_imul hx hb dX8_hard_70 ?_
              refine lv_iload hx hb dX8_hard_71 (lv_at hl 4 rfl) ?_
              refine lv_iadd hx hb dX8_hard_73 ?_
              obtain ⟨v2, hv, h⟩ := bb_some h
              refine x_ald C hw alM_25 hv dX8_hard_74 ?_
              refine lv_iload_n hx hb dX8_hard_75 rfl (lv_at hl 1 rfl) ?_
              refine lv_icmp_ne (tgt := 99) hx hb dX8_hard_76 (by decide) (fun c => ?_) (fun c => ?_)
              · have h := (it_d h).2 c
                refine lv_iconst (v := 0) hx hb dX8_hard_99 (by decide) ?_
                refine lv_iadd hx hb dX8_hard_100 ?_
                refine lv_istore_n (lv' := [(2, .int (x2 + 0)), (0, .ref (ad 0)), (1, .int x1), (3, .int x3), (4, .int x4)]) hx hb dX8_hard_101 rfl hl (by decide) rfl (fun ls hl => ?_)
                refine lv_iinc (v := (x4 + 1)) (lv' := [(4, .int (x4 + 1)), (2, .int (x2 + 0)), (0, .ref (ad 0)), (1, .int x1), (3, .int x3)]) hx hb dX8_hard_102 hl (k := 4) rfl rfl (by decide) rfl (fun ls hl => ?_)
                refine lv_goto (tgt := 47) hx hb dX8_hard_105 (by decide) ?_
                exact ih47 S x1 (x2 + 0) x3 (x4 + 1) _ _ ls h hw (lv_sub hl [2, 3, 1, 4, 0] rfl)
              · have h := (it_d h).1 c
                refine lv_aload_n hx hb dX8_hard_79 rfl (lv_at hl 0 rfl) ?_
                refine x_getR C hw gtX8_85 dX8_hard_80 ?_
                refine lv_iconst (v := 5) hx hb dX8_hard_83 (by decide) ?_
                refine lv_iload_n hx hb dX8_hard_84 rfl (lv_at hl 3 rfl) ?_
                refine lv_imul hx hb dX8_hard_85 ?_
                refine lv_iload hx hb dX8_hard_86 (lv_at hl 4 rfl) ?_
                refine lv_iadd hx hb dX8_hard_88 ?_
                obtain ⟨v3, hv, h⟩ := bb_some h
                refine x_ald C hw alM_26 hv dX8_hard_89 ?_
                refine lv_aload_n hx hb dX8_hard_90 rfl (lv_at hl 0 rfl) ?_
                refine lv_iload_n hx hb dX8_hard_91 rfl (lv_at hl 3 rfl) ?_
                obtain ⟨r1, S1, hv, h⟩ := b2_some h
                refine x_callVI C hw (mX8_middleOf hv) lkX8_240 rfl (Nat.le_of_ble_eq_true rfl) hl.1 rfl (Nat.le_of_ble_eq_true rfl) dX8_hard_92 (fun H locs hw => ?_)
                refine lv_isub hx hb dX8_hard_95 ?_
                refine lv_goto (tgt := 100) hx hb dX8_hard_96 (by decide) ?_
                refine lv_iadd hx hb dX8_hard_100 ?_
                refine lv_istore_n (lv' := [(2, .int (x2 + (v3 - r1))), (0, .ref (ad 0)), (1, .int x1), (3, .int x3), (4, .int x4)]) hx hb dX8_hard_101 rfl hl (by decide) rfl (fun ls hl => ?_)
                refine lv_iinc (v := (x4 + 1)) (lv' := [(4, .int (x4 + 1)), (2, .int (x2 + (v3 - r1))), (0, .ref (ad 0)), (1, .int x1), (3, .int x3)]) hx hb dX8_hard_102 hl (k := 4) rfl rfl (by decide) rfl (fun ls hl => ?_)
                refine lv_goto (tgt := 47) hx hb dX8_hard_105 (by decide) ?_
                exact ih47 S1 x1 (x2 + (v3 - r1)) x3 (x4 + 1) _ _ ls h hw (lv_sub hl [2, 3, 1, 4, 0] rfl)
      intro S x1 x2 x3 H locs ls h hw hl
      rw [fX8_hard_b36] at h
      refine lv_iload_n hx hb dX8_hard_36 rfl (lv_at hl 3 rfl) ?_
      refine lv_aload_n hx hb dX8_hard_37 rfl (lv_at hl 0 rfl) ?_
      refine x_getI C hw gtX8_234 dX8_hard_38 ?_
      refine lv_icmp_ge (tgt := 114) hx hb dX8_hard_41 (by decide) (fun c => ?_) (fun c => ?_)
      · have h := (it_d h).1 c
        refine lv_iload_n hx hb dX8_hard_114 rfl (lv_at hl 2 rfl) ?_
        exact x_iret C hw h dX8_hard_115
      · have h := (it_d h).2 c
        refine lv_iconst (v := 0) hx hb dX8_hard_44 (by decide) ?_
        refine lv_istore (lv' := [(4, .int 0), (0, .ref (ad 0)), (1, .int x1), (2, .int x2), (3, .int x3)]) hx hb dX8_hard_45 hl (by decide) rfl (fun ls hl => ?_)
        exact B47 N S x1 x2 x3 0 _ _ ls h hw (lv_sub hl [1, 2, 3, 4, 0] rfl)
  unfold fX8_hard at h
  refine lv_aload_n hx hb dX8_hard_0 rfl (lv_at hl 0 rfl) ?_
  refine lv_iload_n hx hb dX8_hard_1 rfl (lv_at hl 1 rfl) ?_
  obtain ⟨r1, S1, hv, h⟩ := b2_some h
  refine x_callVI C hw (mX8_isPerson hv) lkX8_132 rfl (Nat.le_of_ble_eq_true rfl) hl.1 rfl (Nat.le_of_ble_eq_true rfl) dX8_hard_2 (fun H locs hw => ?_)
  refine lv_if_ne (tgt := 15) hx hb dX8_hard_5 (by decide) (fun c => ?_) (fun c => ?_)
  · have h := (it_d h).2 c
    refine lv_aload_n hx hb dX8_hard_15 rfl (lv_at hl 0 rfl) ?_
    refine x_getR C hw gtX8_9 dX8_hard_16 ?_
    refine lv_iload_n hx hb dX8_hard_19 rfl (lv_at hl 1 rfl) ?_
    obtain ⟨v1, hv, h⟩ := bb_some h
    refine x_ald C hw alM_1 hv dX8_hard_20 ?_
    refine lv_iconst (v := 1) hx hb dX8_hard_21 (by decide) ?_
    refine lv_icmp_eq (tgt := 32) hx hb dX8_hard_22 (by decide) (fun c => ?_) (fun c => ?_)
    · have h := (it_d h).1 c
      refine lv_iconst (v := 0) hx hb dX8_hard_32 (by decide) ?_
      refine lv_istore_n (lv' := [(2, .int 0), (0, .ref (ad 0)), (1, .int x1)]) hx hb dX8_hard_33 rfl hl (by decide) rfl (fun ls hl => ?_)
      refine lv_iconst (v := 0) hx hb dX8_hard_34 (by decide) ?_
      refine lv_istore_n (lv' := [(3, .int 0), (2, .int 0), (0, .ref (ad 0)), (1, .int x1)]) hx hb dX8_hard_35 rfl hl (by decide) rfl (fun ls hl => ?_)
      exact B36 N S1 x1 0 0 _ _ ls h hw (lv_sub hl [2, 3, 1, 0] rfl)
    · have h := (it_d h).2 c
      refine lv_aload_n hx hb dX8_hard_25 rfl (lv_at hl 0 rfl) ?_
      refine lv_ldc (v := (-1000005)) hx hb hown (hts _ kwX8_135) dX8_hard_26 ?_
      obtain ⟨r2, S2, hv, h⟩ := b2_some h
      refine x_callVI C hw (mX8_finding hv) lkX8_124 rfl (Nat.le_of_ble_eq_true rfl) hl.1 rfl (Nat.le_of_ble_eq_true rfl) dX8_hard_28 (fun H locs hw => ?_)
      exact x_iret C hw h dX8_hard_31
  · have h := (it_d h).1 c
    refine lv_aload_n hx hb dX8_hard_8 rfl (lv_at hl 0 rfl) ?_
    refine lv_ldc (v := (-1000001)) hx hb hown (hts _ kwX8_123) dX8_hard_9 ?_
    obtain ⟨r3, S3, hv, h⟩ := b2_some h
    refine x_callVI C hw (mX8_finding hv) lkX8_124 rfl (Nat.le_of_ble_eq_true rfl) hl.1 rfl (Nat.le_of_ble_eq_true rfl) dX8_hard_11 (fun H locs hw => ?_)
    exact x_iret C hw h dX8_hard_14
set_option maxHeartbeats 4000000 in
set_option maxRecDepth 100000 in
theorem mX8_has {N : Nat} {l : Launch} {D : va_G} {ad : Nat → Nat} {cI cZ : ClassId} {S Sz : SS} {x1 x2 x3 x4 : Int32} {rz : Int32} (h : fX8_has N S x1 x2 x3 x4 = some (rz, Sz)) : MI l D lyM ad cI cZ yX8_has cX8_has 5 (some .int) 3 [.ref (ad 0), .int x1, .int x2, .int x3, .int x4] S rz Sz := by
  refine x_startI RX8 (by decide) rfl (Nat.le_of_ble_eq_true rfl) ?_
  intro p e s m args below meth c A C hw ls hl
  have hx := C.1
  have hb := C.2.1
  have hown := C.2.2.2.1
  have hts := C.2.2.2.2.1
  have hl : lv_has ls 5 [(0, .ref (ad 0)), (1, .int x1), (2, .int x2), (3, .int x3), (4, .int x4)] := hl
  have B30 : ∀ (S : SS) (H : Heap) (locs : List Loc) (ls : Array Slot), fX8_has_b30 N S = some (rz, Sz) → WH D A s.heap lyM ad cI cZ S H locs → lv_has ls 5 [(0, .ref (ad 0))] → W p l e (rmK 3) s m args below meth c H locs 0 0 (MQ below (Qi D lyM ad cI cZ A rz Sz) args s 0 0 A) (F0 m 30 ls []) := by
    intro S  H locs ls h hw hl
    unfold fX8_has_b30 at h
    refine lv_aload_n hx hb dX8_has_30 rfl (lv_at hl 0 rfl) ?_
    refine lv_ldc (v := (-1000001)) hx hb hown (hts _ kwX8_123) dX8_has_31 ?_
    obtain ⟨r1, S1, hv, h⟩ := b2_some h
    refine x_callVI C hw (mX8_finding hv) lkX8_124 rfl (Nat.le_of_ble_eq_true rfl) hl.1 rfl (Nat.le_of_ble_eq_true rfl) dX8_has_33 (fun H locs hw => ?_)
    exact x_iret C hw h dX8_has_36
  unfold fX8_has at h
  refine lv_aload_n hx hb dX8_has_0 rfl (lv_at hl 0 rfl) ?_
  refine lv_iload_n hx hb dX8_has_1 rfl (lv_at hl 1 rfl) ?_
  obtain ⟨r1, S1, hv, h⟩ := b2_some h
  refine x_callVI C hw (mX8_isPerson hv) lkX8_132 rfl (Nat.le_of_ble_eq_true rfl) hl.1 rfl (Nat.le_of_ble_eq_true rfl) dX8_has_2 (fun H locs hw => ?_)
  refine lv_if_eq (tgt := 30) hx hb dX8_has_5 (by decide) (fun c => ?_) (fun c => ?_)
  · have h := (it_d h).1 c
    exact B30 S1 _ _ ls h hw (lv_sub hl [0] rfl)
  · have h := (it_d h).2 c
    refine lv_iload_n hx hb dX8_has_8 rfl (lv_at hl 2 rfl) ?_
    obtain ⟨r2, S2, hv, h⟩ := b2_some h
    refine x_callSI C hw (mX8_isUnion hv) lkX8_136 rfl (Nat.le_of_ble_eq_true rfl) hl.1 rfl (Nat.le_of_ble_eq_true rfl) dX8_has_9 (fun H locs hw => ?_)
    refine lv_if_eq (tgt := 30) hx hb dX8_has_12 (by decide) (fun c => ?_) (fun c => ?_)
    · have h := (it_d h).1 c
      exact B30 S2 _ _ ls h hw (lv_sub hl [0] rfl)
    · have h := (it_d h).2 c
      refine lv_iload_n hx hb dX8_has_15 rfl (lv_at hl 3 rfl) ?_
      obtain ⟨r3, S3, hv, h⟩ := b2_some h
      refine x_callSI C hw (mX8_isDay hv) lkX8_119 rfl (Nat.le_of_ble_eq_true rfl) hl.1 rfl (Nat.le_of_ble_eq_true rfl) dX8_has_16 (fun H locs hw => ?_)
      refine lv_if_eq (tgt := 30) hx hb dX8_has_19 (by decide) (fun c => ?_) (fun c => ?_)
      · have h := (it_d h).1 c
        exact B30 S3 _ _ ls h hw (lv_sub hl [0] rfl)
      · have h := (it_d h).2 c
        refine lv_iload hx hb dX8_has_22 (lv_at hl 4 rfl) ?_
        obtain ⟨r4, S4, hv, h⟩ := b2_some h
        refine x_callSI C hw (mX8_isDay hv) lkX8_119 rfl (Nat.le_of_ble_eq_true rfl) hl.1 rfl (Nat.le_of_ble_eq_true rfl) dX8_has_24 (fun H locs hw => ?_)
        refine lv_if_ne (tgt := 37) hx hb dX8_has_27 (by decide) (fun c => ?_) (fun c => ?_)
        · have h := (it_d h).2 c
          refine lv_aload_n hx hb dX8_has_37 rfl (lv_at hl 0 rfl) ?_
          refine lv_iload hx hb dX8_has_38 (lv_at hl 4 rfl) ?_
          obtain ⟨S5, hv, h⟩ := bb_some h
          refine x_callVV C hw (mX8_findStanding hv) lkX8_175 rfl (Nat.le_of_ble_eq_true rfl) hl.1 rfl (Nat.le_of_ble_eq_true rfl) dX8_has_40 (fun H locs hw => ?_)
          refine lv_aload_n hx hb dX8_has_43 rfl (lv_at hl 0 rfl) ?_
          refine lv_iload_n hx hb dX8_has_44 rfl (lv_at hl 1 rfl) ?_
          refine lv_iload_n hx hb dX8_has_45 rfl (lv_at hl 2 rfl) ?_
          refine lv_iload_n hx hb dX8_has_46 rfl (lv_at hl 3 rfl) ?_
          obtain ⟨r5, S6, hv, h⟩ := b2_some h
          refine x_callVI C hw (mX8_hasOf hv) lkX8_179 rfl (Nat.le_of_ble_eq_true rfl) hl.1 rfl (Nat.le_of_ble_eq_true rfl) dX8_has_47 (fun H locs hw => ?_)
          exact x_iret C hw h dX8_has_50
        · have h := (it_d h).1 c
          exact B30 S4 _ _ ls h hw (lv_sub hl [0] rfl)
set_option maxHeartbeats 4000000 in
set_option maxRecDepth 100000 in
theorem mX8_licence {N : Nat} {l : Launch} {D : va_G} {ad : Nat → Nat} {cI cZ : ClassId} {S Sz : SS} {x1 x2 : Int32} {rz : Int32} (h : fX8_licence N S x1 x2 = some (rz, Sz)) : MI l D lyM ad cI cZ yX8_licence cX8_licence 4 (some .int) 2 [.ref (ad 0), .int x1, .int x2] S rz Sz := by
  refine x_startI RX8 (by decide) rfl (Nat.le_of_ble_eq_true rfl) ?_
  intro p e s m args below meth c A C hw ls hl
  have hx := C.1
  have hb := C.2.1
  have hown := C.2.2.2.1
  have hts := C.2.2.2.2.1
  have hl : lv_has ls 4 [(0, .ref (ad 0)), (1, .int x1), (2, .int x2)] := hl
  have B15 : ∀ (S : SS) (H : Heap) (locs : List Loc) (ls : Array Slot), fX8_licence_b15 N S = some (rz, Sz) → WH D A s.heap lyM ad cI cZ S H locs → lv_has ls 4 [(0, .ref (ad 0))] → W p l e (rmK 2) s m args below meth c H locs 0 0 (MQ below (Qi D lyM ad cI cZ A rz Sz) args s 0 0 A) (F0 m 15 ls []) := by
    intro S  H locs ls h hw hl
    unfold fX8_licence_b15 at h
    refine lv_aload_n hx hb dX8_licence_15 rfl (lv_at hl 0 rfl) ?_
    refine lv_ldc (v := (-1000001)) hx hb hown (hts _ kwX8_123) dX8_licence_16 ?_
    obtain ⟨r1, S1, hv, h⟩ := b2_some h
    refine x_callVI C hw (mX8_finding hv) lkX8_124 rfl (Nat.le_of_ble_eq_true rfl) hl.1 rfl (Nat.le_of_ble_eq_true rfl) dX8_licence_18 (fun H locs hw => ?_)
    exact x_iret C hw h dX8_licence_21
  unfold fX8_licence at h
  refine lv_aload_n hx hb dX8_licence_0 rfl (lv_at hl 0 rfl) ?_
  refine lv_iload_n hx hb dX8_licence_1 rfl (lv_at hl 1 rfl) ?_
  obtain ⟨r1, S1, hv, h⟩ := b2_some h
  refine x_callVI C hw (mX8_isPerson hv) lkX8_132 rfl (Nat.le_of_ble_eq_true rfl) hl.1 rfl (Nat.le_of_ble_eq_true rfl) dX8_licence_2 (fun H locs hw => ?_)
  refine lv_if_eq (tgt := 15) hx hb dX8_licence_5 (by decide) (fun c => ?_) (fun c => ?_)
  · have h := (it_d h).1 c
    exact B15 S1 _ _ ls h hw (lv_sub hl [0] rfl)
  · have h := (it_d h).2 c
    refine lv_iload_n hx hb dX8_licence_8 rfl (lv_at hl 2 rfl) ?_
    obtain ⟨r2, S2, hv, h⟩ := b2_some h
    refine x_callSI C hw (mX8_isDay hv) lkX8_119 rfl (Nat.le_of_ble_eq_true rfl) hl.1 rfl (Nat.le_of_ble_eq_true rfl) dX8_licence_9 (fun H locs hw => ?_)
    refine lv_if_ne (tgt := 22) hx hb dX8_licence_12 (by decide) (fun c => ?_) (fun c => ?_)
    · have h := (it_d h).2 c
      refine lv_aload_n hx hb dX8_licence_22 rfl (lv_at hl 0 rfl) ?_
      refine x_getR C hw gtX8_19 dX8_licence_23 ?_
      refine lv_iload_n hx hb dX8_licence_26 rfl (lv_at hl 1 rfl) ?_
      obtain ⟨v1, hv, h⟩ := bb_some h
      refine x_ald C hw alM_4 hv dX8_licence_27 ?_
      refine lv_istore_n (lv' := [(3, .int v1), (0, .ref (ad 0)), (1, .int x1), (2, .int x2)]) hx hb dX8_licence_28 rfl hl (by decide) rfl (fun ls hl => ?_)
      refine lv_aload_n hx hb dX8_licence_29 rfl (lv_at hl 1 rfl) ?_
      refine x_getR C hw gtX8_19 dX8_licence_30 ?_
      refine lv_iload_n hx hb dX8_licence_33 rfl (lv_at hl 2 rfl) ?_
      refine lv_iload_n hx hb dX8_licence_34 rfl (lv_at hl 3 rfl) ?_
      obtain ⟨S3, hv, h⟩ := bb_some h
      refine x_ast C hw alM_4 hv dX8_licence_35 (fun H locs hw => ?_)
      refine lv_iload_n hx hb dX8_licence_36 rfl (lv_at hl 0 rfl) ?_
      exact x_iret C hw h dX8_licence_37
    · have h := (it_d h).1 c
      exact B15 S2 _ _ ls h hw (lv_sub hl [0] rfl)
set_option maxHeartbeats 4000000 in
set_option maxRecDepth 100000 in
theorem mX8_mark {N : Nat} {l : Launch} {D : va_G} {ad : Nat → Nat} {cI cZ : ClassId} {S Sz : SS} {x1 x2 x3 : Int32} {rz : Int32} (h : fX8_mark N S x1 x2 x3 = some (rz, Sz)) : MI l D lyM ad cI cZ yX8_mark cX8_mark 5 (some .int) 2 [.ref (ad 0), .int x1, .int x2, .int x3] S rz Sz := by
  refine x_startI RX8 (by decide) rfl (Nat.le_of_ble_eq_true rfl) ?_
  intro p e s m args below meth c A C hw ls hl
  have hx := C.1
  have hb := C.2.1
  have hown := C.2.2.2.1
  have hts := C.2.2.2.2.1
  have hl : lv_has ls 5 [(0, .ref (ad 0)), (1, .int x1), (2, .int x2), (3, .int x3)] := hl
  have B85 : ∀ (S : SS) (x1 x2 x3 x4 : Int32) (H : Heap) (locs : List Loc) (ls : Array Slot), fX8_mark_b85 N S x1 x2 x3 x4 = some (rz, Sz) → WH D A s.heap lyM ad cI cZ S H locs → lv_has ls 5 [(0, .ref (ad 0)), (1, .int x1), (2, .int x2), (3, .int x3), (4, .int x4)] → W p l e (rmK 2) s m args below meth c H locs 0 0 (MQ below (Qi D lyM ad cI cZ A rz Sz) args s 0 0 A) (F0 m 85 ls []) := by
    intro S x1 x2 x3 x4 H locs ls h hw hl
    unfold fX8_mark_b85 at h
    refine lv_iload hx hb dX8_mark_85 (lv_at hl 4 rfl) ?_
    refine lv_iconst (v := 5) hx hb dX8_mark_87 (by decide) ?_
    refine lv_icmp_ne (tgt := 98) hx hb dX8_mark_88 (by decide) (fun c => ?_) (fun c => ?_)
    · have h := (it_d h).2 c
      refine lv_aload_n hx hb dX8_mark_98 rfl (lv_at hl 0 rfl) ?_
      refine x_getR C hw gtX8_82 dX8_mark_99 ?_
      refine lv_iconst (v := 5) hx hb dX8_mark_102 (by decide) ?_
      refine lv_iload_n hx hb dX8_mark_103 rfl (lv_at hl 1 rfl) ?_
      refine lv_imul hx hb dX8_mark_104 ?_
      refine lv_iload hx hb dX8_mark_105 (lv_at hl 4 rfl) ?_
      refine lv_iadd hx hb dX8_mark_107 ?_
      refine lv_iload_n hx hb dX8_mark_108 rfl (lv_at hl 2 rfl) ?_
      obtain ⟨S1, hv, h⟩ := bb_some h
      refine x_ast C hw alM_25 hv dX8_mark_109 (fun H locs hw => ?_)
      refine lv_aload_n hx hb dX8_mark_110 rfl (lv_at hl 0 rfl) ?_
      refine x_getR C hw gtX8_85 dX8_mark_111 ?_
      refine lv_iconst (v := 5) hx hb dX8_mark_114 (by decide) ?_
      refine lv_iload_n hx hb dX8_mark_115 rfl (lv_at hl 1 rfl) ?_
      refine lv_imul hx hb dX8_mark_116 ?_
      refine lv_iload hx hb dX8_mark_117 (lv_at hl 4 rfl) ?_
      refine lv_iadd hx hb dX8_mark_119 ?_
      refine lv_iload_n hx hb dX8_mark_120 rfl (lv_at hl 3 rfl) ?_
      obtain ⟨S2, hv, h⟩ := bb_some h
      refine x_ast C hw alM_26 hv dX8_mark_121 (fun H locs hw => ?_)
      refine lv_aload_n hx hb dX8_mark_122 rfl (lv_at hl 0 rfl) ?_
      refine x_getR C hw gtX8_79 dX8_mark_123 ?_
      refine lv_iload_n hx hb dX8_mark_126 rfl (lv_at hl 1 rfl) ?_
      refine lv_aload_n hx hb dX8_mark_127 rfl (lv_at hl 0 rfl) ?_
      refine x_getR C hw gtX8_79 dX8_mark_128 ?_
      refine lv_iload_n hx hb dX8_mark_131 rfl (lv_at hl 1 rfl) ?_
      obtain ⟨v1, hv, h⟩ := bb_some h
      refine x_ald C hw alM_24 hv dX8_mark_132 ?_
      refine lv_iload hx hb dX8_mark_133 (lv_at hl 4 rfl) ?_
      refine lv_iconst (v := 1) hx hb dX8_mark_135 (by decide) ?_
      refine lv_iadd hx hb dX8_mark_136 ?_
      refine x_mx C mkX8_165 (Nat.le_of_ble_eq_true rfl) hl.1 (Nat.le_of_ble_eq_true rfl) dX8_mark_137 ?_
      obtain ⟨S3, hv, h⟩ := bb_some h
      refine x_ast C hw alM_24 hv dX8_mark_140 (fun H locs hw => ?_)
      refine lv_aload_n hx hb dX8_mark_141 rfl (lv_at hl 0 rfl) ?_
      refine x_getR C hw gtX8_79 dX8_mark_142 ?_
      refine lv_iload_n hx hb dX8_mark_145 rfl (lv_at hl 1 rfl) ?_
      obtain ⟨v2, hv, h⟩ := bb_some h
      refine x_ald C hw alM_24 hv dX8_mark_146 ?_
      exact x_iret C hw h dX8_mark_147
    · have h := (it_d h).1 c
      refine lv_aload_n hx hb dX8_mark_91 rfl (lv_at hl 0 rfl) ?_
      refine lv_ldc (v := (-1000004)) hx hb hown (hts _ kwX8_131) dX8_mark_92 ?_
      obtain ⟨r1, S4, hv, h⟩ := b2_some h
      refine x_callVI C hw (mX8_finding hv) lkX8_124 rfl (Nat.le_of_ble_eq_true rfl) hl.1 rfl (Nat.le_of_ble_eq_true rfl) dX8_mark_94 (fun H locs hw => ?_)
      exact x_iret C hw h dX8_mark_97
  have B53 : ∀ n : Nat, ∀ (S : SS) (x1 x2 x3 x4 : Int32) (H : Heap) (locs : List Loc) (ls : Array Slot), fX8_mark_b53 N n S x1 x2 x3 x4 = some (rz, Sz) → WH D A s.heap lyM ad cI cZ S H locs → lv_has ls 5 [(0, .ref (ad 0)), (1, .int x1), (2, .int x2), (3, .int x3), (4, .int x4)] → W p l e (rmK 2) s m args below meth c H locs 0 0 (MQ below (Qi D lyM ad cI cZ A rz Sz) args s 0 0 A) (F0 m 53 ls []) := by
    intro n
    induction n with
    | zero =>
      intro S x1 x2 x3 x4 H locs ls h hw hl
      rw [fX8_mark_b53] at h
      cases h
    | succ n ih53 =>
      intro S x1 x2 x3 x4 H locs ls h hw hl
      rw [fX8_mark_b53] at h
      refine lv_iload hx hb dX8_mark_53 (lv_at hl 4 rfl) ?_
      refine lv_aload_n hx hb dX8_mark_55 rfl (lv_at hl 0 rfl) ?_
      refine x_getR C hw gtX8_79 dX8_mark_56 ?_
      refine lv_iload_n hx hb dX8_mark_59 rfl (lv_at hl 1 rfl) ?_
      obtain ⟨v1, hv, h⟩ := bb_some h
      refine x_ald C hw alM_24 hv dX8_mark_60 ?_
      refine lv_icmp_ge (tgt := 85) hx hb dX8_mark_61 (by decide) (fun c => ?_) (fun c => ?_)
      · have h := (it_d h).1 c
        exact B85 S x1 x2 x3 x4 _ _ ls h hw (lv_sub hl [0, 1, 2, 3, 4] rfl)
      · have h := (it_d h).2 c
        refine lv_aload_n hx hb dX8_mark_64 rfl (lv_at hl 0 rfl) ?_
        refine x_getR C hw gtX8_82 dX8_mark_65 ?_
        refine lv_iconst (v := 5) hx hb dX8_mark_68 (by decide) ?_
        refine lv_iload_n hx hb dX8_mark_69 rfl (lv_at hl 1 rfl) ?_
        refine lv_imul hx hb dX8_mark_70 ?_
        refine lv_iload hx hb dX8_mark_71 (lv_at hl 4 rfl) ?_
        refine lv_iadd hx hb dX8_mark_73 ?_
        obtain ⟨v2, hv, h⟩ := bb_some h
        refine x_ald C hw alM_25 hv dX8_mark_74 ?_
        refine lv_iload_n hx hb dX8_mark_75 rfl (lv_at hl 2 rfl) ?_
        refine lv_icmp_eq (tgt := 85) hx hb dX8_mark_76 (by decide) (fun c => ?_) (fun c => ?_)
        · have h := (it_d h).1 c
          exact B85 S x1 x2 x3 x4 _ _ ls h hw (lv_sub hl [0, 1, 2, 3, 4] rfl)
        · have h := (it_d h).2 c
          refine lv_iinc (v := (x4 + 1)) (lv' := [(4, .int (x4 + 1)), (0, .ref (ad 0)), (1, .int x1), (2, .int x2), (3, .int x3)]) hx hb dX8_mark_79 hl (k := 4) rfl rfl (by decide) rfl (fun ls hl => ?_)
          refine lv_goto (tgt := 53) hx hb dX8_mark_82 (by decide) ?_
          exact ih53 S x1 x2 x3 (x4 + 1) _ _ ls h hw (lv_sub hl [1, 2, 3, 4, 0] rfl)
  have B26 : ∀ (S : SS) (H : Heap) (locs : List Loc) (ls : Array Slot), fX8_mark_b26 N S = some (rz, Sz) → WH D A s.heap lyM ad cI cZ S H locs → lv_has ls 5 [(0, .ref (ad 0))] → W p l e (rmK 2) s m args below meth c H locs 0 0 (MQ below (Qi D lyM ad cI cZ A rz Sz) args s 0 0 A) (F0 m 26 ls []) := by
    intro S  H locs ls h hw hl
    unfold fX8_mark_b26 at h
    refine lv_aload_n hx hb dX8_mark_26 rfl (lv_at hl 0 rfl) ?_
    refine lv_ldc (v := (-1000001)) hx hb hown (hts _ kwX8_123) dX8_mark_27 ?_
    obtain ⟨r1, S1, hv, h⟩ := b2_some h
    refine x_callVI C hw (mX8_finding hv) lkX8_124 rfl (Nat.le_of_ble_eq_true rfl) hl.1 rfl (Nat.le_of_ble_eq_true rfl) dX8_mark_29 (fun H locs hw => ?_)
    exact x_iret C hw h dX8_mark_32
  unfold fX8_mark at h
  refine lv_aload_n hx hb dX8_mark_0 rfl (lv_at hl 0 rfl) ?_
  refine lv_iload_n hx hb dX8_mark_1 rfl (lv_at hl 1 rfl) ?_
  obtain ⟨r1, S1, hv, h⟩ := b2_some h
  refine x_callVI C hw (mX8_isExam hv) lkX8_237 rfl (Nat.le_of_ble_eq_true rfl) hl.1 rfl (Nat.le_of_ble_eq_true rfl) dX8_mark_2 (fun H locs hw => ?_)
  refine lv_if_eq (tgt := 26) hx hb dX8_mark_5 (by decide) (fun c => ?_) (fun c => ?_)
  · have h := (it_d h).1 c
    exact B26 S1 _ _ ls h hw (lv_sub hl [0] rfl)
  · have h := (it_d h).2 c
    refine lv_aload_n hx hb dX8_mark_8 rfl (lv_at hl 0 rfl) ?_
    refine lv_iload_n hx hb dX8_mark_9 rfl (lv_at hl 2 rfl) ?_
    obtain ⟨r2, S2, hv, h⟩ := b2_some h
    refine x_callVI C hw (mX8_isPerson hv) lkX8_132 rfl (Nat.le_of_ble_eq_true rfl) hl.1 rfl (Nat.le_of_ble_eq_true rfl) dX8_mark_10 (fun H locs hw => ?_)
    refine lv_if_eq (tgt := 26) hx hb dX8_mark_13 (by decide) (fun c => ?_) (fun c => ?_)
    · have h := (it_d h).1 c
      exact B26 S2 _ _ ls h hw (lv_sub hl [0] rfl)
    · have h := (it_d h).2 c
      refine lv_iload_n hx hb dX8_mark_16 rfl (lv_at hl 3 rfl) ?_
      refine lv_iconst (v := 0) hx hb dX8_mark_17 (by decide) ?_
      refine lv_bipush (v := 100) hx hb dX8_mark_18 (by decide) ?_
      obtain ⟨r3, S3, hv, h⟩ := b2_some h
      refine x_callSI C hw (mX8_within hv) lkX8_111 rfl (Nat.le_of_ble_eq_true rfl) hl.1 rfl (Nat.le_of_ble_eq_true rfl) dX8_mark_20 (fun H locs hw => ?_)
      refine lv_if_ne (tgt := 33) hx hb dX8_mark_23 (by decide) (fun c => ?_) (fun c => ?_)
      · have h := (it_d h).2 c
        refine lv_aload_n hx hb dX8_mark_33 rfl (lv_at hl 0 rfl) ?_
        refine x_getR C hw gtX8_9 dX8_mark_34 ?_
        refine lv_iload_n hx hb dX8_mark_37 rfl (lv_at hl 2 rfl) ?_
        obtain ⟨v1, hv, h⟩ := bb_some h
        refine x_ald C hw alM_1 hv dX8_mark_38 ?_
        refine lv_iconst (v := 1) hx hb dX8_mark_39 (by decide) ?_
        refine lv_icmp_eq (tgt := 50) hx hb dX8_mark_40 (by decide) (fun c => ?_) (fun c => ?_)
        · have h := (it_d h).1 c
          refine lv_iconst (v := 0) hx hb dX8_mark_50 (by decide) ?_
          refine lv_istore (lv' := [(4, .int 0), (0, .ref (ad 0)), (1, .int x1), (2, .int x2), (3, .int x3)]) hx hb dX8_mark_51 hl (by decide) rfl (fun ls hl => ?_)
          exact B53 N S3 x1 x2 x3 0 _ _ ls h hw (lv_sub hl [1, 2, 3, 4, 0] rfl)
        · have h := (it_d h).2 c
          refine lv_aload_n hx hb dX8_mark_43 rfl (lv_at hl 0 rfl) ?_
          refine lv_ldc (v := (-1000005)) hx hb hown (hts _ kwX8_135) dX8_mark_44 ?_
          obtain ⟨r4, S4, hv, h⟩ := b2_some h
          refine x_callVI C hw (mX8_finding hv) lkX8_124 rfl (Nat.le_of_ble_eq_true rfl) hl.1 rfl (Nat.le_of_ble_eq_true rfl) dX8_mark_46 (fun H locs hw => ?_)
          exact x_iret C hw h dX8_mark_49
      · have h := (it_d h).1 c
        exact B26 S3 _ _ ls h hw (lv_sub hl [0] rfl)
set_option maxHeartbeats 4000000 in
set_option maxRecDepth 100000 in
theorem mX8_middle {N : Nat} {l : Launch} {D : va_G} {ad : Nat → Nat} {cI cZ : ClassId} {S Sz : SS} {x1 : Int32} {rz : Int32} (h : fX8_middle N S x1 = some (rz, Sz)) : MI l D lyM ad cI cZ yX8_middle cX8_middle 2 (some .int) 2 [.ref (ad 0), .int x1] S rz Sz := by
  refine x_startI RX8 (by decide) rfl (Nat.le_of_ble_eq_true rfl) ?_
  intro p e s m args below meth c A C hw ls hl
  have hx := C.1
  have hb := C.2.1
  have hown := C.2.2.2.1
  have hts := C.2.2.2.2.1
  have hl : lv_has ls 2 [(0, .ref (ad 0)), (1, .int x1)] := hl
  unfold fX8_middle at h
  refine lv_aload_n hx hb dX8_middle_0 rfl (lv_at hl 0 rfl) ?_
  refine lv_iload_n hx hb dX8_middle_1 rfl (lv_at hl 1 rfl) ?_
  obtain ⟨r1, S1, hv, h⟩ := b2_some h
  refine x_callVI C hw (mX8_isExam hv) lkX8_237 rfl (Nat.le_of_ble_eq_true rfl) hl.1 rfl (Nat.le_of_ble_eq_true rfl) dX8_middle_2 (fun H locs hw => ?_)
  refine lv_if_ne (tgt := 15) hx hb dX8_middle_5 (by decide) (fun c => ?_) (fun c => ?_)
  · have h := (it_d h).2 c
    refine lv_aload_n hx hb dX8_middle_15 rfl (lv_at hl 0 rfl) ?_
    refine x_getR C hw gtX8_79 dX8_middle_16 ?_
    refine lv_iload_n hx hb dX8_middle_19 rfl (lv_at hl 1 rfl) ?_
    obtain ⟨v1, hv, h⟩ := bb_some h
    refine x_ald C hw alM_24 hv dX8_middle_20 ?_
    refine lv_iconst (v := 5) hx hb dX8_middle_21 (by decide) ?_
    refine lv_icmp_ne (tgt := 33) hx hb dX8_middle_22 (by decide) (fun c => ?_) (fun c => ?_)
    · have h := (it_d h).2 c
      refine lv_aload_n hx hb dX8_middle_33 rfl (lv_at hl 0 rfl) ?_
      refine lv_ldc (v := (-1000003)) hx hb hown (hts _ kwX8_203) dX8_middle_34 ?_
      obtain ⟨r2, S2, hv, h⟩ := b2_some h
      refine x_callVI C hw (mX8_finding hv) lkX8_124 rfl (Nat.le_of_ble_eq_true rfl) hl.1 rfl (Nat.le_of_ble_eq_true rfl) dX8_middle_36 (fun H locs hw => ?_)
      exact x_iret C hw h dX8_middle_39
    · have h := (it_d h).1 c
      refine lv_aload_n hx hb dX8_middle_25 rfl (lv_at hl 0 rfl) ?_
      refine lv_iload_n hx hb dX8_middle_26 rfl (lv_at hl 1 rfl) ?_
      obtain ⟨r3, S3, hv, h⟩ := b2_some h
      refine x_callVI C hw (mX8_middleOf hv) lkX8_240 rfl (Nat.le_of_ble_eq_true rfl) hl.1 rfl (Nat.le_of_ble_eq_true rfl) dX8_middle_27 (fun H locs hw => ?_)
      refine lv_goto (tgt := 39) hx hb dX8_middle_30 (by decide) ?_
      exact x_iret C hw h dX8_middle_39
  · have h := (it_d h).1 c
    refine lv_aload_n hx hb dX8_middle_8 rfl (lv_at hl 0 rfl) ?_
    refine lv_ldc (v := (-1000001)) hx hb hown (hts _ kwX8_123) dX8_middle_9 ?_
    obtain ⟨r4, S4, hv, h⟩ := b2_some h
    refine x_callVI C hw (mX8_finding hv) lkX8_124 rfl (Nat.le_of_ble_eq_true rfl) hl.1 rfl (Nat.le_of_ble_eq_true rfl) dX8_middle_11 (fun H locs hw => ?_)
    exact x_iret C hw h dX8_middle_14
set_option maxHeartbeats 4000000 in
set_option maxRecDepth 100000 in
theorem mX8_panel {N : Nat} {l : Launch} {D : va_G} {ad : Nat → Nat} {cI cZ : ClassId} {S Sz : SS} {x1 x2 x3 x4 x5 : Int32} {rz : Int32} (h : fX8_panel N S x1 x2 x3 x4 x5 = some (rz, Sz)) : MI l D lyM ad cI cZ yX8_panel cX8_panel 7 (some .int) 5 [.ref (ad 0), .int x1, .int x2, .int x3, .int x4, .int x5] S rz Sz := by
  refine x_startI RX8 (by decide) rfl (Nat.le_of_ble_eq_true rfl) ?_
  intro p e s m args below meth c A C hw ls hl
  have hx := C.1
  have hb := C.2.1
  have hown := C.2.2.2.1
  have hts := C.2.2.2.2.1
  have hl : lv_has ls 7 [(0, .ref (ad 0)), (1, .int x1), (2, .int x2), (3, .int x3), (4, .int x4), (5, .int x5)] := hl
  have B21 : ∀ (S : SS) (H : Heap) (locs : List Loc) (ls : Array Slot), fX8_panel_b21 N S = some (rz, Sz) → WH D A s.heap lyM ad cI cZ S H locs → lv_has ls 7 [(0, .ref (ad 0))] → W p l e (rmK 5) s m args below meth c H locs 0 0 (MQ below (Qi D lyM ad cI cZ A rz Sz) args s 0 0 A) (F0 m 21 ls []) := by
    intro S  H locs ls h hw hl
    unfold fX8_panel_b21 at h
    refine lv_aload_n hx hb dX8_panel_21 rfl (lv_at hl 0 rfl) ?_
    refine lv_ldc (v := (-1000001)) hx hb hown (hts _ kwX8_123) dX8_panel_22 ?_
    obtain ⟨r1, S1, hv, h⟩ := b2_some h
    refine x_callVI C hw (mX8_finding hv) lkX8_124 rfl (Nat.le_of_ble_eq_true rfl) hl.1 rfl (Nat.le_of_ble_eq_true rfl) dX8_panel_24 (fun H locs hw => ?_)
    exact x_iret C hw h dX8_panel_27
  unfold fX8_panel at h
  refine lv_aload_n hx hb dX8_panel_0 rfl (lv_at hl 0 rfl) ?_
  refine lv_iload_n hx hb dX8_panel_1 rfl (lv_at hl 1 rfl) ?_
  refine lv_iload_n hx hb dX8_panel_2 rfl (lv_at hl 2 rfl) ?_
  refine lv_iload_n hx hb dX8_panel_3 rfl (lv_at hl 3 rfl) ?_
  refine lv_iload hx hb dX8_panel_4 (lv_at hl 4 rfl) ?_
  obtain ⟨r1, S1, hv, h⟩ := b2_some h
  refine x_callVI C hw (mX8_canAsk hv) lkX8_182 rfl (Nat.le_of_ble_eq_true rfl) hl.1 rfl (Nat.le_of_ble_eq_true rfl) dX8_panel_6 (fun H locs hw => ?_)
  refine lv_if_eq (tgt := 21) hx hb dX8_panel_9 (by decide) (fun c => ?_) (fun c => ?_)
  · have h := (it_d h).1 c
    exact B21 S1 _ _ ls h hw (lv_sub hl [0] rfl)
  · have h := (it_d h).2 c
    refine lv_aload_n hx hb dX8_panel_12 rfl (lv_at hl 0 rfl) ?_
    refine lv_iload hx hb dX8_panel_13 (lv_at hl 5 rfl) ?_
    obtain ⟨r2, S2, hv, h⟩ := b2_some h
    refine x_callVI C hw (mX8_isPanel hv) lkX8_197 rfl (Nat.le_of_ble_eq_true rfl) hl.1 rfl (Nat.le_of_ble_eq_true rfl) dX8_panel_15 (fun H locs hw => ?_)
    refine lv_if_ne (tgt := 28) hx hb dX8_panel_18 (by decide) (fun c => ?_) (fun c => ?_)
    · have h := (it_d h).2 c
      refine lv_aload_n hx hb dX8_panel_28 rfl (lv_at hl 0 rfl) ?_
      refine lv_iload_n hx hb dX8_panel_29 rfl (lv_at hl 2 rfl) ?_
      refine lv_iload_n hx hb dX8_panel_30 rfl (lv_at hl 3 rfl) ?_
      refine lv_iload hx hb dX8_panel_31 (lv_at hl 4 rfl) ?_
      obtain ⟨r3, S3, hv, h⟩ := b2_some h
      refine x_callVI C hw (mX8_ruleOf hv) lkX8_149 rfl (Nat.le_of_ble_eq_true rfl) hl.1 rfl (Nat.le_of_ble_eq_true rfl) dX8_panel_33 (fun H locs hw => ?_)
      refine lv_istore (lv' := [(6, .int r3), (0, .ref (ad 0)), (1, .int x1), (2, .int x2), (3, .int x3), (4, .int x4), (5, .int x5)]) hx hb dX8_panel_36 hl (by decide) rfl (fun ls hl => ?_)
      refine lv_iload hx hb dX8_panel_38 (lv_at hl 0 rfl) ?_
      refine lv_if_ge (tgt := 50) hx hb dX8_panel_40 (by decide) (fun c => ?_) (fun c => ?_)
      · have h := (it_d h).1 c
        refine lv_aload_n hx hb dX8_panel_50 rfl (lv_at hl 1 rfl) ?_
        refine lv_iload hx hb dX8_panel_51 (lv_at hl 5 rfl) ?_
        obtain ⟨S4, hv, h⟩ := bb_some h
        refine x_callVV C hw (mX8_findStanding hv) lkX8_175 rfl (Nat.le_of_ble_eq_true rfl) hl.1 rfl (Nat.le_of_ble_eq_true rfl) dX8_panel_53 (fun H locs hw => ?_)
        refine lv_aload_n hx hb dX8_panel_56 rfl (lv_at hl 1 rfl) ?_
        refine lv_iload_n hx hb dX8_panel_57 rfl (lv_at hl 2 rfl) ?_
        refine lv_iload_n hx hb dX8_panel_58 rfl (lv_at hl 3 rfl) ?_
        refine lv_iload hx hb dX8_panel_59 (lv_at hl 0 rfl) ?_
        refine lv_iload hx hb dX8_panel_61 (lv_at hl 5 rfl) ?_
        refine lv_iload hx hb dX8_panel_63 (lv_at hl 6 rfl) ?_
        obtain ⟨r4, S5, hv, h⟩ := b2_some h
        refine x_callVI C hw (mX8_panelOf hv) lkX8_200 rfl (Nat.le_of_ble_eq_true rfl) hl.1 rfl (Nat.le_of_ble_eq_true rfl) dX8_panel_65 (fun H locs hw => ?_)
        exact x_iret C hw h dX8_panel_68
      · have h := (it_d h).2 c
        refine lv_aload_n hx hb dX8_panel_43 rfl (lv_at hl 1 rfl) ?_
        refine lv_ldc (v := (-1000002)) hx hb hown (hts _ kwX8_152) dX8_panel_44 ?_
        obtain ⟨r5, S6, hv, h⟩ := b2_some h
        refine x_callVI C hw (mX8_finding hv) lkX8_124 rfl (Nat.le_of_ble_eq_true rfl) hl.1 rfl (Nat.le_of_ble_eq_true rfl) dX8_panel_46 (fun H locs hw => ?_)
        exact x_iret C hw h dX8_panel_49
    · have h := (it_d h).1 c
      exact B21 S2 _ _ ls h hw (lv_sub hl [0] rfl)
set_option maxHeartbeats 4000000 in
set_option maxRecDepth 100000 in
theorem mX8_part {N : Nat} {l : Launch} {D : va_G} {ad : Nat → Nat} {cI cZ : ClassId} {S Sz : SS} {x1 x2 x3 : Int32} {rz : Int32} (h : fX8_part N S x1 x2 x3 = some (rz, Sz)) : MI l D lyM ad cI cZ yX8_part cX8_part 5 (some .int) 2 [.ref (ad 0), .int x1, .int x2, .int x3] S rz Sz := by
  refine x_startI RX8 (by decide) rfl (Nat.le_of_ble_eq_true rfl) ?_
  intro p e s m args below meth c A C hw ls hl
  have hx := C.1
  have hb := C.2.1
  have hown := C.2.2.2.1
  have hts := C.2.2.2.2.1
  have hl : lv_has ls 5 [(0, .ref (ad 0)), (1, .int x1), (2, .int x2), (3, .int x3)] := hl
  have B29 : ∀ (S : SS) (H : Heap) (locs : List Loc) (ls : Array Slot), fX8_part_b29 N S = some (rz, Sz) → WH D A s.heap lyM ad cI cZ S H locs → lv_has ls 5 [(0, .ref (ad 0))] → W p l e (rmK 2) s m args below meth c H locs 0 0 (MQ below (Qi D lyM ad cI cZ A rz Sz) args s 0 0 A) (F0 m 29 ls []) := by
    intro S  H locs ls h hw hl
    unfold fX8_part_b29 at h
    refine lv_aload_n hx hb dX8_part_29 rfl (lv_at hl 0 rfl) ?_
    refine lv_ldc (v := (-1000001)) hx hb hown (hts _ kwX8_123) dX8_part_30 ?_
    obtain ⟨r1, S1, hv, h⟩ := b2_some h
    refine x_callVI C hw (mX8_finding hv) lkX8_124 rfl (Nat.le_of_ble_eq_true rfl) hl.1 rfl (Nat.le_of_ble_eq_true rfl) dX8_part_32 (fun H locs hw => ?_)
    exact x_iret C hw h dX8_part_35
  unfold fX8_part at h
  refine lv_aload_n hx hb dX8_part_0 rfl (lv_at hl 0 rfl) ?_
  refine lv_iload_n hx hb dX8_part_1 rfl (lv_at hl 1 rfl) ?_
  obtain ⟨r1, S1, hv, h⟩ := b2_some h
  refine x_callVI C hw (mX8_isPerson hv) lkX8_132 rfl (Nat.le_of_ble_eq_true rfl) hl.1 rfl (Nat.le_of_ble_eq_true rfl) dX8_part_2 (fun H locs hw => ?_)
  refine lv_if_eq (tgt := 29) hx hb dX8_part_5 (by decide) (fun c => ?_) (fun c => ?_)
  · have h := (it_d h).1 c
    exact B29 S1 _ _ ls h hw (lv_sub hl [0] rfl)
  · have h := (it_d h).2 c
    refine lv_iload_n hx hb dX8_part_8 rfl (lv_at hl 2 rfl) ?_
    refine lv_iconst (v := 0) hx hb dX8_part_9 (by decide) ?_
    refine lv_bipush (v := 7) hx hb dX8_part_10 (by decide) ?_
    obtain ⟨r2, S2, hv, h⟩ := b2_some h
    refine x_callSI C hw (mX8_within hv) lkX8_111 rfl (Nat.le_of_ble_eq_true rfl) hl.1 rfl (Nat.le_of_ble_eq_true rfl) dX8_part_12 (fun H locs hw => ?_)
    refine lv_if_eq (tgt := 29) hx hb dX8_part_15 (by decide) (fun c => ?_) (fun c => ?_)
    · have h := (it_d h).1 c
      exact B29 S2 _ _ ls h hw (lv_sub hl [0] rfl)
    · have h := (it_d h).2 c
      refine lv_iload_n hx hb dX8_part_18 rfl (lv_at hl 3 rfl) ?_
      refine lv_iconst (v := (-1)) hx hb dX8_part_19 (by decide) ?_
      refine lv_sipush (v := 30000) hx hb dX8_part_20 (by decide) ?_
      obtain ⟨r3, S3, hv, h⟩ := b2_some h
      refine x_callSI C hw (mX8_within hv) lkX8_111 rfl (Nat.le_of_ble_eq_true rfl) hl.1 rfl (Nat.le_of_ble_eq_true rfl) dX8_part_23 (fun H locs hw => ?_)
      refine lv_if_ne (tgt := 36) hx hb dX8_part_26 (by decide) (fun c => ?_) (fun c => ?_)
      · have h := (it_d h).2 c
        refine lv_aload_n hx hb dX8_part_36 rfl (lv_at hl 0 rfl) ?_
        refine x_getR C hw gtX8_22 dX8_part_37 ?_
        refine lv_bipush (v := 8) hx hb dX8_part_40 (by decide) ?_
        refine lv_iload_n hx hb dX8_part_42 rfl (lv_at hl 1 rfl) ?_
        refine lv_imul hx hb dX8_part_43 ?_
        refine lv_iload_n hx hb dX8_part_44 rfl (lv_at hl 2 rfl) ?_
        refine lv_iadd hx hb dX8_part_45 ?_
        obtain ⟨v1, hv, h⟩ := bb_some h
        refine x_ald C hw alM_5 hv dX8_part_46 ?_
        refine lv_istore (lv' := [(4, .int v1), (0, .ref (ad 0)), (1, .int x1), (2, .int x2), (3, .int x3)]) hx hb dX8_part_47 hl (by decide) rfl (fun ls hl => ?_)
        refine lv_aload_n hx hb dX8_part_49 rfl (lv_at hl 1 rfl) ?_
        refine x_getR C hw gtX8_22 dX8_part_50 ?_
        refine lv_bipush (v := 8) hx hb dX8_part_53 (by decide) ?_
        refine lv_iload_n hx hb dX8_part_55 rfl (lv_at hl 2 rfl) ?_
        refine lv_imul hx hb dX8_part_56 ?_
        refine lv_iload_n hx hb dX8_part_57 rfl (lv_at hl 3 rfl) ?_
        refine lv_iadd hx hb dX8_part_58 ?_
        refine lv_iload_n hx hb dX8_part_59 rfl (lv_at hl 4 rfl) ?_
        obtain ⟨S4, hv, h⟩ := bb_some h
        refine x_ast C hw alM_5 hv dX8_part_60 (fun H locs hw => ?_)
        refine lv_iload hx hb dX8_part_61 (lv_at hl 0 rfl) ?_
        exact x_iret C hw h dX8_part_63
      · have h := (it_d h).1 c
        exact B29 S3 _ _ ls h hw (lv_sub hl [0] rfl)
set_option maxHeartbeats 4000000 in
set_option maxRecDepth 100000 in
theorem mX8_person {N : Nat} {l : Launch} {D : va_G} {ad : Nat → Nat} {cI cZ : ClassId} {S Sz : SS} {x1 x2 x3 : Int32} {rz : Int32} (h : fX8_person N S x1 x2 x3 = some (rz, Sz)) : MI l D lyM ad cI cZ yX8_person cX8_person 5 (some .int) 2 [.ref (ad 0), .int x1, .int x2, .int x3] S rz Sz := by
  refine x_startI RX8 (by decide) rfl (Nat.le_of_ble_eq_true rfl) ?_
  intro p e s m args below meth c A C hw ls hl
  have hx := C.1
  have hb := C.2.1
  have hown := C.2.2.2.1
  have hts := C.2.2.2.2.1
  have hl : lv_has ls 5 [(0, .ref (ad 0)), (1, .int x1), (2, .int x2), (3, .int x3)] := hl
  have B152 : ∀ (S : SS) (t1 t2 : Int32) (H : Heap) (locs : List Loc) (ls : Array Slot), fX8_person_b152 N S t1 t2 = some (rz, Sz) → WH D A s.heap lyM ad cI cZ S H locs → lv_has ls 5 [(0, .ref (ad 0))] → W p l e (rmK 2) s m args below meth c H locs 0 0 (MQ below (Qi D lyM ad cI cZ A rz Sz) args s 0 0 A) (F0 m 152 ls [.int t2, .int t1, .ref (ad 0)]) := by
    intro S t1 t2 H locs ls h hw hl
    unfold fX8_person_b152 at h
    refine lv_iadd hx hb dX8_person_152 ?_
    obtain ⟨S1, hv, h⟩ := bb_some h
    refine x_putO C hw gpX8_128 hv rfl rfl dX8_person_153 (fun H locs hw => ?_)
    refine lv_aload_n hx hb dX8_person_156 rfl (lv_at hl 0 rfl) ?_
    refine lv_dup hx hb dX8_person_157 rfl ?_
    refine x_getI C hw gtX8_115 dX8_person_158 ?_
    refine lv_iconst (v := 1) hx hb dX8_person_161 (by decide) ?_
    refine lv_iadd hx hb dX8_person_162 ?_
    obtain ⟨S2, hv, h⟩ := bb_some h
    refine x_putO C hw gpX8_115 hv rfl rfl dX8_person_163 (fun H locs hw => ?_)
    refine lv_aload_n hx hb dX8_person_166 rfl (lv_at hl 0 rfl) ?_
    refine x_getI C hw gtX8_115 dX8_person_167 ?_
    refine lv_iconst (v := 1) hx hb dX8_person_170 (by decide) ?_
    refine lv_isub hx hb dX8_person_171 ?_
    exact x_iret C hw h dX8_person_172
  have B137 : ∀ (S : SS) (x1 : Int32) (H : Heap) (locs : List Loc) (ls : Array Slot), fX8_person_b137 N S x1 = some (rz, Sz) → WH D A s.heap lyM ad cI cZ S H locs → lv_has ls 5 [(0, .ref (ad 0)), (1, .int x1)] → W p l e (rmK 2) s m args below meth c H locs 0 0 (MQ below (Qi D lyM ad cI cZ A rz Sz) args s 0 0 A) (F0 m 137 ls []) := by
    intro S x1 H locs ls h hw hl
    unfold fX8_person_b137 at h
    refine lv_aload_n hx hb dX8_person_137 rfl (lv_at hl 0 rfl) ?_
    refine lv_dup hx hb dX8_person_138 rfl ?_
    refine x_getI C hw gtX8_128 dX8_person_139 ?_
    refine lv_iload_n hx hb dX8_person_142 rfl (lv_at hl 1 rfl) ?_
    refine lv_iconst (v := 1) hx hb dX8_person_143 (by decide) ?_
    refine lv_icmp_ne (tgt := 151) hx hb dX8_person_144 (by decide) (fun c => ?_) (fun c => ?_)
    · have h := (it_d h).2 c
      refine lv_iconst (v := 0) hx hb dX8_person_151 (by decide) ?_
      exact B152 S (S.1 1) 0 _ _ ls h hw (lv_sub hl [0] rfl)
    · have h := (it_d h).1 c
      refine lv_iconst (v := 1) hx hb dX8_person_147 (by decide) ?_
      refine lv_goto (tgt := 152) hx hb dX8_person_148 (by decide) ?_
      exact B152 S (S.1 1) 1 _ _ ls h hw (lv_sub hl [0] rfl)
  have B108 : ∀ n : Nat, ∀ (S : SS) (x1 x4 : Int32) (H : Heap) (locs : List Loc) (ls : Array Slot), fX8_person_b108 N n S x1 x4 = some (rz, Sz) → WH D A s.heap lyM ad cI cZ S H locs → lv_has ls 5 [(0, .ref (ad 0)), (1, .int x1), (4, .int x4)] → W p l e (rmK 2) s m args below meth c H locs 0 0 (MQ below (Qi D lyM ad cI cZ A rz Sz) args s 0 0 A) (F0 m 108 ls []) := by
    intro n
    induction n with
    | zero =>
      intro S x1 x4 H locs ls h hw hl
      rw [fX8_person_b108] at h
      cases h
    | succ n ih108 =>
      intro S x1 x4 H locs ls h hw hl
      rw [fX8_person_b108] at h
      refine lv_iload hx hb dX8_person_108 (lv_at hl 2 rfl) ?_
      refine lv_bipush (v := 8) hx hb dX8_person_110 (by decide) ?_
      refine lv_icmp_ge (tgt := 137) hx hb dX8_person_112 (by decide) (fun c => ?_) (fun c => ?_)
      · have h := (it_d h).1 c
        exact B137 S x1 _ _ ls h hw (lv_sub hl [0, 1] rfl)
      · have h := (it_d h).2 c
        refine lv_aload_n hx hb dX8_person_115 rfl (lv_at hl 0 rfl) ?_
        refine x_getR C hw gtX8_22 dX8_person_116 ?_
        refine lv_bipush (v := 8) hx hb dX8_person_119 (by decide) ?_
        refine lv_aload_n hx hb dX8_person_121 rfl (lv_at hl 0 rfl) ?_
        refine x_getI C hw gtX8_115 dX8_person_122 ?_
        refine lv_imul hx hb dX8_person_125 ?_
        refine lv_iload hx hb dX8_person_126 (lv_at hl 2 rfl) ?_
        refine lv_iadd hx hb dX8_person_128 ?_
        refine lv_iconst (v := (-1)) hx hb dX8_person_129 (by decide) ?_
        obtain ⟨S1, hv, h⟩ := bb_some h
        refine x_ast C hw alM_5 hv dX8_person_130 (fun H locs hw => ?_)
        refine lv_iinc (v := (x4 + 1)) (lv' := [(4, .int (x4 + 1)), (0, .ref (ad 0)), (1, .int x1)]) hx hb dX8_person_131 hl (k := 2) rfl rfl (by decide) rfl (fun ls hl => ?_)
        refine lv_goto (tgt := 108) hx hb dX8_person_134 (by decide) ?_
        exact ih108 S1 x1 (x4 + 1) _ _ ls h hw (lv_sub hl [1, 2, 0] rfl)
  have B63 : ∀ (S : SS) (x1 x2 x3 : Int32) (H : Heap) (locs : List Loc) (ls : Array Slot), fX8_person_b63 N S x1 x2 x3 = some (rz, Sz) → WH D A s.heap lyM ad cI cZ S H locs → lv_has ls 5 [(0, .ref (ad 0)), (1, .int x1), (2, .int x2), (3, .int x3)] → W p l e (rmK 2) s m args below meth c H locs 0 0 (MQ below (Qi D lyM ad cI cZ A rz Sz) args s 0 0 A) (F0 m 63 ls []) := by
    intro S x1 x2 x3 H locs ls h hw hl
    unfold fX8_person_b63 at h
    refine lv_aload_n hx hb dX8_person_63 rfl (lv_at hl 0 rfl) ?_
    refine x_getR C hw gtX8_9 dX8_person_64 ?_
    refine lv_aload_n hx hb dX8_person_67 rfl (lv_at hl 0 rfl) ?_
    refine x_getI C hw gtX8_115 dX8_person_68 ?_
    refine lv_iload_n hx hb dX8_person_71 rfl (lv_at hl 1 rfl) ?_
    obtain ⟨S1, hv, h⟩ := bb_some h
    refine x_ast C hw alM_1 hv dX8_person_72 (fun H locs hw => ?_)
    refine lv_aload_n hx hb dX8_person_73 rfl (lv_at hl 0 rfl) ?_
    refine x_getR C hw gtX8_13 dX8_person_74 ?_
    refine lv_aload_n hx hb dX8_person_77 rfl (lv_at hl 0 rfl) ?_
    refine x_getI C hw gtX8_115 dX8_person_78 ?_
    refine lv_iload_n hx hb dX8_person_81 rfl (lv_at hl 2 rfl) ?_
    obtain ⟨S2, hv, h⟩ := bb_some h
    refine x_ast C hw alM_2 hv dX8_person_82 (fun H locs hw => ?_)
    refine lv_aload_n hx hb dX8_person_83 rfl (lv_at hl 0 rfl) ?_
    refine x_getR C hw gtX8_16 dX8_person_84 ?_
    refine lv_aload_n hx hb dX8_person_87 rfl (lv_at hl 0 rfl) ?_
    refine x_getI C hw gtX8_115 dX8_person_88 ?_
    refine lv_iload_n hx hb dX8_person_91 rfl (lv_at hl 3 rfl) ?_
    obtain ⟨S3, hv, h⟩ := bb_some h
    refine x_ast C hw alM_3 hv dX8_person_92 (fun H locs hw => ?_)
    refine lv_aload_n hx hb dX8_person_93 rfl (lv_at hl 0 rfl) ?_
    refine x_getR C hw gtX8_19 dX8_person_94 ?_
    refine lv_aload_n hx hb dX8_person_97 rfl (lv_at hl 0 rfl) ?_
    refine x_getI C hw gtX8_115 dX8_person_98 ?_
    refine lv_sipush (v := 30000) hx hb dX8_person_101 (by decide) ?_
    obtain ⟨S4, hv, h⟩ := bb_some h
    refine x_ast C hw alM_4 hv dX8_person_104 (fun H locs hw => ?_)
    refine lv_iconst (v := 0) hx hb dX8_person_105 (by decide) ?_
    refine lv_istore (lv' := [(4, .int 0), (0, .ref (ad 0)), (1, .int x1), (2, .int x2), (3, .int x3)]) hx hb dX8_person_106 hl (by decide) rfl (fun ls hl => ?_)
    exact B108 N S4 x1 0 _ _ ls h hw (lv_sub hl [1, 2, 0] rfl)
  have B56 : ∀ (S : SS) (H : Heap) (locs : List Loc) (ls : Array Slot), fX8_person_b56 N S = some (rz, Sz) → WH D A s.heap lyM ad cI cZ S H locs → lv_has ls 5 [(0, .ref (ad 0))] → W p l e (rmK 2) s m args below meth c H locs 0 0 (MQ below (Qi D lyM ad cI cZ A rz Sz) args s 0 0 A) (F0 m 56 ls []) := by
    intro S  H locs ls h hw hl
    unfold fX8_person_b56 at h
    refine lv_aload_n hx hb dX8_person_56 rfl (lv_at hl 0 rfl) ?_
    refine lv_ldc (v := (-1000004)) hx hb hown (hts _ kwX8_131) dX8_person_57 ?_
    obtain ⟨r1, S1, hv, h⟩ := b2_some h
    refine x_callVI C hw (mX8_finding hv) lkX8_124 rfl (Nat.le_of_ble_eq_true rfl) hl.1 rfl (Nat.le_of_ble_eq_true rfl) dX8_person_59 (fun H locs hw => ?_)
    exact x_iret C hw h dX8_person_62
  have B26 : ∀ (S : SS) (H : Heap) (locs : List Loc) (ls : Array Slot), fX8_person_b26 N S = some (rz, Sz) → WH D A s.heap lyM ad cI cZ S H locs → lv_has ls 5 [(0, .ref (ad 0))] → W p l e (rmK 2) s m args below meth c H locs 0 0 (MQ below (Qi D lyM ad cI cZ A rz Sz) args s 0 0 A) (F0 m 26 ls []) := by
    intro S  H locs ls h hw hl
    unfold fX8_person_b26 at h
    refine lv_aload_n hx hb dX8_person_26 rfl (lv_at hl 0 rfl) ?_
    refine lv_ldc (v := (-1000001)) hx hb hown (hts _ kwX8_123) dX8_person_27 ?_
    obtain ⟨r1, S1, hv, h⟩ := b2_some h
    refine x_callVI C hw (mX8_finding hv) lkX8_124 rfl (Nat.le_of_ble_eq_true rfl) hl.1 rfl (Nat.le_of_ble_eq_true rfl) dX8_person_29 (fun H locs hw => ?_)
    exact x_iret C hw h dX8_person_32
  unfold fX8_person at h
  refine lv_iload_n hx hb dX8_person_0 rfl (lv_at hl 1 rfl) ?_
  refine lv_iconst (v := 0) hx hb dX8_person_1 (by decide) ?_
  refine lv_iconst (v := 2) hx hb dX8_person_2 (by decide) ?_
  obtain ⟨r1, S1, hv, h⟩ := b2_some h
  refine x_callSI C hw (mX8_within hv) lkX8_111 rfl (Nat.le_of_ble_eq_true rfl) hl.1 rfl (Nat.le_of_ble_eq_true rfl) dX8_person_3 (fun H locs hw => ?_)
  refine lv_if_eq (tgt := 26) hx hb dX8_person_6 (by decide) (fun c => ?_) (fun c => ?_)
  · have h := (it_d h).1 c
    exact B26 S1 _ _ ls h hw (lv_sub hl [0] rfl)
  · have h := (it_d h).2 c
    refine lv_iload_n hx hb dX8_person_9 rfl (lv_at hl 2 rfl) ?_
    obtain ⟨r2, S2, hv, h⟩ := b2_some h
    refine x_callSI C hw (mX8_isDay hv) lkX8_119 rfl (Nat.le_of_ble_eq_true rfl) hl.1 rfl (Nat.le_of_ble_eq_true rfl) dX8_person_10 (fun H locs hw => ?_)
    refine lv_if_eq (tgt := 26) hx hb dX8_person_13 (by decide) (fun c => ?_) (fun c => ?_)
    · have h := (it_d h).1 c
      exact B26 S2 _ _ ls h hw (lv_sub hl [0] rfl)
    · have h := (it_d h).2 c
      refine lv_iload_n hx hb dX8_person_16 rfl (lv_at hl 3 rfl) ?_
      refine lv_iconst (v := 0) hx hb dX8_person_17 (by decide) ?_
      refine lv_bipush (v := 7) hx hb dX8_person_18 (by decide) ?_
      obtain ⟨r3, S3, hv, h⟩ := b2_some h
      refine x_callSI C hw (mX8_within hv) lkX8_111 rfl (Nat.le_of_ble_eq_true rfl) hl.1 rfl (Nat.le_of_ble_eq_true rfl) dX8_person_20 (fun H locs hw => ?_)
      refine lv_if_ne (tgt := 33) hx hb dX8_person_23 (by decide) (fun c => ?_) (fun c => ?_)
      · have h := (it_d h).2 c
        refine lv_aload_n hx hb dX8_person_33 rfl (lv_at hl 0 rfl) ?_
        refine x_getI C hw gtX8_115 dX8_person_34 ?_
        refine lv_bipush (v := 20) hx hb dX8_person_37 (by decide) ?_
        refine lv_icmp_eq (tgt := 56) hx hb dX8_person_39 (by decide) (fun c => ?_) (fun c => ?_)
        · have h := (it_d h).1 c
          exact B56 S3 _ _ ls h hw (lv_sub hl [0] rfl)
        · have h := (it_d h).2 c
          refine lv_iload_n hx hb dX8_person_42 rfl (lv_at hl 1 rfl) ?_
          refine lv_iconst (v := 1) hx hb dX8_person_43 (by decide) ?_
          refine lv_icmp_ne (tgt := 63) hx hb dX8_person_44 (by decide) (fun c => ?_) (fun c => ?_)
          · have h := (it_d h).2 c
            exact B63 S3 x1 x2 x3 _ _ ls h hw (lv_sub hl [0, 1, 2, 3] rfl)
          · have h := (it_d h).1 c
            refine lv_aload_n hx hb dX8_person_47 rfl (lv_at hl 0 rfl) ?_
            refine x_getI C hw gtX8_128 dX8_person_48 ?_
            refine lv_bipush (v := 6) hx hb dX8_person_51 (by decide) ?_
            refine lv_icmp_ne (tgt := 63) hx hb dX8_person_53 (by decide) (fun c => ?_) (fun c => ?_)
            · have h := (it_d h).2 c
              exact B63 S3 x1 x2 x3 _ _ ls h hw (lv_sub hl [0, 1, 2, 3] rfl)
            · have h := (it_d h).1 c
              exact B56 S3 _ _ ls h hw (lv_sub hl [0] rfl)
      · have h := (it_d h).1 c
        exact B26 S3 _ _ ls h hw (lv_sub hl [0] rfl)
set_option maxHeartbeats 4000000 in
set_option maxRecDepth 100000 in
theorem mX8_rule {N : Nat} {l : Launch} {D : va_G} {ad : Nat → Nat} {cI cZ : ClassId} {S Sz : SS} {x1 x2 x3 x4 x5 : Int32} {rz : Int32} (h : fX8_rule N S x1 x2 x3 x4 x5 = some (rz, Sz)) : MI l D lyM ad cI cZ yX8_rule cX8_rule 7 (some .int) 2 [.ref (ad 0), .int x1, .int x2, .int x3, .int x4, .int x5] S rz Sz := by
  refine x_startI RX8 (by decide) rfl (Nat.le_of_ble_eq_true rfl) ?_
  intro p e s m args below meth c A C hw ls hl
  have hx := C.1
  have hb := C.2.1
  have hown := C.2.2.2.1
  have hts := C.2.2.2.2.1
  have hl : lv_has ls 7 [(0, .ref (ad 0)), (1, .int x1), (2, .int x2), (3, .int x3), (4, .int x4), (5, .int x5)] := hl
  have B100 : ∀ (S : SS) (H : Heap) (locs : List Loc) (ls : Array Slot), fX8_rule_b100 N S = some (rz, Sz) → WH D A s.heap lyM ad cI cZ S H locs → lv_has ls 7 [(0, .ref (ad 0))] → W p l e (rmK 2) s m args below meth c H locs 0 0 (MQ below (Qi D lyM ad cI cZ A rz Sz) args s 0 0 A) (F0 m 100 ls []) := by
    intro S  H locs ls h hw hl
    unfold fX8_rule_b100 at h
    refine lv_aload_n hx hb dX8_rule_100 rfl (lv_at hl 0 rfl) ?_
    refine lv_ldc (v := (-1000001)) hx hb hown (hts _ kwX8_123) dX8_rule_101 ?_
    obtain ⟨r1, S1, hv, h⟩ := b2_some h
    refine x_callVI C hw (mX8_finding hv) lkX8_124 rfl (Nat.le_of_ble_eq_true rfl) hl.1 rfl (Nat.le_of_ble_eq_true rfl) dX8_rule_103 (fun H locs hw => ?_)
    exact x_iret C hw h dX8_rule_106
  have B63 : ∀ (S : SS) (x1 x2 x3 x4 x5 t0 : Int32) (H : Heap) (locs : List Loc) (ls : Array Slot), fX8_rule_b63 N S x1 x2 x3 x4 x5 t0 = some (rz, Sz) → WH D A s.heap lyM ad cI cZ S H locs → lv_has ls 7 [(0, .ref (ad 0)), (1, .int x1), (2, .int x2), (3, .int x3), (4, .int x4), (5, .int x5)] → W p l e (rmK 2) s m args below meth c H locs 0 0 (MQ below (Qi D lyM ad cI cZ A rz Sz) args s 0 0 A) (F0 m 63 ls [.int t0]) := by
    intro S x1 x2 x3 x4 x5 t0 H locs ls h hw hl
    unfold fX8_rule_b63 at h
    refine lv_istore (lv' := [(6, .int t0), (0, .ref (ad 0)), (1, .int x1), (2, .int x2), (3, .int x3), (4, .int x4), (5, .int x5)]) hx hb dX8_rule_63 hl (by decide) rfl (fun ls hl => ?_)
    refine lv_iload hx hb dX8_rule_65 (lv_at hl 0 rfl) ?_
    refine lv_if_eq (tgt := 100) hx hb dX8_rule_67 (by decide) (fun c => ?_) (fun c => ?_)
    · have h := (it_d h).1 c
      exact B100 S _ _ ls h hw (lv_sub hl [1] rfl)
    · have h := (it_d h).2 c
      refine lv_iload_n hx hb dX8_rule_70 rfl (lv_at hl 3 rfl) ?_
      obtain ⟨r1, S1, hv, h⟩ := b2_some h
      refine x_callSI C hw (mX8_isDay hv) lkX8_119 rfl (Nat.le_of_ble_eq_true rfl) hl.1 rfl (Nat.le_of_ble_eq_true rfl) dX8_rule_71 (fun H locs hw => ?_)
      refine lv_if_eq (tgt := 100) hx hb dX8_rule_74 (by decide) (fun c => ?_) (fun c => ?_)
      · have h := (it_d h).1 c
        exact B100 S1 _ _ ls h hw (lv_sub hl [1] rfl)
      · have h := (it_d h).2 c
        refine lv_iload_n hx hb dX8_rule_77 rfl (lv_at hl 4 rfl) ?_
        refine lv_iconst (v := 0) hx hb dX8_rule_78 (by decide) ?_
        refine lv_sipush (v := 4000) hx hb dX8_rule_79 (by decide) ?_
        obtain ⟨r2, S2, hv, h⟩ := b2_some h
        refine x_callSI C hw (mX8_within hv) lkX8_111 rfl (Nat.le_of_ble_eq_true rfl) hl.1 rfl (Nat.le_of_ble_eq_true rfl) dX8_rule_82 (fun H locs hw => ?_)
        refine lv_if_eq (tgt := 100) hx hb dX8_rule_85 (by decide) (fun c => ?_) (fun c => ?_)
        · have h := (it_d h).1 c
          exact B100 S2 _ _ ls h hw (lv_sub hl [1] rfl)
        · have h := (it_d h).2 c
          refine lv_iload hx hb dX8_rule_88 (lv_at hl 5 rfl) ?_
          refine lv_iconst (v := 0) hx hb dX8_rule_90 (by decide) ?_
          refine lv_sipush (v := 20000) hx hb dX8_rule_91 (by decide) ?_
          obtain ⟨r3, S3, hv, h⟩ := b2_some h
          refine x_callSI C hw (mX8_within hv) lkX8_111 rfl (Nat.le_of_ble_eq_true rfl) hl.1 rfl (Nat.le_of_ble_eq_true rfl) dX8_rule_94 (fun H locs hw => ?_)
          refine lv_if_ne (tgt := 107) hx hb dX8_rule_97 (by decide) (fun c => ?_) (fun c => ?_)
          · have h := (it_d h).2 c
            refine lv_aload_n hx hb dX8_rule_107 rfl (lv_at hl 1 rfl) ?_
            refine x_getI C hw gtX8_146 dX8_rule_108 ?_
            refine lv_bipush (v := 40) hx hb dX8_rule_111 (by decide) ?_
            refine lv_icmp_ne (tgt := 123) hx hb dX8_rule_113 (by decide) (fun c => ?_) (fun c => ?_)
            · have h := (it_d h).2 c
              refine lv_aload_n hx hb dX8_rule_123 rfl (lv_at hl 1 rfl) ?_
              refine x_getR C hw gtX8_31 dX8_rule_124 ?_
              refine lv_aload_n hx hb dX8_rule_127 rfl (lv_at hl 1 rfl) ?_
              refine x_getI C hw gtX8_146 dX8_rule_128 ?_
              refine lv_iload_n hx hb dX8_rule_131 rfl (lv_at hl 2 rfl) ?_
              obtain ⟨S4, hv, h⟩ := bb_some h
              refine x_ast C hw alM_8 hv dX8_rule_132 (fun H locs hw => ?_)
              refine lv_aload_n hx hb dX8_rule_133 rfl (lv_at hl 1 rfl) ?_
              refine x_getR C hw gtX8_34 dX8_rule_134 ?_
              refine lv_aload_n hx hb dX8_rule_137 rfl (lv_at hl 1 rfl) ?_
              refine x_getI C hw gtX8_146 dX8_rule_138 ?_
              refine lv_iload_n hx hb dX8_rule_141 rfl (lv_at hl 3 rfl) ?_
              obtain ⟨S5, hv, h⟩ := bb_some h
              refine x_ast C hw alM_9 hv dX8_rule_142 (fun H locs hw => ?_)
              refine lv_aload_n hx hb dX8_rule_143 rfl (lv_at hl 1 rfl) ?_
              refine x_getR C hw gtX8_37 dX8_rule_144 ?_
              refine lv_aload_n hx hb dX8_rule_147 rfl (lv_at hl 1 rfl) ?_
              refine x_getI C hw gtX8_146 dX8_rule_148 ?_
              refine lv_iload_n hx hb dX8_rule_151 rfl (lv_at hl 4 rfl) ?_
              obtain ⟨S6, hv, h⟩ := bb_some h
              refine x_ast C hw alM_10 hv dX8_rule_152 (fun H locs hw => ?_)
              refine lv_aload_n hx hb dX8_rule_153 rfl (lv_at hl 1 rfl) ?_
              refine x_getR C hw gtX8_40 dX8_rule_154 ?_
              refine lv_aload_n hx hb dX8_rule_157 rfl (lv_at hl 1 rfl) ?_
              refine x_getI C hw gtX8_146 dX8_rule_158 ?_
              refine lv_iload hx hb dX8_rule_161 (lv_at hl 5 rfl) ?_
              obtain ⟨S7, hv, h⟩ := bb_some h
              refine x_ast C hw alM_11 hv dX8_rule_163 (fun H locs hw => ?_)
              refine lv_aload_n hx hb dX8_rule_164 rfl (lv_at hl 1 rfl) ?_
              refine x_getR C hw gtX8_43 dX8_rule_165 ?_
              refine lv_aload_n hx hb dX8_rule_168 rfl (lv_at hl 1 rfl) ?_
              refine x_getI C hw gtX8_146 dX8_rule_169 ?_
              refine lv_iload hx hb dX8_rule_172 (lv_at hl 6 rfl) ?_
              refine lv_bipush (v := 16) hx hb dX8_rule_174 (by decide) ?_
              refine lv_idiv hx hb dX8_rule_176 (by decide) ?_
              obtain ⟨S8, hv, h⟩ := bb_some h
              refine x_ast C hw alM_12 hv dX8_rule_177 (fun H locs hw => ?_)
              refine lv_aload_n hx hb dX8_rule_178 rfl (lv_at hl 1 rfl) ?_
              refine x_getR C hw gtX8_46 dX8_rule_179 ?_
              refine lv_aload_n hx hb dX8_rule_182 rfl (lv_at hl 1 rfl) ?_
              refine x_getI C hw gtX8_146 dX8_rule_183 ?_
              refine lv_iload hx hb dX8_rule_186 (lv_at hl 6 rfl) ?_
              refine lv_bipush (v := 16) hx hb dX8_rule_188 (by decide) ?_
              refine lv_irem hx hb dX8_rule_190 (by decide) ?_
              obtain ⟨S9, hv, h⟩ := bb_some h
              refine x_ast C hw alM_13 hv dX8_rule_191 (fun H locs hw => ?_)
              refine lv_aload_n hx hb dX8_rule_192 rfl (lv_at hl 1 rfl) ?_
              refine lv_dup hx hb dX8_rule_193 rfl ?_
              refine x_getI C hw gtX8_146 dX8_rule_194 ?_
              refine lv_iconst (v := 1) hx hb dX8_rule_197 (by decide) ?_
              refine lv_iadd hx hb dX8_rule_198 ?_
              obtain ⟨S10, hv, h⟩ := bb_some h
              refine x_putO C hw gpX8_146 hv rfl rfl dX8_rule_199 (fun H locs hw => ?_)
              refine lv_aload_n hx hb dX8_rule_202 rfl (lv_at hl 1 rfl) ?_
              refine x_getI C hw gtX8_146 dX8_rule_203 ?_
              exact x_iret C hw h dX8_rule_206
            · have h := (it_d h).1 c
              refine lv_aload_n hx hb dX8_rule_116 rfl (lv_at hl 1 rfl) ?_
              refine lv_ldc (v := (-1000004)) hx hb hown (hts _ kwX8_131) dX8_rule_117 ?_
              obtain ⟨r4, S11, hv, h⟩ := b2_some h
              refine x_callVI C hw (mX8_finding hv) lkX8_124 rfl (Nat.le_of_ble_eq_true rfl) hl.1 rfl (Nat.le_of_ble_eq_true rfl) dX8_rule_119 (fun H locs hw => ?_)
              exact x_iret C hw h dX8_rule_122
          · have h := (it_d h).1 c
            exact B100 S3 _ _ ls h hw (lv_sub hl [1] rfl)
  unfold fX8_rule at h
  refine lv_iload_n hx hb dX8_rule_0 rfl (lv_at hl 1 rfl) ?_
  refine lv_if_lt (tgt := 62) hx hb dX8_rule_1 (by decide) (fun c => ?_) (fun c => ?_)
  · have h := (it_d h).1 c
    refine lv_iconst (v := 0) hx hb dX8_rule_62 (by decide) ?_
    exact B63 S x1 x2 x3 x4 x5 0 _ _ ls h hw (lv_sub hl [0, 1, 2, 3, 4, 5] rfl)
  · have h := (it_d h).2 c
    refine lv_iload_n hx hb dX8_rule_4 rfl (lv_at hl 1 rfl) ?_
    refine lv_bipush (v := 100) hx hb dX8_rule_5 (by decide) ?_
    refine lv_idiv hx hb dX8_rule_7 (by decide) ?_
    obtain ⟨r1, S1, hv, h⟩ := b2_some h
    refine x_callSI C hw (mX8_isUnion hv) lkX8_136 rfl (Nat.le_of_ble_eq_true rfl) hl.1 rfl (Nat.le_of_ble_eq_true rfl) dX8_rule_8 (fun H locs hw => ?_)
    refine lv_if_eq (tgt := 62) hx hb dX8_rule_11 (by decide) (fun c => ?_) (fun c => ?_)
    · have h := (it_d h).1 c
      refine lv_iconst (v := 0) hx hb dX8_rule_62 (by decide) ?_
      exact B63 S1 x1 x2 x3 x4 x5 0 _ _ ls h hw (lv_sub hl [0, 1, 2, 3, 4, 5] rfl)
    · have h := (it_d h).2 c
      refine lv_iload_n hx hb dX8_rule_14 rfl (lv_at hl 1 rfl) ?_
      refine lv_bipush (v := 100) hx hb dX8_rule_15 (by decide) ?_
      refine lv_irem hx hb dX8_rule_17 (by decide) ?_
      obtain ⟨r2, S2, hv, h⟩ := b2_some h
      refine x_callSI C hw (mX8_isGrade hv) lkX8_139 rfl (Nat.le_of_ble_eq_true rfl) hl.1 rfl (Nat.le_of_ble_eq_true rfl) dX8_rule_18 (fun H locs hw => ?_)
      refine lv_if_eq (tgt := 62) hx hb dX8_rule_21 (by decide) (fun c => ?_) (fun c => ?_)
      · have h := (it_d h).1 c
        refine lv_iconst (v := 0) hx hb dX8_rule_62 (by decide) ?_
        exact B63 S2 x1 x2 x3 x4 x5 0 _ _ ls h hw (lv_sub hl [0, 1, 2, 3, 4, 5] rfl)
      · have h := (it_d h).2 c
        refine lv_iload hx hb dX8_rule_24 (lv_at hl 5 rfl) ?_
        refine lv_if_lt (tgt := 62) hx hb dX8_rule_26 (by decide) (fun c => ?_) (fun c => ?_)
        · have h := (it_d h).1 c
          refine lv_iconst (v := 0) hx hb dX8_rule_62 (by decide) ?_
          exact B63 S2 x1 x2 x3 x4 x5 0 _ _ ls h hw (lv_sub hl [0, 1, 2, 3, 4, 5] rfl)
        · have h := (it_d h).2 c
          refine lv_iload hx hb dX8_rule_29 (lv_at hl 5 rfl) ?_
          refine lv_bipush (v := 16) hx hb dX8_rule_31 (by decide) ?_
          refine lv_idiv hx hb dX8_rule_33 (by decide) ?_
          refine lv_iconst (v := 0) hx hb dX8_rule_34 (by decide) ?_
          refine lv_sipush (v := 255) hx hb dX8_rule_35 (by decide) ?_
          obtain ⟨r3, S3, hv, h⟩ := b2_some h
          refine x_callSI C hw (mX8_within hv) lkX8_111 rfl (Nat.le_of_ble_eq_true rfl) hl.1 rfl (Nat.le_of_ble_eq_true rfl) dX8_rule_38 (fun H locs hw => ?_)
          refine lv_if_eq (tgt := 62) hx hb dX8_rule_41 (by decide) (fun c => ?_) (fun c => ?_)
          · have h := (it_d h).1 c
            refine lv_iconst (v := 0) hx hb dX8_rule_62 (by decide) ?_
            exact B63 S3 x1 x2 x3 x4 x5 0 _ _ ls h hw (lv_sub hl [0, 1, 2, 3, 4, 5] rfl)
          · have h := (it_d h).2 c
            refine lv_iload hx hb dX8_rule_44 (lv_at hl 5 rfl) ?_
            refine lv_bipush (v := 16) hx hb dX8_rule_46 (by decide) ?_
            refine lv_irem hx hb dX8_rule_48 (by decide) ?_
            refine lv_iconst (v := 0) hx hb dX8_rule_49 (by decide) ?_
            refine lv_bipush (v := 10) hx hb dX8_rule_50 (by decide) ?_
            obtain ⟨r4, S4, hv, h⟩ := b2_some h
            refine x_callSI C hw (mX8_within hv) lkX8_111 rfl (Nat.le_of_ble_eq_true rfl) hl.1 rfl (Nat.le_of_ble_eq_true rfl) dX8_rule_52 (fun H locs hw => ?_)
            refine lv_if_eq (tgt := 62) hx hb dX8_rule_55 (by decide) (fun c => ?_) (fun c => ?_)
            · have h := (it_d h).1 c
              refine lv_iconst (v := 0) hx hb dX8_rule_62 (by decide) ?_
              exact B63 S4 x1 x2 x3 x4 x5 0 _ _ ls h hw (lv_sub hl [0, 1, 2, 3, 4, 5] rfl)
            · have h := (it_d h).2 c
              refine lv_iconst (v := 1) hx hb dX8_rule_58 (by decide) ?_
              refine lv_goto (tgt := 63) hx hb dX8_rule_59 (by decide) ?_
              exact B63 S4 x1 x2 x3 x4 x5 1 _ _ ls h hw (lv_sub hl [0, 1, 2, 3, 4, 5] rfl)
set_option maxHeartbeats 4000000 in
set_option maxRecDepth 100000 in
theorem mX8_standing {N : Nat} {l : Launch} {D : va_G} {ad : Nat → Nat} {cI cZ : ClassId} {S Sz : SS} {rz : Int32} (h : fX8_standing N S  = some (rz, Sz)) : MI l D lyM ad cI cZ yX8_standing cX8_standing 3 (some .int) 3 [.ref (ad 0)] S rz Sz := by
  refine x_startI RX8 (by decide) rfl (Nat.le_of_ble_eq_true rfl) ?_
  intro p e s m args below meth c A C hw ls hl
  have hx := C.1
  have hb := C.2.1
  have hown := C.2.2.2.1
  have hts := C.2.2.2.2.1
  have hl : lv_has ls 3 [(0, .ref (ad 0))] := hl
  have B11 : ∀ n : Nat, ∀ (S : SS) (x1 x2 : Int32) (H : Heap) (locs : List Loc) (ls : Array Slot), fX8_standing_b11 N n S x1 x2 = some (rz, Sz) → WH D A s.heap lyM ad cI cZ S H locs → lv_has ls 3 [(0, .ref (ad 0)), (1, .int x1), (2, .int x2)] → W p l e (rmK 3) s m args below meth c H locs 0 0 (MQ below (Qi D lyM ad cI cZ A rz Sz) args s 0 0 A) (F0 m 11 ls []) := by
    intro n
    induction n with
    | zero =>
      intro S x1 x2 H locs ls h hw hl
      rw [fX8_standing_b11] at h
      cases h
    | succ n ih11 =>
      intro S x1 x2 H locs ls h hw hl
      rw [fX8_standing_b11] at h
      refine lv_iload_n hx hb dX8_standing_11 rfl (lv_at hl 2 rfl) ?_
      refine lv_aload_n hx hb dX8_standing_12 rfl (lv_at hl 0 rfl) ?_
      refine x_getI C hw gtX8_159 dX8_standing_13 ?_
      refine lv_icmp_ge (tgt := 42) hx hb dX8_standing_16 (by decide) (fun c => ?_) (fun c => ?_)
      · have h := (it_d h).1 c
        refine lv_iload_n hx hb dX8_standing_42 rfl (lv_at hl 1 rfl) ?_
        exact x_iret C hw h dX8_standing_43
      · have h := (it_d h).2 c
        refine lv_iload_n hx hb dX8_standing_19 rfl (lv_at hl 1 rfl) ?_
        refine lv_aload_n hx hb dX8_standing_20 rfl (lv_at hl 0 rfl) ?_
        refine x_getR C hw gtX8_94 dX8_standing_21 ?_
        refine lv_iload_n hx hb dX8_standing_24 rfl (lv_at hl 2 rfl) ?_
        obtain ⟨v1, hv, h⟩ := bb_some h
        refine x_zald C hw alM_29 hv dX8_standing_25 ?_
        refine lv_if_eq (tgt := 33) hx hb dX8_standing_26 (by decide) (fun c => ?_) (fun c => ?_)
        · have h := (it_d h).1 c
          refine lv_iconst (v := 0) hx hb dX8_standing_33 (by decide) ?_
          refine lv_iadd hx hb dX8_standing_34 ?_
          refine lv_istore_n (lv' := [(1, .int (x1 + 0)), (0, .ref (ad 0)), (2, .int x2)]) hx hb dX8_standing_35 rfl hl (by decide) rfl (fun ls hl => ?_)
          refine lv_iinc (v := (x2 + 1)) (lv' := [(2, .int (x2 + 1)), (1, .int (x1 + 0)), (0, .ref (ad 0))]) hx hb dX8_standing_36 hl (k := 2) rfl rfl (by decide) rfl (fun ls hl => ?_)
          refine lv_goto (tgt := 11) hx hb dX8_standing_39 (by decide) ?_
          exact ih11 S (x1 + 0) (x2 + 1) _ _ ls h hw (lv_sub hl [2, 1, 0] rfl)
        · have h := (it_d h).2 c
          refine lv_iconst (v := 1) hx hb dX8_standing_29 (by decide) ?_
          refine lv_goto (tgt := 34) hx hb dX8_standing_30 (by decide) ?_
          refine lv_iadd hx hb dX8_standing_34 ?_
          refine lv_istore_n (lv' := [(1, .int (x1 + 1)), (0, .ref (ad 0)), (2, .int x2)]) hx hb dX8_standing_35 rfl hl (by decide) rfl (fun ls hl => ?_)
          refine lv_iinc (v := (x2 + 1)) (lv' := [(2, .int (x2 + 1)), (1, .int (x1 + 1)), (0, .ref (ad 0))]) hx hb dX8_standing_36 hl (k := 2) rfl rfl (by decide) rfl (fun ls hl => ?_)
          refine lv_goto (tgt := 11) hx hb dX8_standing_39 (by decide) ?_
          exact ih11 S (x1 + 1) (x2 + 1) _ _ ls h hw (lv_sub hl [2, 1, 0] rfl)
  unfold fX8_standing at h
  refine lv_aload_n hx hb dX8_standing_0 rfl (lv_at hl 0 rfl) ?_
  refine lv_sipush (v := 30000) hx hb dX8_standing_1 (by decide) ?_
  obtain ⟨S1, hv, h⟩ := bb_some h
  refine x_callVV C hw (mX8_findStanding hv) lkX8_175 rfl (Nat.le_of_ble_eq_true rfl) hl.1 rfl (Nat.le_of_ble_eq_true rfl) dX8_standing_4 (fun H locs hw => ?_)
  refine lv_iconst (v := 0) hx hb dX8_standing_7 (by decide) ?_
  refine lv_istore_n (lv' := [(1, .int 0), (0, .ref (ad 0))]) hx hb dX8_standing_8 rfl hl (by decide) rfl (fun ls hl => ?_)
  refine lv_iconst (v := 0) hx hb dX8_standing_9 (by decide) ?_
  refine lv_istore_n (lv' := [(2, .int 0), (1, .int 0), (0, .ref (ad 0))]) hx hb dX8_standing_10 rfl hl (by decide) rfl (fun ls hl => ?_)
  exact B11 N S1 0 0 _ _ ls h hw (lv_sub hl [2, 1, 0] rfl)
set_option maxHeartbeats 4000000 in
set_option maxRecDepth 100000 in
theorem mX8_stands {N : Nat} {l : Launch} {D : va_G} {ad : Nat → Nat} {cI cZ : ClassId} {S Sz : SS} {x1 x2 : Int32} {rz : Int32} (h : fX8_stands N S x1 x2 = some (rz, Sz)) : MI l D lyM ad cI cZ yX8_stands cX8_stands 3 (some .int) 3 [.ref (ad 0), .int x1, .int x2] S rz Sz := by
  refine x_startI RX8 (by decide) rfl (Nat.le_of_ble_eq_true rfl) ?_
  intro p e s m args below meth c A C hw ls hl
  have hx := C.1
  have hb := C.2.1
  have hown := C.2.2.2.1
  have hts := C.2.2.2.2.1
  have hl : lv_has ls 3 [(0, .ref (ad 0)), (1, .int x1), (2, .int x2)] := hl
  have B21 : ∀ (S : SS) (H : Heap) (locs : List Loc) (ls : Array Slot), fX8_stands_b21 N S = some (rz, Sz) → WH D A s.heap lyM ad cI cZ S H locs → lv_has ls 3 [(0, .ref (ad 0))] → W p l e (rmK 3) s m args below meth c H locs 0 0 (MQ below (Qi D lyM ad cI cZ A rz Sz) args s 0 0 A) (F0 m 21 ls []) := by
    intro S  H locs ls h hw hl
    unfold fX8_stands_b21 at h
    refine lv_aload_n hx hb dX8_stands_21 rfl (lv_at hl 0 rfl) ?_
    refine lv_ldc (v := (-1000001)) hx hb hown (hts _ kwX8_123) dX8_stands_22 ?_
    obtain ⟨r1, S1, hv, h⟩ := b2_some h
    refine x_callVI C hw (mX8_finding hv) lkX8_124 rfl (Nat.le_of_ble_eq_true rfl) hl.1 rfl (Nat.le_of_ble_eq_true rfl) dX8_stands_24 (fun H locs hw => ?_)
    exact x_iret C hw h dX8_stands_27
  unfold fX8_stands at h
  refine lv_iload_n hx hb dX8_stands_0 rfl (lv_at hl 1 rfl) ?_
  refine lv_iconst (v := 0) hx hb dX8_stands_1 (by decide) ?_
  refine lv_aload_n hx hb dX8_stands_2 rfl (lv_at hl 0 rfl) ?_
  refine x_getI C hw gtX8_159 dX8_stands_3 ?_
  refine lv_iconst (v := 1) hx hb dX8_stands_6 (by decide) ?_
  refine lv_isub hx hb dX8_stands_7 ?_
  obtain ⟨r1, S1, hv, h⟩ := b2_some h
  refine x_callSI C hw (mX8_within hv) lkX8_111 rfl (Nat.le_of_ble_eq_true rfl) hl.1 rfl (Nat.le_of_ble_eq_true rfl) dX8_stands_8 (fun H locs hw => ?_)
  refine lv_if_eq (tgt := 21) hx hb dX8_stands_11 (by decide) (fun c => ?_) (fun c => ?_)
  · have h := (it_d h).1 c
    exact B21 S1 _ _ ls h hw (lv_sub hl [0] rfl)
  · have h := (it_d h).2 c
    refine lv_iload_n hx hb dX8_stands_14 rfl (lv_at hl 2 rfl) ?_
    obtain ⟨r2, S2, hv, h⟩ := b2_some h
    refine x_callSI C hw (mX8_isDay hv) lkX8_119 rfl (Nat.le_of_ble_eq_true rfl) hl.1 rfl (Nat.le_of_ble_eq_true rfl) dX8_stands_15 (fun H locs hw => ?_)
    refine lv_if_ne (tgt := 28) hx hb dX8_stands_18 (by decide) (fun c => ?_) (fun c => ?_)
    · have h := (it_d h).2 c
      refine lv_aload_n hx hb dX8_stands_28 rfl (lv_at hl 0 rfl) ?_
      refine lv_iload_n hx hb dX8_stands_29 rfl (lv_at hl 2 rfl) ?_
      obtain ⟨S3, hv, h⟩ := bb_some h
      refine x_callVV C hw (mX8_findStanding hv) lkX8_175 rfl (Nat.le_of_ble_eq_true rfl) hl.1 rfl (Nat.le_of_ble_eq_true rfl) dX8_stands_30 (fun H locs hw => ?_)
      refine lv_aload_n hx hb dX8_stands_33 rfl (lv_at hl 0 rfl) ?_
      refine x_getR C hw gtX8_94 dX8_stands_34 ?_
      refine lv_iload_n hx hb dX8_stands_37 rfl (lv_at hl 1 rfl) ?_
      obtain ⟨v1, hv, h⟩ := bb_some h
      refine x_zald C hw alM_29 hv dX8_stands_38 ?_
      refine lv_if_eq (tgt := 46) hx hb dX8_stands_39 (by decide) (fun c => ?_) (fun c => ?_)
      · have h := (it_d h).1 c
        refine lv_iconst (v := 0) hx hb dX8_stands_46 (by decide) ?_
        exact x_iret C hw h dX8_stands_47
      · have h := (it_d h).2 c
        refine lv_iconst (v := 1) hx hb dX8_stands_42 (by decide) ?_
        refine lv_goto (tgt := 47) hx hb dX8_stands_43 (by decide) ?_
        exact x_iret C hw h dX8_stands_47
    · have h := (it_d h).1 c
      exact B21 S2 _ _ ls h hw (lv_sub hl [0] rfl)
set_option maxHeartbeats 4000000 in
set_option maxRecDepth 100000 in
theorem mX8_strike {N : Nat} {l : Launch} {D : va_G} {ad : Nat → Nat} {cI cZ : ClassId} {S Sz : SS} {x1 x2 x3 : Int32} {rz : Int32} (h : fX8_strike N S x1 x2 x3 = some (rz, Sz)) : MI l D lyM ad cI cZ yX8_strike cX8_strike 5 (some .int) 4 [.ref (ad 0), .int x1, .int x2, .int x3] S rz Sz := by
  refine x_startI RX8 (by decide) rfl (Nat.le_of_ble_eq_true rfl) ?_
  intro p e s m args below meth c A C hw ls hl
  have hx := C.1
  have hb := C.2.1
  have hown := C.2.2.2.1
  have hts := C.2.2.2.2.1
  have hl : lv_has ls 5 [(0, .ref (ad 0)), (1, .int x1), (2, .int x2), (3, .int x3)] := hl
  have B22 : ∀ (S : SS) (H : Heap) (locs : List Loc) (ls : Array Slot), fX8_strike_b22 N S = some (rz, Sz) → WH D A s.heap lyM ad cI cZ S H locs → lv_has ls 5 [(0, .ref (ad 0))] → W p l e (rmK 4) s m args below meth c H locs 0 0 (MQ below (Qi D lyM ad cI cZ A rz Sz) args s 0 0 A) (F0 m 22 ls []) := by
    intro S  H locs ls h hw hl
    unfold fX8_strike_b22 at h
    refine lv_aload_n hx hb dX8_strike_22 rfl (lv_at hl 0 rfl) ?_
    refine lv_ldc (v := (-1000001)) hx hb hown (hts _ kwX8_123) dX8_strike_23 ?_
    obtain ⟨r1, S1, hv, h⟩ := b2_some h
    refine x_callVI C hw (mX8_finding hv) lkX8_124 rfl (Nat.le_of_ble_eq_true rfl) hl.1 rfl (Nat.le_of_ble_eq_true rfl) dX8_strike_25 (fun H locs hw => ?_)
    exact x_iret C hw h dX8_strike_28
  unfold fX8_strike at h
  refine lv_aload_n hx hb dX8_strike_0 rfl (lv_at hl 0 rfl) ?_
  refine lv_iload_n hx hb dX8_strike_1 rfl (lv_at hl 1 rfl) ?_
  obtain ⟨r1, S1, hv, h⟩ := b2_some h
  refine x_callVI C hw (mX8_isPerson hv) lkX8_132 rfl (Nat.le_of_ble_eq_true rfl) hl.1 rfl (Nat.le_of_ble_eq_true rfl) dX8_strike_2 (fun H locs hw => ?_)
  refine lv_if_eq (tgt := 22) hx hb dX8_strike_5 (by decide) (fun c => ?_) (fun c => ?_)
  · have h := (it_d h).1 c
    exact B22 S1 _ _ ls h hw (lv_sub hl [0] rfl)
  · have h := (it_d h).2 c
    refine lv_iload_n hx hb dX8_strike_8 rfl (lv_at hl 2 rfl) ?_
    obtain ⟨r2, S2, hv, h⟩ := b2_some h
    refine x_callSI C hw (mX8_isDay hv) lkX8_119 rfl (Nat.le_of_ble_eq_true rfl) hl.1 rfl (Nat.le_of_ble_eq_true rfl) dX8_strike_9 (fun H locs hw => ?_)
    refine lv_if_eq (tgt := 22) hx hb dX8_strike_12 (by decide) (fun c => ?_) (fun c => ?_)
    · have h := (it_d h).1 c
      exact B22 S2 _ _ ls h hw (lv_sub hl [0] rfl)
    · have h := (it_d h).2 c
      refine lv_iload_n hx hb dX8_strike_15 rfl (lv_at hl 3 rfl) ?_
      obtain ⟨r3, S3, hv, h⟩ := b2_some h
      refine x_callSI C hw (mX8_isDay hv) lkX8_119 rfl (Nat.le_of_ble_eq_true rfl) hl.1 rfl (Nat.le_of_ble_eq_true rfl) dX8_strike_16 (fun H locs hw => ?_)
      refine lv_if_ne (tgt := 29) hx hb dX8_strike_19 (by decide) (fun c => ?_) (fun c => ?_)
      · have h := (it_d h).2 c
        refine lv_aload_n hx hb dX8_strike_29 rfl (lv_at hl 0 rfl) ?_
        refine x_getR C hw gtX8_9 dX8_strike_30 ?_
        refine lv_iload_n hx hb dX8_strike_33 rfl (lv_at hl 1 rfl) ?_
        obtain ⟨v1, hv, h⟩ := bb_some h
        refine x_ald C hw alM_1 hv dX8_strike_34 ?_
        refine lv_iconst (v := 1) hx hb dX8_strike_35 (by decide) ?_
        refine lv_icmp_eq (tgt := 46) hx hb dX8_strike_36 (by decide) (fun c => ?_) (fun c => ?_)
        · have h := (it_d h).1 c
          refine lv_aload_n hx hb dX8_strike_46 rfl (lv_at hl 0 rfl) ?_
          refine x_getI C hw gtX8_153 dX8_strike_47 ?_
          refine lv_bipush (v := 20) hx hb dX8_strike_50 (by decide) ?_
          refine lv_icmp_ne (tgt := 62) hx hb dX8_strike_52 (by decide) (fun c => ?_) (fun c => ?_)
          · have h := (it_d h).2 c
            refine lv_aload_n hx hb dX8_strike_62 rfl (lv_at hl 0 rfl) ?_
            obtain ⟨r4, S4, hv, h⟩ := b2_some h
            refine x_callVI C hw (mX8_standing hv) lkX8_204 rfl (Nat.le_of_ble_eq_true rfl) hl.1 rfl (Nat.le_of_ble_eq_true rfl) dX8_strike_63 (fun H locs hw => ?_)
            refine lv_istore (lv' := [(4, .int r4), (0, .ref (ad 0)), (1, .int x1), (2, .int x2), (3, .int x3)]) hx hb dX8_strike_66 hl (by decide) rfl (fun ls hl => ?_)
            refine lv_aload_n hx hb dX8_strike_68 rfl (lv_at hl 1 rfl) ?_
            refine x_getR C hw gtX8_64 dX8_strike_69 ?_
            refine lv_aload_n hx hb dX8_strike_72 rfl (lv_at hl 1 rfl) ?_
            refine x_getI C hw gtX8_153 dX8_strike_73 ?_
            refine lv_iload_n hx hb dX8_strike_76 rfl (lv_at hl 2 rfl) ?_
            obtain ⟨S5, hv, h⟩ := bb_some h
            refine x_ast C hw alM_19 hv dX8_strike_77 (fun H locs hw => ?_)
            refine lv_aload_n hx hb dX8_strike_78 rfl (lv_at hl 1 rfl) ?_
            refine x_getR C hw gtX8_67 dX8_strike_79 ?_
            refine lv_aload_n hx hb dX8_strike_82 rfl (lv_at hl 1 rfl) ?_
            refine x_getI C hw gtX8_153 dX8_strike_83 ?_
            refine lv_iload_n hx hb dX8_strike_86 rfl (lv_at hl 3 rfl) ?_
            obtain ⟨S6, hv, h⟩ := bb_some h
            refine x_ast C hw alM_20 hv dX8_strike_87 (fun H locs hw => ?_)
            refine lv_aload_n hx hb dX8_strike_88 rfl (lv_at hl 1 rfl) ?_
            refine x_getR C hw gtX8_70 dX8_strike_89 ?_
            refine lv_aload_n hx hb dX8_strike_92 rfl (lv_at hl 1 rfl) ?_
            refine x_getI C hw gtX8_153 dX8_strike_93 ?_
            refine lv_iload_n hx hb dX8_strike_96 rfl (lv_at hl 4 rfl) ?_
            obtain ⟨S7, hv, h⟩ := bb_some h
            refine x_ast C hw alM_21 hv dX8_strike_97 (fun H locs hw => ?_)
            refine lv_aload_n hx hb dX8_strike_98 rfl (lv_at hl 1 rfl) ?_
            refine lv_dup hx hb dX8_strike_99 rfl ?_
            refine x_getI C hw gtX8_153 dX8_strike_100 ?_
            refine lv_iconst (v := 1) hx hb dX8_strike_103 (by decide) ?_
            refine lv_iadd hx hb dX8_strike_104 ?_
            obtain ⟨S8, hv, h⟩ := bb_some h
            refine x_putO C hw gpX8_153 hv rfl rfl dX8_strike_105 (fun H locs hw => ?_)
            refine lv_iload hx hb dX8_strike_108 (lv_at hl 0 rfl) ?_
            refine lv_aload_n hx hb dX8_strike_110 rfl (lv_at hl 1 rfl) ?_
            obtain ⟨r5, S9, hv, h⟩ := b2_some h
            refine x_callVI C hw (mX8_standing hv) lkX8_204 rfl (Nat.le_of_ble_eq_true rfl) hl.1 rfl (Nat.le_of_ble_eq_true rfl) dX8_strike_111 (fun H locs hw => ?_)
            refine lv_isub hx hb dX8_strike_114 ?_
            exact x_iret C hw h dX8_strike_115
          · have h := (it_d h).1 c
            refine lv_aload_n hx hb dX8_strike_55 rfl (lv_at hl 0 rfl) ?_
            refine lv_ldc (v := (-1000004)) hx hb hown (hts _ kwX8_131) dX8_strike_56 ?_
            obtain ⟨r6, S10, hv, h⟩ := b2_some h
            refine x_callVI C hw (mX8_finding hv) lkX8_124 rfl (Nat.le_of_ble_eq_true rfl) hl.1 rfl (Nat.le_of_ble_eq_true rfl) dX8_strike_58 (fun H locs hw => ?_)
            exact x_iret C hw h dX8_strike_61
        · have h := (it_d h).2 c
          refine lv_aload_n hx hb dX8_strike_39 rfl (lv_at hl 0 rfl) ?_
          refine lv_ldc (v := (-1000005)) hx hb hown (hts _ kwX8_135) dX8_strike_40 ?_
          obtain ⟨r7, S11, hv, h⟩ := b2_some h
          refine x_callVI C hw (mX8_finding hv) lkX8_124 rfl (Nat.le_of_ble_eq_true rfl) hl.1 rfl (Nat.le_of_ble_eq_true rfl) dX8_strike_42 (fun H locs hw => ?_)
          exact x_iret C hw h dX8_strike_45
      · have h := (it_d h).1 c
        exact B22 S3 _ _ ls h hw (lv_sub hl [0] rfl)
set_option maxHeartbeats 4000000 in
set_option maxRecDepth 100000 in
theorem mX8_tell {N : Nat} {l : Launch} {D : va_G} {ad : Nat → Nat} {cI cZ : ClassId} {S Sz : SS} {x1 : Int32} {rz : Int32} (h : fX8_tell N S x1 = some (rz, Sz)) : MI l D lyM ad cI cZ yX8_tell cX8_tell 2 (some .int) 1 [.ref (ad 0), .int x1] S rz Sz := by
  refine x_startI RX8 (by decide) rfl (Nat.le_of_ble_eq_true rfl) ?_
  intro p e s m args below meth c A C hw ls hl
  have hx := C.1
  have hb := C.2.1
  have hown := C.2.2.2.1
  have hts := C.2.2.2.2.1
  have hl : lv_has ls 2 [(0, .ref (ad 0)), (1, .int x1)] := hl
  unfold fX8_tell at h
  refine lv_aload_n hx hb dX8_tell_0 rfl (lv_at hl 0 rfl) ?_
  refine x_getI C hw gtX8_246 dX8_tell_1 ?_
  refine lv_bipush (v := 20) hx hb dX8_tell_4 (by decide) ?_
  refine lv_icmp_ne (tgt := 16) hx hb dX8_tell_6 (by decide) (fun c => ?_) (fun c => ?_)
  · have h := (it_d h).2 c
    refine lv_aload_n hx hb dX8_tell_16 rfl (lv_at hl 0 rfl) ?_
    refine x_getR C hw gtX8_88 dX8_tell_17 ?_
    refine lv_aload_n hx hb dX8_tell_20 rfl (lv_at hl 0 rfl) ?_
    refine x_getI C hw gtX8_246 dX8_tell_21 ?_
    refine lv_iload_n hx hb dX8_tell_24 rfl (lv_at hl 1 rfl) ?_
    obtain ⟨S1, hv, h⟩ := bb_some h
    refine x_ast C hw alM_27 hv dX8_tell_25 (fun H locs hw => ?_)
    refine lv_aload_n hx hb dX8_tell_26 rfl (lv_at hl 0 rfl) ?_
    refine lv_dup hx hb dX8_tell_27 rfl ?_
    refine x_getI C hw gtX8_246 dX8_tell_28 ?_
    refine lv_iconst (v := 1) hx hb dX8_tell_31 (by decide) ?_
    refine lv_iadd hx hb dX8_tell_32 ?_
    obtain ⟨S2, hv, h⟩ := bb_some h
    refine x_putO C hw gpX8_246 hv rfl rfl dX8_tell_33 (fun H locs hw => ?_)
    refine lv_aload_n hx hb dX8_tell_36 rfl (lv_at hl 0 rfl) ?_
    refine x_getI C hw gtX8_246 dX8_tell_37 ?_
    exact x_iret C hw h dX8_tell_40
  · have h := (it_d h).1 c
    refine lv_aload_n hx hb dX8_tell_9 rfl (lv_at hl 0 rfl) ?_
    refine lv_ldc (v := (-1000004)) hx hb hown (hts _ kwX8_131) dX8_tell_10 ?_
    obtain ⟨r1, S3, hv, h⟩ := b2_some h
    refine x_callVI C hw (mX8_finding hv) lkX8_124 rfl (Nat.le_of_ble_eq_true rfl) hl.1 rfl (Nat.le_of_ble_eq_true rfl) dX8_tell_12 (fun H locs hw => ?_)
    exact x_iret C hw h dX8_tell_15
set_option maxHeartbeats 4000000 in
set_option maxRecDepth 100000 in
theorem mX8_unstrike {N : Nat} {l : Launch} {D : va_G} {ad : Nat → Nat} {cI cZ : ClassId} {S Sz : SS} {rz : Int32} (h : fX8_unstrike N S  = some (rz, Sz)) : MI l D lyM ad cI cZ yX8_unstrike cX8_unstrike 1 (some .int) 1 [.ref (ad 0)] S rz Sz := by
  refine x_startI RX8 (by decide) rfl (Nat.le_of_ble_eq_true rfl) ?_
  intro p e s m args below meth c A C hw ls hl
  have hx := C.1
  have hb := C.2.1
  have hown := C.2.2.2.1
  have hts := C.2.2.2.2.1
  have hl : lv_has ls 1 [(0, .ref (ad 0))] := hl
  unfold fX8_unstrike at h
  refine lv_aload_n hx hb dX8_unstrike_0 rfl (lv_at hl 0 rfl) ?_
  refine x_getI C hw gtX8_153 dX8_unstrike_1 ?_
  refine lv_if_ne (tgt := 14) hx hb dX8_unstrike_4 (by decide) (fun c => ?_) (fun c => ?_)
  · have h := (it_d h).2 c
    refine lv_aload_n hx hb dX8_unstrike_14 rfl (lv_at hl 0 rfl) ?_
    refine lv_dup hx hb dX8_unstrike_15 rfl ?_
    refine x_getI C hw gtX8_153 dX8_unstrike_16 ?_
    refine lv_iconst (v := 1) hx hb dX8_unstrike_19 (by decide) ?_
    refine lv_isub hx hb dX8_unstrike_20 ?_
    obtain ⟨S1, hv, h⟩ := bb_some h
    refine x_putO C hw gpX8_153 hv rfl rfl dX8_unstrike_21 (fun H locs hw => ?_)
    refine lv_aload_n hx hb dX8_unstrike_24 rfl (lv_at hl 0 rfl) ?_
    refine x_getI C hw gtX8_153 dX8_unstrike_25 ?_
    exact x_iret C hw h dX8_unstrike_28
  · have h := (it_d h).1 c
    refine lv_aload_n hx hb dX8_unstrike_7 rfl (lv_at hl 0 rfl) ?_
    refine lv_ldc (v := (-1000002)) hx hb hown (hts _ kwX8_152) dX8_unstrike_8 ?_
    obtain ⟨r1, S2, hv, h⟩ := b2_some h
    refine x_callVI C hw (mX8_finding hv) lkX8_124 rfl (Nat.le_of_ble_eq_true rfl) hl.1 rfl (Nat.le_of_ble_eq_true rfl) dX8_unstrike_10 (fun H locs hw => ?_)
    exact x_iret C hw h dX8_unstrike_13
set_option maxHeartbeats 4000000 in
set_option maxRecDepth 100000 in
theorem mX8_wait {N : Nat} {l : Launch} {D : va_G} {ad : Nat → Nat} {cI cZ : ClassId} {S Sz : SS} {x1 : Int32} {rz : Int32} (h : fX8_wait N S x1 = some (rz, Sz)) : MI l D lyM ad cI cZ yX8_wait cX8_wait 3 (some .int) 2 [.ref (ad 0), .int x1] S rz Sz := by
  refine x_startI RX8 (by decide) rfl (Nat.le_of_ble_eq_true rfl) ?_
  intro p e s m args below meth c A C hw ls hl
  have hx := C.1
  have hb := C.2.1
  have hown := C.2.2.2.1
  have hts := C.2.2.2.2.1
  have hl : lv_has ls 3 [(0, .ref (ad 0)), (1, .int x1)] := hl
  have B48 : ∀ (S : SS) (x1 : Int32) (H : Heap) (locs : List Loc) (ls : Array Slot), fX8_wait_b48 N S x1 = some (rz, Sz) → WH D A s.heap lyM ad cI cZ S H locs → lv_has ls 3 [(0, .ref (ad 0)), (1, .int x1)] → W p l e (rmK 2) s m args below meth c H locs 0 0 (MQ below (Qi D lyM ad cI cZ A rz Sz) args s 0 0 A) (F0 m 48 ls []) := by
    intro S x1 H locs ls h hw hl
    unfold fX8_wait_b48 at h
    refine lv_aload_n hx hb dX8_wait_48 rfl (lv_at hl 0 rfl) ?_
    refine x_getI C hw gtX8_208 dX8_wait_49 ?_
    refine lv_iconst (v := 4) hx hb dX8_wait_52 (by decide) ?_
    refine lv_icmp_ne (tgt := 63) hx hb dX8_wait_53 (by decide) (fun c => ?_) (fun c => ?_)
    · have h := (it_d h).2 c
      refine lv_aload_n hx hb dX8_wait_63 rfl (lv_at hl 0 rfl) ?_
      refine x_getR C hw gtX8_73 dX8_wait_64 ?_
      refine lv_aload_n hx hb dX8_wait_67 rfl (lv_at hl 0 rfl) ?_
      refine x_getI C hw gtX8_208 dX8_wait_68 ?_
      refine lv_iload_n hx hb dX8_wait_71 rfl (lv_at hl 1 rfl) ?_
      obtain ⟨S1, hv, h⟩ := bb_some h
      refine x_ast C hw alM_22 hv dX8_wait_72 (fun H locs hw => ?_)
      refine lv_aload_n hx hb dX8_wait_73 rfl (lv_at hl 0 rfl) ?_
      refine lv_dup hx hb dX8_wait_74 rfl ?_
      refine x_getI C hw gtX8_208 dX8_wait_75 ?_
      refine lv_iconst (v := 1) hx hb dX8_wait_78 (by decide) ?_
      refine lv_iadd hx hb dX8_wait_79 ?_
      obtain ⟨S2, hv, h⟩ := bb_some h
      refine x_putO C hw gpX8_208 hv rfl rfl dX8_wait_80 (fun H locs hw => ?_)
      refine lv_aload_n hx hb dX8_wait_83 rfl (lv_at hl 0 rfl) ?_
      refine lv_iconst (v := 0) hx hb dX8_wait_84 (by decide) ?_
      obtain ⟨S3, hv, h⟩ := bb_some h
      refine x_putO C hw gpX8_211 hv (by decide) (by decide) dX8_wait_85 (fun H locs hw => ?_)
      refine lv_aload_n hx hb dX8_wait_88 rfl (lv_at hl 0 rfl) ?_
      refine x_getI C hw gtX8_208 dX8_wait_89 ?_
      exact x_iret C hw h dX8_wait_92
    · have h := (it_d h).1 c
      refine lv_aload_n hx hb dX8_wait_56 rfl (lv_at hl 0 rfl) ?_
      refine lv_ldc (v := (-1000004)) hx hb hown (hts _ kwX8_131) dX8_wait_57 ?_
      obtain ⟨r1, S4, hv, h⟩ := b2_some h
      refine x_callVI C hw (mX8_finding hv) lkX8_124 rfl (Nat.le_of_ble_eq_true rfl) hl.1 rfl (Nat.le_of_ble_eq_true rfl) dX8_wait_59 (fun H locs hw => ?_)
      exact x_iret C hw h dX8_wait_62
  have B35 : ∀ (S : SS) (H : Heap) (locs : List Loc) (ls : Array Slot), fX8_wait_b35 N S = some (rz, Sz) → WH D A s.heap lyM ad cI cZ S H locs → lv_has ls 3 [(0, .ref (ad 0))] → W p l e (rmK 2) s m args below meth c H locs 0 0 (MQ below (Qi D lyM ad cI cZ A rz Sz) args s 0 0 A) (F0 m 35 ls []) := by
    intro S  H locs ls h hw hl
    unfold fX8_wait_b35 at h
    refine lv_aload_n hx hb dX8_wait_35 rfl (lv_at hl 0 rfl) ?_
    refine lv_ldc (v := (-1000003)) hx hb hown (hts _ kwX8_203) dX8_wait_36 ?_
    obtain ⟨r1, S1, hv, h⟩ := b2_some h
    refine x_callVI C hw (mX8_finding hv) lkX8_124 rfl (Nat.le_of_ble_eq_true rfl) hl.1 rfl (Nat.le_of_ble_eq_true rfl) dX8_wait_38 (fun H locs hw => ?_)
    exact x_iret C hw h dX8_wait_41
  have B17 : ∀ n : Nat, ∀ (S : SS) (x1 x2 : Int32) (H : Heap) (locs : List Loc) (ls : Array Slot), fX8_wait_b17 N n S x1 x2 = some (rz, Sz) → WH D A s.heap lyM ad cI cZ S H locs → lv_has ls 3 [(0, .ref (ad 0)), (1, .int x1), (2, .int x2)] → W p l e (rmK 2) s m args below meth c H locs 0 0 (MQ below (Qi D lyM ad cI cZ A rz Sz) args s 0 0 A) (F0 m 17 ls []) := by
    intro n
    induction n with
    | zero =>
      intro S x1 x2 H locs ls h hw hl
      rw [fX8_wait_b17] at h
      cases h
    | succ n ih17 =>
      intro S x1 x2 H locs ls h hw hl
      rw [fX8_wait_b17] at h
      refine lv_iload_n hx hb dX8_wait_17 rfl (lv_at hl 2 rfl) ?_
      refine lv_aload_n hx hb dX8_wait_18 rfl (lv_at hl 0 rfl) ?_
      refine x_getI C hw gtX8_208 dX8_wait_19 ?_
      refine lv_icmp_ge (tgt := 48) hx hb dX8_wait_22 (by decide) (fun c => ?_) (fun c => ?_)
      · have h := (it_d h).1 c
        exact B48 S x1 _ _ ls h hw (lv_sub hl [0, 1] rfl)
      · have h := (it_d h).2 c
        refine lv_aload_n hx hb dX8_wait_25 rfl (lv_at hl 0 rfl) ?_
        refine x_getR C hw gtX8_73 dX8_wait_26 ?_
        refine lv_iload_n hx hb dX8_wait_29 rfl (lv_at hl 2 rfl) ?_
        obtain ⟨v1, hv, h⟩ := bb_some h
        refine x_ald C hw alM_22 hv dX8_wait_30 ?_
        refine lv_iload_n hx hb dX8_wait_31 rfl (lv_at hl 1 rfl) ?_
        refine lv_icmp_ne (tgt := 42) hx hb dX8_wait_32 (by decide) (fun c => ?_) (fun c => ?_)
        · have h := (it_d h).2 c
          refine lv_iinc (v := (x2 + 1)) (lv' := [(2, .int (x2 + 1)), (0, .ref (ad 0)), (1, .int x1)]) hx hb dX8_wait_42 hl (k := 2) rfl rfl (by decide) rfl (fun ls hl => ?_)
          refine lv_goto (tgt := 17) hx hb dX8_wait_45 (by decide) ?_
          exact ih17 S x1 (x2 + 1) _ _ ls h hw (lv_sub hl [1, 2, 0] rfl)
        · have h := (it_d h).1 c
          exact B35 S _ _ ls h hw (lv_sub hl [0] rfl)
  unfold fX8_wait at h
  refine lv_aload_n hx hb dX8_wait_0 rfl (lv_at hl 0 rfl) ?_
  refine lv_iload_n hx hb dX8_wait_1 rfl (lv_at hl 1 rfl) ?_
  obtain ⟨r1, S1, hv, h⟩ := b2_some h
  refine x_callVI C hw (mX8_isPerson hv) lkX8_132 rfl (Nat.le_of_ble_eq_true rfl) hl.1 rfl (Nat.le_of_ble_eq_true rfl) dX8_wait_2 (fun H locs hw => ?_)
  refine lv_if_ne (tgt := 15) hx hb dX8_wait_5 (by decide) (fun c => ?_) (fun c => ?_)
  · have h := (it_d h).2 c
    refine lv_iconst (v := 0) hx hb dX8_wait_15 (by decide) ?_
    refine lv_istore_n (lv' := [(2, .int 0), (0, .ref (ad 0)), (1, .int x1)]) hx hb dX8_wait_16 rfl hl (by decide) rfl (fun ls hl => ?_)
    exact B17 N S1 x1 0 _ _ ls h hw (lv_sub hl [1, 2, 0] rfl)
  · have h := (it_d h).1 c
    refine lv_aload_n hx hb dX8_wait_8 rfl (lv_at hl 0 rfl) ?_
    refine lv_ldc (v := (-1000001)) hx hb hown (hts _ kwX8_123) dX8_wait_9 ?_
    obtain ⟨r2, S2, hv, h⟩ := b2_some h
    refine x_callVI C hw (mX8_finding hv) lkX8_124 rfl (Nat.le_of_ble_eq_true rfl) hl.1 rfl (Nat.le_of_ble_eq_true rfl) dX8_wait_11 (fun H locs hw => ?_)
    exact x_iret C hw h dX8_wait_14
