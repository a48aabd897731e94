def ptX1 (cI cZ : ClassId) (h : Nat) (u : va_W) : Prop := ∃ (q1 q2 q3 q4 q5 : Nat), u = [(h, .inr (1, [.ref q1, .ref q2, .ref q3, .ref q4, .ref q5, .int 0, .int 0])), (q1, .inl (cI, 4, .inl (fun _ => 0))), (q2, .inl (cI, 80, .inl (fun _ => 0))), (q3, .inl (cI, 4, .inl (fun _ => 0))), (q4, .inl (cI, 4, .inl (fun _ => 0))), (q5, .inl (cI, 6, .inl (fun _ => 0)))]
set_option maxHeartbeats 4000000 in
set_option maxRecDepth 100000 in
theorem mX1_init {l : Launch} {D : va_G} {cI cZ : ClassId} : MT l D cI cZ yX1_init cX1_init 1 1 5 98 1 [.null, .null, .null, .null, .null, .int 0, .int 0] (ptX1 cI cZ) := by
  refine z_start RX1 (by decide) rfl rfl (Nat.le_of_ble_eq_true rfl) ?_
  intro h p e s m args below meth c A C hN hin hw ls hl
  have hx := C.1
  have hb := C.2.1
  refine lv_aload_n hx hb dX1_init_0 rfl (lv_at hl 0 rfl) ?_
  refine z_obj C (tb1 193 rfl rfl) ob1 ob2 hl.1 (Nat.le_of_ble_eq_true rfl) (Nat.le_of_ble_eq_true rfl) dX1_init_1 ?_
  refine lv_aload_n hx hb dX1_init_4 rfl (lv_at hl 0 rfl) ?_
  refine lv_iconst (v := 4) hx hb dX1_init_5 (by decide) ?_
  refine z_arrI (N := 4) C hw arI (by decide) (by decide) (by decide) (Nat.le_of_ble_eq_true rfl) (Nat.le_of_ble_eq_true rfl) dX1_init_6 (fun q1 H hw => ?_)
  have hw : WL D A s.heap [(h, .inr (1, [.null, .null, .null, .null, .null, .int 0, .int 0])), (q1, .inl (cI, 4, .inl (fun _ => 0)))] H _ := hw
  refine W.widen (k := 1) (n := 4) (by decide) (by decide) ?_
  refine z_put (ty := .array .int) C hw hin rfl (k := 0) (by decide) tbX1 tyX1_ok nmX1 (tb1 194 rfl rfl) rfl rfl (by decide +kernel) rfl rfl (Nat.le_of_ble_eq_true rfl) dX1_init_8 (fun H locs hw => ?_)
  have hw : WL D A s.heap [(h, .inr (1, [.ref q1, .null, .null, .null, .null, .int 0, .int 0])), (q1, .inl (cI, 4, .inl (fun _ => 0)))] H locs := hw
  refine lv_aload_n hx hb dX1_init_11 rfl (lv_at hl 0 rfl) ?_
  refine lv_bipush (v := 80) hx hb dX1_init_12 (by decide) ?_
  refine z_arrI (N := 80) C hw arI (by decide) (by decide) (by decide) (Nat.le_of_ble_eq_true rfl) (Nat.le_of_ble_eq_true rfl) dX1_init_14 (fun q2 H hw => ?_)
  have hw : WL D A s.heap [(h, .inr (1, [.ref q1, .null, .null, .null, .null, .int 0, .int 0])), (q1, .inl (cI, 4, .inl (fun _ => 0))), (q2, .inl (cI, 80, .inl (fun _ => 0)))] H _ := hw
  refine W.widen (k := 2) (n := 84) (by decide) (by decide) ?_
  refine z_put (ty := .array .int) C hw hin rfl (k := 1) (by decide) tbX1 tyX1_ok nmX1 (tb1 195 rfl rfl) rfl rfl (by decide +kernel) rfl rfl (Nat.le_of_ble_eq_true rfl) dX1_init_16 (fun H locs hw => ?_)
  have hw : WL D A s.heap [(h, .inr (1, [.ref q1, .ref q2, .null, .null, .null, .int 0, .int 0])), (q1, .inl (cI, 4, .inl (fun _ => 0))), (q2, .inl (cI, 80, .inl (fun _ => 0)))] H locs := hw
  refine lv_aload_n hx hb dX1_init_19 rfl (lv_at hl 0 rfl) ?_
  refine lv_iconst (v := 4) hx hb dX1_init_20 (by decide) ?_
  refine z_arrI (N := 4) C hw arI (by decide) (by decide) (by decide) (Nat.le_of_ble_eq_true rfl) (Nat.le_of_ble_eq_true rfl) dX1_init_21 (fun q3 H hw => ?_)
  have hw : WL D A s.heap [(h, .inr (1, [.ref q1, .ref q2, .null, .null, .null, .int 0, .int 0])), (q1, .inl (cI, 4, .inl (fun _ => 0))), (q2, .inl (cI, 80, .inl (fun _ => 0))), (q3, .inl (cI, 4, .inl (fun _ => 0)))] H _ := hw
  refine W.widen (k := 3) (n := 88) (by decide) (by decide) ?_
  refine z_put (ty := .array .int) C hw hin rfl (k := 2) (by decide) tbX1 tyX1_ok nmX1 (tb1 196 rfl rfl) rfl rfl (by decide +kernel) rfl rfl (Nat.le_of_ble_eq_true rfl) dX1_init_23 (fun H locs hw => ?_)
  have hw : WL D A s.heap [(h, .inr (1, [.ref q1, .ref q2, .ref q3, .null, .null, .int 0, .int 0])), (q1, .inl (cI, 4, .inl (fun _ => 0))), (q2, .inl (cI, 80, .inl (fun _ => 0))), (q3, .inl (cI, 4, .inl (fun _ => 0)))] H locs := hw
  refine lv_aload_n hx hb dX1_init_26 rfl (lv_at hl 0 rfl) ?_
  refine lv_iconst (v := 4) hx hb dX1_init_27 (by decide) ?_
  refine z_arrI (N := 4) C hw arI (by decide) (by decide) (by decide) (Nat.le_of_ble_eq_true rfl) (Nat.le_of_ble_eq_true rfl) dX1_init_28 (fun q4 H hw => ?_)
  have hw : WL D A s.heap [(h, .inr (1, [.ref q1, .ref q2, .ref q3, .null, .null, .int 0, .int 0])), (q1, .inl (cI, 4, .inl (fun _ => 0))), (q2, .inl (cI, 80, .inl (fun _ => 0))), (q3, .inl (cI, 4, .inl (fun _ => 0))), (q4, .inl (cI, 4, .inl (fun _ => 0)))] H _ := hw
  refine W.widen (k := 4) (n := 92) (by decide) (by decide) ?_
  refine z_put (ty := .array .int) C hw hin rfl (k := 3) (by decide) tbX1 tyX1_ok nmX1 (tb1 197 rfl rfl) rfl rfl (by decide +kernel) rfl rfl (Nat.le_of_ble_eq_true rfl) dX1_init_30 (fun H locs hw => ?_)
  have hw : WL D A s.heap [(h, .inr (1, [.ref q1, .ref q2, .ref q3, .ref q4, .null, .int 0, .int 0])), (q1, .inl (cI, 4, .inl (fun _ => 0))), (q2, .inl (cI, 80, .inl (fun _ => 0))), (q3, .inl (cI, 4, .inl (fun _ => 0))), (q4, .inl (cI, 4, .inl (fun _ => 0)))] H locs := hw
  refine lv_aload_n hx hb dX1_init_33 rfl (lv_at hl 0 rfl) ?_
  refine lv_bipush (v := 6) hx hb dX1_init_34 (by decide) ?_
  refine z_arrI (N := 6) C hw arI (by decide) (by decide) (by decide) (Nat.le_of_ble_eq_true rfl) (Nat.le_of_ble_eq_true rfl) dX1_init_36 (fun q5 H hw => ?_)
  have hw : WL D A s.heap [(h, .inr (1, [.ref q1, .ref q2, .ref q3, .ref q4, .null, .int 0, .int 0])), (q1, .inl (cI, 4, .inl (fun _ => 0))), (q2, .inl (cI, 80, .inl (fun _ => 0))), (q3, .inl (cI, 4, .inl (fun _ => 0))), (q4, .inl (cI, 4, .inl (fun _ => 0))), (q5, .inl (cI, 6, .inl (fun _ => 0)))] H _ := hw
  refine W.widen (k := 5) (n := 98) (by decide) (by decide) ?_
  refine z_put (ty := .array .int) C hw hin rfl (k := 4) (by decide) tbX1 tyX1_ok nmX1 (tb1 199 rfl rfl) rfl rfl (by decide +kernel) rfl rfl (Nat.le_of_ble_eq_true rfl) dX1_init_38 (fun H locs hw => ?_)
  have hw : WL D A s.heap [(h, .inr (1, [.ref q1, .ref q2, .ref q3, .ref q4, .ref q5, .int 0, .int 0])), (q1, .inl (cI, 4, .inl (fun _ => 0))), (q2, .inl (cI, 80, .inl (fun _ => 0))), (q3, .inl (cI, 4, .inl (fun _ => 0))), (q4, .inl (cI, 4, .inl (fun _ => 0))), (q5, .inl (cI, 6, .inl (fun _ => 0)))] H locs := hw
  exact z_ret C hw ⟨q1, q2, q3, q4, q5, rfl⟩ dX1_init_41
def ptX3 (cI cZ : ClassId) (h : Nat) (u : va_W) : Prop := ∃ (q1 q2 q3 : Nat), u = [(h, .inr (3, [.ref q1, .ref q2, .ref q3, .int 0])), (q1, .inl (cI, 20, .inl (fun _ => 0))), (q2, .inl (cI, 100, .inl (fun _ => 0))), (q3, .inl (cI, 100, .inl (fun _ => 0)))]
set_option maxHeartbeats 4000000 in
set_option maxRecDepth 100000 in
theorem mX3_init {l : Launch} {D : va_G} {cI cZ : ClassId} : MT l D cI cZ yX3_init cX3_init 1 1 3 220 3 [.null, .null, .null, .int 0] (ptX3 cI cZ) := by
  refine z_start RX3 (by decide) rfl rfl (Nat.le_of_ble_eq_true rfl) ?_
  intro h p e s m args below meth c A C hN hin hw ls hl
  have hx := C.1
  have hb := C.2.1
  refine lv_aload_n hx hb dX3_init_0 rfl (lv_at hl 0 rfl) ?_
  refine z_obj C (tb1 224 rfl rfl) ob1 ob2 hl.1 (Nat.le_of_ble_eq_true rfl) (Nat.le_of_ble_eq_true rfl) dX3_init_1 ?_
  refine lv_aload_n hx hb dX3_init_4 rfl (lv_at hl 0 rfl) ?_
  refine lv_bipush (v := 20) hx hb dX3_init_5 (by decide) ?_
  refine z_arrI (N := 20) C hw arI (by decide) (by decide) (by decide) (Nat.le_of_ble_eq_true rfl) (Nat.le_of_ble_eq_true rfl) dX3_init_7 (fun q1 H hw => ?_)
  have hw : WL D A s.heap [(h, .inr (3, [.null, .null, .null, .int 0])), (q1, .inl (cI, 20, .inl (fun _ => 0)))] H _ := hw
  refine W.widen (k := 1) (n := 20) (by decide) (by decide) ?_
  refine z_put (ty := .array .int) C hw hin rfl (k := 0) (by decide) tbX3 tyX3_ok nmX3 (tb1 225 rfl rfl) rfl rfl (by decide +kernel) rfl rfl (Nat.le_of_ble_eq_true rfl) dX3_init_9 (fun H locs hw => ?_)
  have hw : WL D A s.heap [(h, .inr (3, [.ref q1, .null, .null, .int 0])), (q1, .inl (cI, 20, .inl (fun _ => 0)))] H locs := hw
  refine lv_aload_n hx hb dX3_init_12 rfl (lv_at hl 0 rfl) ?_
  refine lv_bipush (v := 100) hx hb dX3_init_13 (by decide) ?_
  refine z_arrI (N := 100) C hw arI (by decide) (by decide) (by decide) (Nat.le_of_ble_eq_true rfl) (Nat.le_of_ble_eq_true rfl) dX3_init_15 (fun q2 H hw => ?_)
  have hw : WL D A s.heap [(h, .inr (3, [.ref q1, .null, .null, .int 0])), (q1, .inl (cI, 20, .inl (fun _ => 0))), (q2, .inl (cI, 100, .inl (fun _ => 0)))] H _ := hw
  refine W.widen (k := 2) (n := 120) (by decide) (by decide) ?_
  refine z_put (ty := .array .int) C hw hin rfl (k := 1) (by decide) tbX3 tyX3_ok nmX3 (tb1 226 rfl rfl) rfl rfl (by decide +kernel) rfl rfl (Nat.le_of_ble_eq_true rfl) dX3_init_17 (fun H locs hw => ?_)
  have hw : WL D A s.heap [(h, .inr (3, [.ref q1, .ref q2, .null, .int 0])), (q1, .inl (cI, 20, .inl (fun _ => 0))), (q2, .inl (cI, 100, .inl (fun _ => 0)))] H locs := hw
  refine lv_aload_n hx hb dX3_init_20 rfl (lv_at hl 0 rfl) ?_
  refine lv_bipush (v := 100) hx hb dX3_init_21 (by decide) ?_
  refine z_arrI (N := 100) C hw arI (by decide) (by decide) (by decide) (Nat.le_of_ble_eq_true rfl) (Nat.le_of_ble_eq_true rfl) dX3_init_23 (fun q3 H hw => ?_)
  have hw : WL D A s.heap [(h, .inr (3, [.ref q1, .ref q2, .null, .int 0])), (q1, .inl (cI, 20, .inl (fun _ => 0))), (q2, .inl (cI, 100, .inl (fun _ => 0))), (q3, .inl (cI, 100, .inl (fun _ => 0)))] H _ := hw
  refine W.widen (k := 3) (n := 220) (by decide) (by decide) ?_
  refine z_put (ty := .array .int) C hw hin rfl (k := 2) (by decide) tbX3 tyX3_ok nmX3 (tb1 227 rfl rfl) rfl rfl (by decide +kernel) rfl rfl (Nat.le_of_ble_eq_true rfl) dX3_init_25 (fun H locs hw => ?_)
  have hw : WL D A s.heap [(h, .inr (3, [.ref q1, .ref q2, .ref q3, .int 0])), (q1, .inl (cI, 20, .inl (fun _ => 0))), (q2, .inl (cI, 100, .inl (fun _ => 0))), (q3, .inl (cI, 100, .inl (fun _ => 0)))] H locs := hw
  exact z_ret C hw ⟨q1, q2, q3, rfl⟩ dX3_init_28
def ptX7 (cI cZ : ClassId) (h : Nat) (u : va_W) : Prop := ∃ (q1 q2 q3 : Nat) (u_X0 u_X1 u_X3 : va_W) (q4 q5 : Nat), ptX0 cI cZ q1 u_X0 ∧ ptX1 cI cZ q2 u_X1 ∧ ptX3 cI cZ q3 u_X3 ∧ u = ((h, .inr (7, [.ref q1, .ref q2, .ref q3, .ref q4, .ref q5, .int 0])) :: (u_X0 ++ u_X1 ++ u_X3 ++ [(q4, .inl (cI, 20, .inl (fun _ => 0)))] ++ [(q5, .inl (cI, 6, .inl (fun _ => 0)))]))
set_option maxHeartbeats 4000000 in
set_option maxRecDepth 100000 in
theorem mX7_init {l : Launch} {D : va_G} {cI cZ : ClassId} : MT l D cI cZ yX7_init cX7_init 1 4 40 1449 7 [.null, .null, .null, .null, .null, .int 0] (ptX7 cI cZ) := by
  refine z_start RX7 (by decide) rfl rfl (Nat.le_of_ble_eq_true rfl) ?_
  intro h p e s m args below meth c A C hN hin hw ls hl
  have hx := C.1
  have hb := C.2.1
  refine lv_aload_n hx hb dX7_init_0 rfl (lv_at hl 0 rfl) ?_
  refine z_obj C (tb1 18 rfl rfl) ob1 ob2 hl.1 (Nat.le_of_ble_eq_true rfl) (Nat.le_of_ble_eq_true rfl) dX7_init_1 ?_
  refine lv_aload_n hx hb dX7_init_4 rfl (lv_at hl 0 rfl) ?_
  refine z_new (ci := 0) (fs := [.null, .null, .null]) (tyf := tyX0) C hw tbX0 tyX0_ok (tb1 21 rfl rfl) (tb1 22 rfl rfl) (tb1 2 rfl rfl) rfl (fun j hj => by revert j; decide +kernel) (Nat.le_of_ble_eq_true rfl) (Nat.le_of_ble_eq_true rfl) dX7_init_5 (fun q1 H hw => ?_)
  have hw : WL D A s.heap ([(h, .inr (7, [.null, .null, .null, .null, .null, .int 0]))] ++ [(q1, .inr (0, [.null, .null, .null]))]) H _ := hw
  refine W.widen (k := 1) (n := 3) (by decide) (by decide) ?_
  refine lv_dup hx hb dX7_init_8 rfl ?_
  refine z_ctorN C hN hw mX0_init (tb1 25 rfl rfl) (tb1 2 rfl rfl) hN.1 ⟨by decide +kernel, by decide +kernel, by decide +kernel⟩ rfl (tb1 24 rfl rfl) (by decide) (Nat.le_of_ble_eq_true rfl) hl.1 (Nat.le_of_ble_eq_true rfl) (Nat.le_of_ble_eq_true rfl) (Nat.le_of_ble_eq_true rfl) dX7_init_9 (fun u_X0 H locs hpX0 hw => ?_)
  have hw : WL D A s.heap ((h, .inr (7, [.null, .null, .null, .null, .null, .int 0])) :: (u_X0)) H locs := hw
  refine W.widen (k := 28) (n := 1094) (by decide) (by decide) ?_
  refine z_put (ty := .object "BeltHall$Books") C hw hin rfl (k := 0) (by decide) tbX7 tyX7_ok nmX7 (tb1 239 rfl rfl) rfl rfl (by decide +kernel) rfl rfl (Nat.le_of_ble_eq_true rfl) dX7_init_12 (fun H locs hw => ?_)
  have hw : WL D A s.heap ((h, .inr (7, [.ref q1, .null, .null, .null, .null, .int 0])) :: (u_X0)) H locs := hw
  refine lv_aload_n hx hb dX7_init_15 rfl (lv_at hl 0 rfl) ?_
  refine z_new (ci := 1) (fs := [.null, .null, .null, .null, .null, .int 0, .int 0]) (tyf := tyX1) C hw tbX1 tyX1_ok (tb1 188 rfl rfl) (tb1 189 rfl rfl) (tb1 7 rfl rfl) rfl (fun j hj => by revert j; decide +kernel) (Nat.le_of_ble_eq_true rfl) (Nat.le_of_ble_eq_true rfl) dX7_init_16 (fun q2 H hw => ?_)
  have hw : WL D A s.heap (((h, .inr (7, [.ref q1, .null, .null, .null, .null, .int 0])) :: (u_X0)) ++ [(q2, .inr (1, [.null, .null, .null, .null, .null, .int 0, .int 0]))]) H _ := hw
  refine W.widen (k := 29) (n := 1101) (by decide) (by decide) ?_
  refine lv_dup hx hb dX7_init_19 rfl ?_
  refine z_ctorN C hN hw mX1_init (tb1 192 rfl rfl) (tb1 7 rfl rfl) hN.2.2.2.2.1 ⟨by decide +kernel, by decide +kernel, by decide +kernel⟩ rfl (tb1 191 rfl rfl) (by decide) (Nat.le_of_ble_eq_true rfl) hl.1 (Nat.le_of_ble_eq_true rfl) (Nat.le_of_ble_eq_true rfl) (Nat.le_of_ble_eq_true rfl) dX7_init_20 (fun u_X1 H locs hpX1 hw => ?_)
  have hw : WL D A s.heap ((h, .inr (7, [.ref q1, .null, .null, .null, .null, .int 0])) :: (u_X0 ++ u_X1)) H locs := by simpa only [List.cons_append, List.nil_append, List.append_assoc] using hw
  refine W.widen (k := 34) (n := 1199) (by decide) (by decide) ?_
  refine z_put (ty := .object "BeltHall$Candidates") C hw hin rfl (k := 1) (by decide) tbX7 tyX7_ok nmX7 (tb2 0 rfl rfl) rfl rfl (by decide +kernel) rfl rfl (Nat.le_of_ble_eq_true rfl) dX7_init_23 (fun H locs hw => ?_)
  have hw : WL D A s.heap ((h, .inr (7, [.ref q1, .ref q2, .null, .null, .null, .int 0])) :: (u_X0 ++ u_X1)) H locs := hw
  refine lv_aload_n hx hb dX7_init_26 rfl (lv_at hl 0 rfl) ?_
  refine z_new (ci := 3) (fs := [.null, .null, .null, .int 0]) (tyf := tyX3) C hw tbX3 tyX3_ok (tb1 219 rfl rfl) (tb1 220 rfl rfl) (tb1 8 rfl rfl) rfl (fun j hj => by revert j; decide +kernel) (Nat.le_of_ble_eq_true rfl) (Nat.le_of_ble_eq_true rfl) dX7_init_27 (fun q3 H hw => ?_)
  have hw : WL D A s.heap (((h, .inr (7, [.ref q1, .ref q2, .null, .null, .null, .int 0])) :: (u_X0 ++ u_X1)) ++ [(q3, .inr (3, [.null, .null, .null, .int 0]))]) H _ := hw
  refine W.widen (k := 35) (n := 1203) (by decide) (by decide) ?_
  refine lv_dup hx hb dX7_init_30 rfl ?_
  refine z_ctorN C hN hw mX3_init (tb1 223 rfl rfl) (tb1 8 rfl rfl) hN.2.2.2.2.2 ⟨by decide +kernel, by decide +kernel, by decide +kernel⟩ rfl (tb1 222 rfl rfl) (by decide) (Nat.le_of_ble_eq_true rfl) hl.1 (Nat.le_of_ble_eq_true rfl) (Nat.le_of_ble_eq_true rfl) (Nat.le_of_ble_eq_true rfl) dX7_init_31 (fun u_X3 H locs hpX3 hw => ?_)
  have hw : WL D A s.heap ((h, .inr (7, [.ref q1, .ref q2, .null, .null, .null, .int 0])) :: (u_X0 ++ u_X1 ++ u_X3)) H locs := by simpa only [List.cons_append, List.nil_append, List.append_assoc] using hw
  refine W.widen (k := 38) (n := 1423) (by decide) (by decide) ?_
  refine z_put (ty := .object "BeltHall$Exams") C hw hin rfl (k := 2) (by decide) tbX7 tyX7_ok nmX7 (tb2 1 rfl rfl) rfl rfl (by decide +kernel) rfl rfl (Nat.le_of_ble_eq_true rfl) dX7_init_34 (fun H locs hw => ?_)
  have hw : WL D A s.heap ((h, .inr (7, [.ref q1, .ref q2, .ref q3, .null, .null, .int 0])) :: (u_X0 ++ u_X1 ++ u_X3)) H locs := hw
  refine lv_aload_n hx hb dX7_init_37 rfl (lv_at hl 0 rfl) ?_
  refine lv_bipush (v := 20) hx hb dX7_init_38 (by decide) ?_
  refine z_arrI (N := 20) C hw arI (by decide) (by decide) (by decide) (Nat.le_of_ble_eq_true rfl) (Nat.le_of_ble_eq_true rfl) dX7_init_40 (fun q4 H hw => ?_)
  have hw : WL D A s.heap ((h, .inr (7, [.ref q1, .ref q2, .ref q3, .null, .null, .int 0])) :: (u_X0 ++ u_X1 ++ u_X3 ++ [(q4, .inl (cI, 20, .inl (fun _ => 0)))])) H _ := hw
  refine W.widen (k := 39) (n := 1443) (by decide) (by decide) ?_
  refine z_put (ty := .array .int) C hw hin rfl (k := 3) (by decide) tbX7 tyX7_ok nmX7 (tb2 2 rfl rfl) rfl rfl (by decide +kernel) rfl rfl (Nat.le_of_ble_eq_true rfl) dX7_init_42 (fun H locs hw => ?_)
  have hw : WL D A s.heap ((h, .inr (7, [.ref q1, .ref q2, .ref q3, .ref q4, .null, .int 0])) :: (u_X0 ++ u_X1 ++ u_X3 ++ [(q4, .inl (cI, 20, .inl (fun _ => 0)))])) H locs := hw
  refine lv_aload_n hx hb dX7_init_45 rfl (lv_at hl 0 rfl) ?_
  refine lv_bipush (v := 6) hx hb dX7_init_46 (by decide) ?_
  refine z_arrI (N := 6) C hw arI (by decide) (by decide) (by decide) (Nat.le_of_ble_eq_true rfl) (Nat.le_of_ble_eq_true rfl) dX7_init_48 (fun q5 H hw => ?_)
  have hw : WL D A s.heap ((h, .inr (7, [.ref q1, .ref q2, .ref q3, .ref q4, .null, .int 0])) :: (u_X0 ++ u_X1 ++ u_X3 ++ [(q4, .inl (cI, 20, .inl (fun _ => 0)))] ++ [(q5, .inl (cI, 6, .inl (fun _ => 0)))])) H _ := hw
  refine W.widen (k := 40) (n := 1449) (by decide) (by decide) ?_
  refine z_put (ty := .array .int) C hw hin rfl (k := 4) (by decide) tbX7 tyX7_ok nmX7 (tb2 3 rfl rfl) rfl rfl (by decide +kernel) rfl rfl (Nat.le_of_ble_eq_true rfl) dX7_init_50 (fun H locs hw => ?_)
  have hw : WL D A s.heap ((h, .inr (7, [.ref q1, .ref q2, .ref q3, .ref q4, .ref q5, .int 0])) :: (u_X0 ++ u_X1 ++ u_X3 ++ [(q4, .inl (cI, 20, .inl (fun _ => 0)))] ++ [(q5, .inl (cI, 6, .inl (fun _ => 0)))])) H locs := hw
  exact z_ret C hw ⟨q1, q2, q3, u_X0, u_X1, u_X3, q4, q5, hpX0, hpX1, hpX3, rfl⟩ dX7_init_53
