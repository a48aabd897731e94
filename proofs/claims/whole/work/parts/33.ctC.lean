def ptX0 (cI cZ : ClassId) (h : Nat) (u : va_W) : Prop := ∃ (q1 q2 q3 : Nat) (u_X4 u_X5 u_X2 : va_W), ptX4 cI cZ q1 u_X4 ∧ ptX5 cI cZ q2 u_X5 ∧ ptX2 cI cZ q3 u_X2 ∧ u = ((h, .inr (0, [.ref q1, .ref q2, .ref q3])) :: (u_X4 ++ u_X5 ++ u_X2))
set_option maxHeartbeats 4000000 in
set_option maxRecDepth 100000 in
theorem mX0_init {l : Launch} {D : va_G} {cI cZ : ClassId} : MT l D cI cZ yX0_init cX0_init 1 3 27 1091 0 [.null, .null, .null] (ptX0 cI cZ) := by
  refine z_start RX0 (by decide) rfl rfl (Nat.le_of_ble_eq_true rfl) ?_
  intro h p e s m args below meth c A C hN hin hw ls hl
  have hx := C.1
  have hb := C.2.1
  refine lv_aload_n hx hb dX0_init_0 rfl (lv_at hl 0 rfl) ?_
  refine z_obj C (tb1 26 rfl rfl) ob1 ob2 hl.1 (Nat.le_of_ble_eq_true rfl) (Nat.le_of_ble_eq_true rfl) dX0_init_1 ?_
  refine lv_aload_n hx hb dX0_init_4 rfl (lv_at hl 0 rfl) ?_
  refine z_new (ci := 4) (fs := [.null, .null, .null, .null, .null, .int 0, .int 0]) (tyf := tyX4) C hw tbX4 tyX4_ok (tb1 27 rfl rfl) (tb1 28 rfl rfl) (tb1 3 rfl rfl) rfl (fun j hj => by revert j; decide +kernel) (Nat.le_of_ble_eq_true rfl) (Nat.le_of_ble_eq_true rfl) dX0_init_5 (fun q1 H hw => ?_)
  have hw : WL D A s.heap ([(h, .inr (0, [.null, .null, .null]))] ++ [(q1, .inr (4, [.null, .null, .null, .null, .null, .int 0, .int 0]))]) H _ := hw
  refine W.widen (k := 1) (n := 7) (by decide) (by decide) ?_
  refine lv_dup hx hb dX0_init_8 rfl ?_
  refine z_ctorN C hN hw mX4_init (tb1 31 rfl rfl) (tb1 3 rfl rfl) hN.2.1 ⟨by decide +kernel, by decide +kernel, by decide +kernel⟩ rfl (tb1 30 rfl rfl) (by decide) (Nat.le_of_ble_eq_true rfl) hl.1 (Nat.le_of_ble_eq_true rfl) (Nat.le_of_ble_eq_true rfl) (Nat.le_of_ble_eq_true rfl) dX0_init_9 (fun u_X4 H locs hpX4 hw => ?_)
  have hw : WL D A s.heap ((h, .inr (0, [.null, .null, .null])) :: (u_X4)) H locs := hw
  refine W.widen (k := 6) (n := 247) (by decide) (by decide) ?_
  refine z_put (ty := .object "BeltHall$Persons") C hw hin rfl (k := 0) (by decide) tbX0 tyX0_ok nmX0 (tb1 172 rfl rfl) rfl rfl (by decide +kernel) rfl rfl (Nat.le_of_ble_eq_true rfl) dX0_init_12 (fun H locs hw => ?_)
  have hw : WL D A s.heap ((h, .inr (0, [.ref q1, .null, .null])) :: (u_X4)) H locs := hw
  refine lv_aload_n hx hb dX0_init_15 rfl (lv_at hl 0 rfl) ?_
  refine z_new (ci := 5) (fs := [.null, .null, .null, .null, .null, .null, .int 0]) (tyf := tyX5) C hw tbX5 tyX5_ok (tb1 67 rfl rfl) (tb1 68 rfl rfl) (tb1 4 rfl rfl) rfl (fun j hj => by revert j; decide +kernel) (Nat.le_of_ble_eq_true rfl) (Nat.le_of_ble_eq_true rfl) dX0_init_16 (fun q2 H hw => ?_)
  have hw : WL D A s.heap (((h, .inr (0, [.ref q1, .null, .null])) :: (u_X4)) ++ [(q2, .inr (5, [.null, .null, .null, .null, .null, .null, .int 0]))]) H _ := hw
  refine W.widen (k := 7) (n := 254) (by decide) (by decide) ?_
  refine lv_dup hx hb dX0_init_19 rfl ?_
  refine z_ctorN C hN hw mX5_init (tb1 71 rfl rfl) (tb1 4 rfl rfl) hN.2.2.1 ⟨by decide +kernel, by decide +kernel, by decide +kernel⟩ rfl (tb1 70 rfl rfl) (by decide) (Nat.le_of_ble_eq_true rfl) hl.1 (Nat.le_of_ble_eq_true rfl) (Nat.le_of_ble_eq_true rfl) (Nat.le_of_ble_eq_true rfl) dX0_init_20 (fun u_X5 H locs hpX5 hw => ?_)
  have hw : WL D A s.heap ((h, .inr (0, [.ref q1, .null, .null])) :: (u_X4 ++ u_X5)) H locs := by simpa only [List.cons_append, List.nil_append, List.append_assoc] using hw
  refine W.widen (k := 13) (n := 494) (by decide) (by decide) ?_
  refine z_put (ty := .object "BeltHall$Rules") C hw hin rfl (k := 1) (by decide) tbX0 tyX0_ok nmX0 (tb1 175 rfl rfl) rfl rfl (by decide +kernel) rfl rfl (Nat.le_of_ble_eq_true rfl) dX0_init_23 (fun H locs hw => ?_)
  have hw : WL D A s.heap ((h, .inr (0, [.ref q1, .ref q2, .null])) :: (u_X4 ++ u_X5)) H locs := hw
  refine lv_aload_n hx hb dX0_init_26 rfl (lv_at hl 0 rfl) ?_
  refine z_new (ci := 2) (fs := [.null, .null, .null, .null, .null, .null, .null, .null, .null, .null, .int 0]) (tyf := tyX2) C hw tbX2 tyX2_ok (tb1 101 rfl rfl) (tb1 102 rfl rfl) (tb1 5 rfl rfl) rfl (fun j hj => by revert j; decide +kernel) (Nat.le_of_ble_eq_true rfl) (Nat.le_of_ble_eq_true rfl) dX0_init_27 (fun q3 H hw => ?_)
  have hw : WL D A s.heap (((h, .inr (0, [.ref q1, .ref q2, .null])) :: (u_X4 ++ u_X5)) ++ [(q3, .inr (2, [.null, .null, .null, .null, .null, .null, .null, .null, .null, .null, .int 0]))]) H _ := hw
  refine W.widen (k := 14) (n := 505) (by decide) (by decide) ?_
  refine lv_dup hx hb dX0_init_30 rfl ?_
  refine z_ctor C hN hw mX2_init (tb1 105 rfl rfl) (tb1 5 rfl rfl) (tb1 103 rfl rfl) ⟨by decide +kernel, by decide +kernel, by decide +kernel⟩ rfl (tb1 104 rfl rfl) (by decide) (Nat.le_of_ble_eq_true rfl) (Nat.le_of_ble_eq_true rfl) hl.1 (Nat.le_of_ble_eq_true rfl) (Nat.le_of_ble_eq_true rfl) (Nat.le_of_ble_eq_true rfl) dX0_init_31 (fun u_X2 H locs hpX2 hw => ?_)
  have hw : WL D A s.heap ((h, .inr (0, [.ref q1, .ref q2, .null])) :: (u_X4 ++ u_X5 ++ u_X2)) H locs := by simpa only [List.cons_append, List.nil_append, List.append_assoc] using hw
  refine W.widen (k := 27) (n := 1091) (by decide) (by decide) ?_
  refine z_put (ty := .object "BeltHall$Cards") C hw hin rfl (k := 2) (by decide) tbX0 tyX0_ok nmX0 (tb1 178 rfl rfl) rfl rfl (by decide +kernel) rfl rfl (Nat.le_of_ble_eq_true rfl) dX0_init_34 (fun H locs hw => ?_)
  have hw : WL D A s.heap ((h, .inr (0, [.ref q1, .ref q2, .ref q3])) :: (u_X4 ++ u_X5 ++ u_X2)) H locs := hw
  exact z_ret C hw ⟨q1, q2, q3, u_X4, u_X5, u_X2, hpX4, hpX5, hpX2, rfl⟩ dX0_init_37
