def ptX2 (cI cZ : ClassId) (h : Nat) (u : va_W) : Prop := ∃ (ad : Nat → Nat) (S1 : SS), ad 0 = h ∧ fC_b88 100 100 S00 0 = some S1 ∧ u = wW lyC ad cI cZ S1
theorem fC_some : (fC_b88 100 100 S00 0).isSome = true := by decide +kernel
set_option maxHeartbeats 4000000 in
set_option maxRecDepth 100000 in
theorem mX2_init {l : Launch} {D : va_G} {cI cZ : ClassId} : MT l D cI cZ yX2_init cX2_init 3 2 13 586 2 [.null, .null, .null, .null, .null, .null, .null, .null, .null, .null, .int 0] (ptX2 cI cZ) := by
  obtain ⟨Sz, hS⟩ := Option.isSome_iff_exists.mp fC_some
  refine z_start RX2 (by decide) rfl rfl (Nat.le_of_ble_eq_true rfl) ?_
  intro h p e s m args below meth c A C hN hin hw ls hl
  have hx := C.1
  have hb := C.2.1
  refine lv_aload_n hx hb dX2_init_0 rfl (lv_at hl 0 rfl) ?_
  refine z_obj C (tb1 106 rfl rfl) ob1 ob2 hl.1 (Nat.le_of_ble_eq_true rfl) (Nat.le_of_ble_eq_true rfl) dX2_init_1 ?_
  refine lv_aload_n hx hb dX2_init_4 rfl (lv_at hl 0 rfl) ?_
  refine z_new (ci := 6) (fs := [.null, .null, .null, .int 0]) (tyf := tyX6) C hw tbX6 tyX6_ok (tb1 107 rfl rfl) (tb1 108 rfl rfl) (tb1 6 rfl rfl) rfl (fun j hj => by revert j; decide +kernel) (Nat.le_of_ble_eq_true rfl) (Nat.le_of_ble_eq_true rfl) dX2_init_5 (fun q1 H hw => ?_)
  have hw : WL D A s.heap ([(h, .inr (2, [.null, .null, .null, .null, .null, .null, .null, .null, .null, .null, .int 0]))] ++ [(q1, .inr (6, [.null, .null, .null, .int 0]))]) H _ := hw
  refine W.widen (k := 1) (n := 4) (by decide) (by decide) ?_
  refine lv_dup hx hb dX2_init_8 rfl ?_
  refine z_ctorN C hN hw mX6_init (tb1 111 rfl rfl) (tb1 6 rfl rfl) hN.2.2.2.1 ⟨by decide +kernel, by decide +kernel, by decide +kernel⟩ rfl (tb1 110 rfl rfl) (by decide) (Nat.le_of_ble_eq_true rfl) hl.1 (Nat.le_of_ble_eq_true rfl) (Nat.le_of_ble_eq_true rfl) (Nat.le_of_ble_eq_true rfl) dX2_init_9 (fun u_X6 H locs hpX6 hw => ?_)
  obtain ⟨qs1, qs2, qs3, rfl⟩ := hpX6
  have hw : WL D A s.heap [(h, .inr (2, [.null, .null, .null, .null, .null, .null, .null, .null, .null, .null, .int 0])), (q1, .inr (6, [.ref qs1, .ref qs2, .ref qs3, .int 0])), (qs1, .inl (cI, 20, .inl (fun _ => 0))), (qs2, .inl (cI, 20, .inl (fun _ => 0))), (qs3, .inl (cI, 20, .inl (fun _ => 0)))] H locs := hw
  refine W.widen (k := 4) (n := 64) (by decide) (by decide) ?_
  refine z_put (ty := .object "BeltHall$Strikes") C hw hin rfl (k := 0) (by decide) tbX2 tyX2_ok nmX2 (tb1 127 rfl rfl) rfl rfl (by decide +kernel) rfl rfl (Nat.le_of_ble_eq_true rfl) dX2_init_12 (fun H locs hw => ?_)
  have hw : WL D A s.heap [(h, .inr (2, [.ref q1, .null, .null, .null, .null, .null, .null, .null, .null, .null, .int 0])), (q1, .inr (6, [.ref qs1, .ref qs2, .ref qs3, .int 0])), (qs1, .inl (cI, 20, .inl (fun _ => 0))), (qs2, .inl (cI, 20, .inl (fun _ => 0))), (qs3, .inl (cI, 20, .inl (fun _ => 0)))] H locs := hw
  refine lv_aload_n hx hb dX2_init_15 rfl (lv_at hl 0 rfl) ?_
  refine lv_iconst (v := 3) hx hb dX2_init_16 (by decide) ?_
  refine z_arrI (N := 3) C hw arI (by decide) (by decide) (by decide) (Nat.le_of_ble_eq_true rfl) (Nat.le_of_ble_eq_true rfl) dX2_init_17 (fun q2 H hw => ?_)
  have hw : WL D A s.heap [(h, .inr (2, [.ref q1, .null, .null, .null, .null, .null, .null, .null, .null, .null, .int 0])), (q1, .inr (6, [.ref qs1, .ref qs2, .ref qs3, .int 0])), (qs1, .inl (cI, 20, .inl (fun _ => 0))), (qs2, .inl (cI, 20, .inl (fun _ => 0))), (qs3, .inl (cI, 20, .inl (fun _ => 0))), (q2, .inl (cI, 3, .inl (fun _ => 0)))] H _ := hw
  refine W.widen (k := 5) (n := 67) (by decide) (by decide) ?_
  refine z_put (ty := .array .int) C hw hin rfl (k := 1) (by decide) tbX2 tyX2_ok nmX2 (tb1 130 rfl rfl) rfl rfl (by decide +kernel) rfl rfl (Nat.le_of_ble_eq_true rfl) dX2_init_19 (fun H locs hw => ?_)
  have hw : WL D A s.heap [(h, .inr (2, [.ref q1, .ref q2, .null, .null, .null, .null, .null, .null, .null, .null, .int 0])), (q1, .inr (6, [.ref qs1, .ref qs2, .ref qs3, .int 0])), (qs1, .inl (cI, 20, .inl (fun _ => 0))), (qs2, .inl (cI, 20, .inl (fun _ => 0))), (qs3, .inl (cI, 20, .inl (fun _ => 0))), (q2, .inl (cI, 3, .inl (fun _ => 0)))] H locs := hw
  refine lv_aload_n hx hb dX2_init_22 rfl (lv_at hl 0 rfl) ?_
  refine lv_bipush (v := 99) hx hb dX2_init_23 (by decide) ?_
  refine z_arrI (N := 99) C hw arI (by decide) (by decide) (by decide) (Nat.le_of_ble_eq_true rfl) (Nat.le_of_ble_eq_true rfl) dX2_init_25 (fun q3 H hw => ?_)
  have hw : WL D A s.heap [(h, .inr (2, [.ref q1, .ref q2, .null, .null, .null, .null, .null, .null, .null, .null, .int 0])), (q1, .inr (6, [.ref qs1, .ref qs2, .ref qs3, .int 0])), (qs1, .inl (cI, 20, .inl (fun _ => 0))), (qs2, .inl (cI, 20, .inl (fun _ => 0))), (qs3, .inl (cI, 20, .inl (fun _ => 0))), (q2, .inl (cI, 3, .inl (fun _ => 0))), (q3, .inl (cI, 99, .inl (fun _ => 0)))] H _ := hw
  refine W.widen (k := 6) (n := 166) (by decide) (by decide) ?_
  refine z_put (ty := .array .int) C hw hin rfl (k := 2) (by decide) tbX2 tyX2_ok nmX2 (tb1 132 rfl rfl) rfl rfl (by decide +kernel) rfl rfl (Nat.le_of_ble_eq_true rfl) dX2_init_27 (fun H locs hw => ?_)
  have hw : WL D A s.heap [(h, .inr (2, [.ref q1, .ref q2, .ref q3, .null, .null, .null, .null, .null, .null, .null, .int 0])), (q1, .inr (6, [.ref qs1, .ref qs2, .ref qs3, .int 0])), (qs1, .inl (cI, 20, .inl (fun _ => 0))), (qs2, .inl (cI, 20, .inl (fun _ => 0))), (qs3, .inl (cI, 20, .inl (fun _ => 0))), (q2, .inl (cI, 3, .inl (fun _ => 0))), (q3, .inl (cI, 99, .inl (fun _ => 0)))] H locs := hw
  refine lv_aload_n hx hb dX2_init_30 rfl (lv_at hl 0 rfl) ?_
  refine lv_bipush (v := 60) hx hb dX2_init_31 (by decide) ?_
  refine z_arrI (N := 60) C hw arI (by decide) (by decide) (by decide) (Nat.le_of_ble_eq_true rfl) (Nat.le_of_ble_eq_true rfl) dX2_init_33 (fun q4 H hw => ?_)
  have hw : WL D A s.heap [(h, .inr (2, [.ref q1, .ref q2, .ref q3, .null, .null, .null, .null, .null, .null, .null, .int 0])), (q1, .inr (6, [.ref qs1, .ref qs2, .ref qs3, .int 0])), (qs1, .inl (cI, 20, .inl (fun _ => 0))), (qs2, .inl (cI, 20, .inl (fun _ => 0))), (qs3, .inl (cI, 20, .inl (fun _ => 0))), (q2, .inl (cI, 3, .inl (fun _ => 0))), (q3, .inl (cI, 99, .inl (fun _ => 0))), (q4, .inl (cI, 60, .inl (fun _ => 0)))] H _ := hw
  refine W.widen (k := 7) (n := 226) (by decide) (by decide) ?_
  refine z_put (ty := .array .int) C hw hin rfl (k := 3) (by decide) tbX2 tyX2_ok nmX2 (tb1 133 rfl rfl) rfl rfl (by decide +kernel) rfl rfl (Nat.le_of_ble_eq_true rfl) dX2_init_35 (fun H locs hw => ?_)
  have hw : WL D A s.heap [(h, .inr (2, [.ref q1, .ref q2, .ref q3, .ref q4, .null, .null, .null, .null, .null, .null, .int 0])), (q1, .inr (6, [.ref qs1, .ref qs2, .ref qs3, .int 0])), (qs1, .inl (cI, 20, .inl (fun _ => 0))), (qs2, .inl (cI, 20, .inl (fun _ => 0))), (qs3, .inl (cI, 20, .inl (fun _ => 0))), (q2, .inl (cI, 3, .inl (fun _ => 0))), (q3, .inl (cI, 99, .inl (fun _ => 0))), (q4, .inl (cI, 60, .inl (fun _ => 0)))] H locs := hw
  refine lv_aload_n hx hb dX2_init_38 rfl (lv_at hl 0 rfl) ?_
  refine lv_bipush (v := 60) hx hb dX2_init_39 (by decide) ?_
  refine z_arrI (N := 60) C hw arI (by decide) (by decide) (by decide) (Nat.le_of_ble_eq_true rfl) (Nat.le_of_ble_eq_true rfl) dX2_init_41 (fun q5 H hw => ?_)
  have hw : WL D A s.heap [(h, .inr (2, [.ref q1, .ref q2, .ref q3, .ref q4, .null, .null, .null, .null, .null, .null, .int 0])), (q1, .inr (6, [.ref qs1, .ref qs2, .ref qs3, .int 0])), (qs1, .inl (cI, 20, .inl (fun _ => 0))), (qs2, .inl (cI, 20, .inl (fun _ => 0))), (qs3, .inl (cI, 20, .inl (fun _ => 0))), (q2, .inl (cI, 3, .inl (fun _ => 0))), (q3, .inl (cI, 99, .inl (fun _ => 0))), (q4, .inl (cI, 60, .inl (fun _ => 0))), (q5, .inl (cI, 60, .inl (fun _ => 0)))] H _ := hw
  refine W.widen (k := 8) (n := 286) (by decide) (by decide) ?_
  refine z_put (ty := .array .int) C hw hin rfl (k := 4) (by decide) tbX2 tyX2_ok nmX2 (tb1 135 rfl rfl) rfl rfl (by decide +kernel) rfl rfl (Nat.le_of_ble_eq_true rfl) dX2_init_43 (fun H locs hw => ?_)
  have hw : WL D A s.heap [(h, .inr (2, [.ref q1, .ref q2, .ref q3, .ref q4, .ref q5, .null, .null, .null, .null, .null, .int 0])), (q1, .inr (6, [.ref qs1, .ref qs2, .ref qs3, .int 0])), (qs1, .inl (cI, 20, .inl (fun _ => 0))), (qs2, .inl (cI, 20, .inl (fun _ => 0))), (qs3, .inl (cI, 20, .inl (fun _ => 0))), (q2, .inl (cI, 3, .inl (fun _ => 0))), (q3, .inl (cI, 99, .inl (fun _ => 0))), (q4, .inl (cI, 60, .inl (fun _ => 0))), (q5, .inl (cI, 60, .inl (fun _ => 0)))] H locs := hw
  refine lv_aload_n hx hb dX2_init_46 rfl (lv_at hl 0 rfl) ?_
  refine lv_bipush (v := 60) hx hb dX2_init_47 (by decide) ?_
  refine z_arrI (N := 60) C hw arI (by decide) (by decide) (by decide) (Nat.le_of_ble_eq_true rfl) (Nat.le_of_ble_eq_true rfl) dX2_init_49 (fun q6 H hw => ?_)
  have hw : WL D A s.heap [(h, .inr (2, [.ref q1, .ref q2, .ref q3, .ref q4, .ref q5, .null, .null, .null, .null, .null, .int 0])), (q1, .inr (6, [.ref qs1, .ref qs2, .ref qs3, .int 0])), (qs1, .inl (cI, 20, .inl (fun _ => 0))), (qs2, .inl (cI, 20, .inl (fun _ => 0))), (qs3, .inl (cI, 20, .inl (fun _ => 0))), (q2, .inl (cI, 3, .inl (fun _ => 0))), (q3, .inl (cI, 99, .inl (fun _ => 0))), (q4, .inl (cI, 60, .inl (fun _ => 0))), (q5, .inl (cI, 60, .inl (fun _ => 0))), (q6, .inl (cI, 60, .inl (fun _ => 0)))] H _ := hw
  refine W.widen (k := 9) (n := 346) (by decide) (by decide) ?_
  refine z_put (ty := .array .int) C hw hin rfl (k := 5) (by decide) tbX2 tyX2_ok nmX2 (tb1 137 rfl rfl) rfl rfl (by decide +kernel) rfl rfl (Nat.le_of_ble_eq_true rfl) dX2_init_51 (fun H locs hw => ?_)
  have hw : WL D A s.heap [(h, .inr (2, [.ref q1, .ref q2, .ref q3, .ref q4, .ref q5, .ref q6, .null, .null, .null, .null, .int 0])), (q1, .inr (6, [.ref qs1, .ref qs2, .ref qs3, .int 0])), (qs1, .inl (cI, 20, .inl (fun _ => 0))), (qs2, .inl (cI, 20, .inl (fun _ => 0))), (qs3, .inl (cI, 20, .inl (fun _ => 0))), (q2, .inl (cI, 3, .inl (fun _ => 0))), (q3, .inl (cI, 99, .inl (fun _ => 0))), (q4, .inl (cI, 60, .inl (fun _ => 0))), (q5, .inl (cI, 60, .inl (fun _ => 0))), (q6, .inl (cI, 60, .inl (fun _ => 0)))] H locs := hw
  refine lv_aload_n hx hb dX2_init_54 rfl (lv_at hl 0 rfl) ?_
  refine lv_bipush (v := 60) hx hb dX2_init_55 (by decide) ?_
  refine z_arrI (N := 60) C hw arI (by decide) (by decide) (by decide) (Nat.le_of_ble_eq_true rfl) (Nat.le_of_ble_eq_true rfl) dX2_init_57 (fun q7 H hw => ?_)
  have hw : WL D A s.heap [(h, .inr (2, [.ref q1, .ref q2, .ref q3, .ref q4, .ref q5, .ref q6, .null, .null, .null, .null, .int 0])), (q1, .inr (6, [.ref qs1, .ref qs2, .ref qs3, .int 0])), (qs1, .inl (cI, 20, .inl (fun _ => 0))), (qs2, .inl (cI, 20, .inl (fun _ => 0))), (qs3, .inl (cI, 20, .inl (fun _ => 0))), (q2, .inl (cI, 3, .inl (fun _ => 0))), (q3, .inl (cI, 99, .inl (fun _ => 0))), (q4, .inl (cI, 60, .inl (fun _ => 0))), (q5, .inl (cI, 60, .inl (fun _ => 0))), (q6, .inl (cI, 60, .inl (fun _ => 0))), (q7, .inl (cI, 60, .inl (fun _ => 0)))] H _ := hw
  refine W.widen (k := 10) (n := 406) (by decide) (by decide) ?_
  refine z_put (ty := .array .int) C hw hin rfl (k := 6) (by decide) tbX2 tyX2_ok nmX2 (tb1 139 rfl rfl) rfl rfl (by decide +kernel) rfl rfl (Nat.le_of_ble_eq_true rfl) dX2_init_59 (fun H locs hw => ?_)
  have hw : WL D A s.heap [(h, .inr (2, [.ref q1, .ref q2, .ref q3, .ref q4, .ref q5, .ref q6, .ref q7, .null, .null, .null, .int 0])), (q1, .inr (6, [.ref qs1, .ref qs2, .ref qs3, .int 0])), (qs1, .inl (cI, 20, .inl (fun _ => 0))), (qs2, .inl (cI, 20, .inl (fun _ => 0))), (qs3, .inl (cI, 20, .inl (fun _ => 0))), (q2, .inl (cI, 3, .inl (fun _ => 0))), (q3, .inl (cI, 99, .inl (fun _ => 0))), (q4, .inl (cI, 60, .inl (fun _ => 0))), (q5, .inl (cI, 60, .inl (fun _ => 0))), (q6, .inl (cI, 60, .inl (fun _ => 0))), (q7, .inl (cI, 60, .inl (fun _ => 0)))] H locs := hw
  refine lv_aload_n hx hb dX2_init_62 rfl (lv_at hl 0 rfl) ?_
  refine lv_bipush (v := 60) hx hb dX2_init_63 (by decide) ?_
  refine z_arrI (N := 60) C hw arI (by decide) (by decide) (by decide) (Nat.le_of_ble_eq_true rfl) (Nat.le_of_ble_eq_true rfl) dX2_init_65 (fun q8 H hw => ?_)
  have hw : WL D A s.heap [(h, .inr (2, [.ref q1, .ref q2, .ref q3, .ref q4, .ref q5, .ref q6, .ref q7, .null, .null, .null, .int 0])), (q1, .inr (6, [.ref qs1, .ref qs2, .ref qs3, .int 0])), (qs1, .inl (cI, 20, .inl (fun _ => 0))), (qs2, .inl (cI, 20, .inl (fun _ => 0))), (qs3, .inl (cI, 20, .inl (fun _ => 0))), (q2, .inl (cI, 3, .inl (fun _ => 0))), (q3, .inl (cI, 99, .inl (fun _ => 0))), (q4, .inl (cI, 60, .inl (fun _ => 0))), (q5, .inl (cI, 60, .inl (fun _ => 0))), (q6, .inl (cI, 60, .inl (fun _ => 0))), (q7, .inl (cI, 60, .inl (fun _ => 0))), (q8, .inl (cI, 60, .inl (fun _ => 0)))] H _ := hw
  refine W.widen (k := 11) (n := 466) (by decide) (by decide) ?_
  refine z_put (ty := .array .int) C hw hin rfl (k := 7) (by decide) tbX2 tyX2_ok nmX2 (tb1 141 rfl rfl) rfl rfl (by decide +kernel) rfl rfl (Nat.le_of_ble_eq_true rfl) dX2_init_67 (fun H locs hw => ?_)
  have hw : WL D A s.heap [(h, .inr (2, [.ref q1, .ref q2, .ref q3, .ref q4, .ref q5, .ref q6, .ref q7, .ref q8, .null, .null, .int 0])), (q1, .inr (6, [.ref qs1, .ref qs2, .ref qs3, .int 0])), (qs1, .inl (cI, 20, .inl (fun _ => 0))), (qs2, .inl (cI, 20, .inl (fun _ => 0))), (qs3, .inl (cI, 20, .inl (fun _ => 0))), (q2, .inl (cI, 3, .inl (fun _ => 0))), (q3, .inl (cI, 99, .inl (fun _ => 0))), (q4, .inl (cI, 60, .inl (fun _ => 0))), (q5, .inl (cI, 60, .inl (fun _ => 0))), (q6, .inl (cI, 60, .inl (fun _ => 0))), (q7, .inl (cI, 60, .inl (fun _ => 0))), (q8, .inl (cI, 60, .inl (fun _ => 0)))] H locs := hw
  refine lv_aload_n hx hb dX2_init_70 rfl (lv_at hl 0 rfl) ?_
  refine lv_bipush (v := 60) hx hb dX2_init_71 (by decide) ?_
  refine z_arrZ (N := 60) C hw arZ (by decide) (by decide) (by decide) (Nat.le_of_ble_eq_true rfl) (Nat.le_of_ble_eq_true rfl) dX2_init_73 (fun q9 H hw => ?_)
  have hw : WL D A s.heap [(h, .inr (2, [.ref q1, .ref q2, .ref q3, .ref q4, .ref q5, .ref q6, .ref q7, .ref q8, .null, .null, .int 0])), (q1, .inr (6, [.ref qs1, .ref qs2, .ref qs3, .int 0])), (qs1, .inl (cI, 20, .inl (fun _ => 0))), (qs2, .inl (cI, 20, .inl (fun _ => 0))), (qs3, .inl (cI, 20, .inl (fun _ => 0))), (q2, .inl (cI, 3, .inl (fun _ => 0))), (q3, .inl (cI, 99, .inl (fun _ => 0))), (q4, .inl (cI, 60, .inl (fun _ => 0))), (q5, .inl (cI, 60, .inl (fun _ => 0))), (q6, .inl (cI, 60, .inl (fun _ => 0))), (q7, .inl (cI, 60, .inl (fun _ => 0))), (q8, .inl (cI, 60, .inl (fun _ => 0))), (q9, .inl (cZ, 60, .inl (fun _ => 0)))] H _ := hw
  refine W.widen (k := 12) (n := 526) (by decide) (by decide) ?_
  refine z_put (ty := .array .boolean) C hw hin rfl (k := 8) (by decide) tbX2 tyX2_ok nmX2 (tb1 143 rfl rfl) rfl rfl (by decide +kernel) rfl rfl (Nat.le_of_ble_eq_true rfl) dX2_init_75 (fun H locs hw => ?_)
  have hw : WL D A s.heap [(h, .inr (2, [.ref q1, .ref q2, .ref q3, .ref q4, .ref q5, .ref q6, .ref q7, .ref q8, .ref q9, .null, .int 0])), (q1, .inr (6, [.ref qs1, .ref qs2, .ref qs3, .int 0])), (qs1, .inl (cI, 20, .inl (fun _ => 0))), (qs2, .inl (cI, 20, .inl (fun _ => 0))), (qs3, .inl (cI, 20, .inl (fun _ => 0))), (q2, .inl (cI, 3, .inl (fun _ => 0))), (q3, .inl (cI, 99, .inl (fun _ => 0))), (q4, .inl (cI, 60, .inl (fun _ => 0))), (q5, .inl (cI, 60, .inl (fun _ => 0))), (q6, .inl (cI, 60, .inl (fun _ => 0))), (q7, .inl (cI, 60, .inl (fun _ => 0))), (q8, .inl (cI, 60, .inl (fun _ => 0))), (q9, .inl (cZ, 60, .inl (fun _ => 0)))] H locs := hw
  refine lv_aload_n hx hb dX2_init_78 rfl (lv_at hl 0 rfl) ?_
  refine lv_bipush (v := 60) hx hb dX2_init_79 (by decide) ?_
  refine z_arrI (N := 60) C hw arI (by decide) (by decide) (by decide) (Nat.le_of_ble_eq_true rfl) (Nat.le_of_ble_eq_true rfl) dX2_init_81 (fun q10 H hw => ?_)
  have hw : WL D A s.heap [(h, .inr (2, [.ref q1, .ref q2, .ref q3, .ref q4, .ref q5, .ref q6, .ref q7, .ref q8, .ref q9, .null, .int 0])), (q1, .inr (6, [.ref qs1, .ref qs2, .ref qs3, .int 0])), (qs1, .inl (cI, 20, .inl (fun _ => 0))), (qs2, .inl (cI, 20, .inl (fun _ => 0))), (qs3, .inl (cI, 20, .inl (fun _ => 0))), (q2, .inl (cI, 3, .inl (fun _ => 0))), (q3, .inl (cI, 99, .inl (fun _ => 0))), (q4, .inl (cI, 60, .inl (fun _ => 0))), (q5, .inl (cI, 60, .inl (fun _ => 0))), (q6, .inl (cI, 60, .inl (fun _ => 0))), (q7, .inl (cI, 60, .inl (fun _ => 0))), (q8, .inl (cI, 60, .inl (fun _ => 0))), (q9, .inl (cZ, 60, .inl (fun _ => 0))), (q10, .inl (cI, 60, .inl (fun _ => 0)))] H _ := hw
  refine W.widen (k := 13) (n := 586) (by decide) (by decide) ?_
  refine z_put (ty := .array .int) C hw hin rfl (k := 9) (by decide) tbX2 tyX2_ok nmX2 (tb1 145 rfl rfl) rfl rfl (by decide +kernel) rfl rfl (Nat.le_of_ble_eq_true rfl) dX2_init_83 (fun H locs hw => ?_)
  have hw : WL D A s.heap [(h, .inr (2, [.ref q1, .ref q2, .ref q3, .ref q4, .ref q5, .ref q6, .ref q7, .ref q8, .ref q9, .ref q10, .int 0])), (q1, .inr (6, [.ref qs1, .ref qs2, .ref qs3, .int 0])), (qs1, .inl (cI, 20, .inl (fun _ => 0))), (qs2, .inl (cI, 20, .inl (fun _ => 0))), (qs3, .inl (cI, 20, .inl (fun _ => 0))), (q2, .inl (cI, 3, .inl (fun _ => 0))), (q3, .inl (cI, 99, .inl (fun _ => 0))), (q4, .inl (cI, 60, .inl (fun _ => 0))), (q5, .inl (cI, 60, .inl (fun _ => 0))), (q6, .inl (cI, 60, .inl (fun _ => 0))), (q7, .inl (cI, 60, .inl (fun _ => 0))), (q8, .inl (cI, 60, .inl (fun _ => 0))), (q9, .inl (cZ, 60, .inl (fun _ => 0))), (q10, .inl (cI, 60, .inl (fun _ => 0)))] H locs := hw
  refine lv_iconst (v := 0) hx hb dX2_init_86 (by decide) ?_
  refine lv_istore_n (lv' := [(1, .int 0), (0, .ref h)]) hx hb dX2_init_87 rfl hl (by decide) rfl (fun ls hl => ?_)
  exact c_b88 (ad := fun i => ([h, q1, qs1, qs2, qs3, q2, q3, q4, q5, q6, q7, q8, q9, q10] : List Nat).getD i 0) C (fun H locs ls hw => z_ret C hw ⟨_, Sz, rfl, hS, rfl⟩ dX2_init_129) 100 S00 0 _ _ ls hS hw (lv_sub hl [1, 0] rfl)
