def lyC : LY := ([(2, [.inl 1, .inl 5, .inl 6, .inl 7, .inl 8, .inl 9, .inl 10, .inl 11, .inl 12, .inl 13, .inr 0]), (6, [.inl 2, .inl 3, .inl 4, .inr 1])], [(20, false), (20, false), (20, false), (3, false), (99, false), (60, false), (60, false), (60, false), (60, false), (60, false), (60, true), (60, false)])
theorem gtC_22 : GR lyC RX2 22 0 6 := ⟨2, 2, _, _, _, _, rfl, rfl, rfl, by decide, tbX2, tb1 132 rfl rfl⟩
theorem alC_6 : AL lyC 6 99 false := ⟨by decide, rfl⟩
def fC_b95 (k88 : SS → Int32 → Option SS) : Nat → SS → Int32 → Int32 → Option SS
  | 0, _, _, _ => none
  | n + 1, S, x1, x2 => if (10 : Int32) < x2 then (k88 S (x1 + 1)) else (bb (pA S 6 99 ((((x1 * 3) + x1) * 11) + x2) x2) fun S1 => fC_b95 k88 n S1 x1 (x2 + 1))
def fC_b88 (N : Nat) : Nat → SS → Int32 → Option SS
  | 0, _, _ => none
  | n + 1, S, x1 => if (3 : Int32) ≤ x1 then (some S) else (fC_b95 (fun S x1 => fC_b88 N n S x1) N S x1 1)
def S00 : SS := (fun _ => 0, fun _ _ => 0)
section CLOOP
variable {p : Program} {l : Launch} {e : Env} {R : Room} {s : State} {m : MethodId} {args : Array Value} {below : List Frame} {meth : Method} {c : Code} {cells slots : Nat} {Q : State → Prop} {D : va_G} {cI cZ : ClassId} {A : Nat → Prop} {ret : Option FieldType} {ad : Nat → Nat}
theorem c_b95 {kf : SS → Int32 → Option SS} {Sz : SS} (C : MC p s m args meth c cX2_init 3 RX2 D cI cZ A ret) (hk : ∀ (S : SS) (x1 : Int32) (H : Heap) (locs : List Loc) (ls : Array Slot), kf S x1 = some Sz → WH D A s.heap lyC ad cI cZ S H locs → lv_has ls 3 [(0, .ref (ad 0)), (1, .int x1)] → W p l e R s m args below meth c H locs cells slots Q (F0 m 88 ls [])) : ∀ (n : Nat) (S : SS) (x1 x2 : Int32) (H : Heap) (locs : List Loc) (ls : Array Slot), fC_b95 kf n S x1 x2 = some Sz → WH D A s.heap lyC ad cI cZ S H locs → lv_has ls 3 [(0, .ref (ad 0)), (1, .int x1), (2, .int x2)] → W p l e R s m args below meth c H locs cells slots Q (F0 m 95 ls []) := by
  have hx := C.1
  have hb := C.2.1
  intro n
  induction n with
  | zero =>
    intro S x1 x2 H locs ls h hw hl
    rw [fC_b95] at h
    cases h
  | succ n ih =>
    intro S x1 x2 H locs ls h hw hl
    rw [fC_b95] at h
    refine lv_iload_n hx hb dX2_init_95 rfl (lv_at hl 2 rfl) ?_
    refine lv_bipush (v := 10) hx hb dX2_init_96 (by decide) ?_
    refine lv_icmp_gt (tgt := 123) hx hb dX2_init_98 (by decide) (fun c => ?_) (fun c => ?_)
    · have h := (it_d h).1 c
      refine lv_iinc (v := (x1 + 1)) (lv' := [(1, .int (x1 + 1)), (0, .ref (ad 0)), (2, .int x2)]) hx hb dX2_init_123 hl (k := 1) rfl rfl (by decide) rfl (fun ls hl => ?_)
      refine lv_goto (tgt := 88) hx hb dX2_init_126 (by decide) ?_
      exact hk _ _ _ _ ls h hw (lv_sub hl [1, 0] rfl)
    · have h := (it_d h).2 c
      refine lv_aload_n hx hb dX2_init_101 rfl (lv_at hl 0 rfl) ?_
      refine x_getR C hw gtC_22 dX2_init_102 ?_
      refine lv_iload_n hx hb dX2_init_105 rfl (lv_at hl 1 rfl) ?_
      refine lv_iconst (v := 3) hx hb dX2_init_106 (by decide) ?_
      refine lv_imul hx hb dX2_init_107 ?_
      refine lv_iload_n hx hb dX2_init_108 rfl (lv_at hl 1 rfl) ?_
      refine lv_iadd hx hb dX2_init_109 ?_
      refine lv_bipush (v := 11) hx hb dX2_init_110 (by decide) ?_
      refine lv_imul hx hb dX2_init_112 ?_
      refine lv_iload_n hx hb dX2_init_113 rfl (lv_at hl 2 rfl) ?_
      refine lv_iadd hx hb dX2_init_114 ?_
      refine lv_iload_n hx hb dX2_init_115 rfl (lv_at hl 2 rfl) ?_
      obtain ⟨S1, hv, h⟩ := bb_some h
      refine x_ast C hw alC_6 hv dX2_init_116 (fun H locs hw => ?_)
      refine lv_iinc (v := (x2 + 1)) (lv' := [(2, .int (x2 + 1)), (0, .ref (ad 0)), (1, .int x1)]) hx hb dX2_init_117 hl (k := 2) rfl rfl (by decide) rfl (fun ls hl => ?_)
      refine lv_goto (tgt := 95) hx hb dX2_init_120 (by decide) ?_
      exact ih S1 x1 (x2 + 1) _ _ ls h hw (lv_sub hl [1, 2, 0] rfl)
theorem c_b88 {N : Nat} {Sz : SS} (C : MC p s m args meth c cX2_init 3 RX2 D cI cZ A ret) (hk : ∀ (H : Heap) (locs : List Loc) (ls : Array Slot), WH D A s.heap lyC ad cI cZ Sz H locs → W p l e R s m args below meth c H locs cells slots Q (F0 m 129 ls [])) : ∀ (n : Nat) (S : SS) (x1 : Int32) (H : Heap) (locs : List Loc) (ls : Array Slot), fC_b88 N n S x1 = some Sz → WH D A s.heap lyC ad cI cZ S H locs → lv_has ls 3 [(0, .ref (ad 0)), (1, .int x1)] → W p l e R s m args below meth c H locs cells slots Q (F0 m 88 ls []) := by
  have hx := C.1
  have hb := C.2.1
  intro n
  induction n with
  | zero =>
    intro S x1 H locs ls h hw hl
    rw [fC_b88] at h
    cases h
  | succ n ih =>
    intro S x1 H locs ls h hw hl
    rw [fC_b88] at h
    refine lv_iload_n hx hb dX2_init_88 rfl (lv_at hl 1 rfl) ?_
    refine lv_iconst (v := 3) hx hb dX2_init_89 (by decide) ?_
    refine lv_icmp_ge (tgt := 129) hx hb dX2_init_90 (by decide) (fun c => ?_) (fun c => ?_)
    · have h := (it_d h).1 c
      cases h
      exact hk _ _ ls hw
    · have h := (it_d h).2 c
      refine lv_iconst (v := 1) hx hb dX2_init_93 (by decide) ?_
      refine lv_istore_n (lv' := [(2, .int 1), (0, .ref (ad 0)), (1, .int x1)]) hx hb dX2_init_94 rfl hl (by decide) rfl (fun ls hl => ?_)
      exact c_b95 C (fun S x1 H locs ls h hw hl => ih S x1 H locs ls h hw hl) N S x1 1 _ _ ls h hw (lv_sub hl [1, 2, 0] rfl)
end CLOOP
def ptX4 (cI cZ : ClassId) (h : Nat) (u : va_W) : Prop := ∃ (q1 q2 q3 q4 q5 : Nat), u = [(h, .inr (4, [.ref q1, .ref q2, .ref q3, .ref q4, .ref q5, .int 0, .int 0])), (q1, .inl (cI, 20, .inl (fun _ => 0))), (q2, .inl (cI, 20, .inl (fun _ => 0))), (q3, .inl (cI, 20, .inl (fun _ => 0))), (q4, .inl (cI, 20, .inl (fun _ => 0))), (q5, .inl (cI, 160, .inl (fun _ => 0)))]
set_option maxHeartbeats 4000000 in
set_option maxRecDepth 100000 in
theorem mX4_init {l : Launch} {D : va_G} {cI cZ : ClassId} : MT l D cI cZ yX4_init cX4_init 1 1 5 240 4 [.null, .null, .null, .null, .null, .int 0, .int 0] (ptX4 cI cZ) := by
  refine z_start RX4 (by decide) rfl rfl (Nat.le_of_ble_eq_true rfl) ?_
  intro h p e s m args below meth c A C hN hin hw ls hl
  have hx := C.1
  have hb := C.2.1
  refine lv_aload_n hx hb dX4_init_0 rfl (lv_at hl 0 rfl) ?_
  refine z_obj C (tb1 32 rfl rfl) ob1 ob2 hl.1 (Nat.le_of_ble_eq_true rfl) (Nat.le_of_ble_eq_true rfl) dX4_init_1 ?_
  refine lv_aload_n hx hb dX4_init_4 rfl (lv_at hl 0 rfl) ?_
  refine lv_bipush (v := 20) hx hb dX4_init_5 (by decide) ?_
  refine z_arrI (N := 20) C hw arI (by decide) (by decide) (by decide) (Nat.le_of_ble_eq_true rfl) (Nat.le_of_ble_eq_true rfl) dX4_init_7 (fun q1 H hw => ?_)
  have hw : WL D A s.heap [(h, .inr (4, [.null, .null, .null, .null, .null, .int 0, .int 0])), (q1, .inl (cI, 20, .inl (fun _ => 0)))] H _ := hw
  refine W.widen (k := 1) (n := 20) (by decide) (by decide) ?_
  refine z_put (ty := .array .int) C hw hin rfl (k := 0) (by decide) tbX4 tyX4_ok nmX4 (tb1 33 rfl rfl) rfl rfl (by decide +kernel) rfl rfl (Nat.le_of_ble_eq_true rfl) dX4_init_9 (fun H locs hw => ?_)
  have hw : WL D A s.heap [(h, .inr (4, [.ref q1, .null, .null, .null, .null, .int 0, .int 0])), (q1, .inl (cI, 20, .inl (fun _ => 0)))] H locs := hw
  refine lv_aload_n hx hb dX4_init_12 rfl (lv_at hl 0 rfl) ?_
  refine lv_bipush (v := 20) hx hb dX4_init_13 (by decide) ?_
  refine z_arrI (N := 20) C hw arI (by decide) (by decide) (by decide) (Nat.le_of_ble_eq_true rfl) (Nat.le_of_ble_eq_true rfl) dX4_init_15 (fun q2 H hw => ?_)
  have hw : WL D A s.heap [(h, .inr (4, [.ref q1, .null, .null, .null, .null, .int 0, .int 0])), (q1, .inl (cI, 20, .inl (fun _ => 0))), (q2, .inl (cI, 20, .inl (fun _ => 0)))] H _ := hw
  refine W.widen (k := 2) (n := 40) (by decide) (by decide) ?_
  refine z_put (ty := .array .int) C hw hin rfl (k := 1) (by decide) tbX4 tyX4_ok nmX4 (tb1 36 rfl rfl) rfl rfl (by decide +kernel) rfl rfl (Nat.le_of_ble_eq_true rfl) dX4_init_17 (fun H locs hw => ?_)
  have hw : WL D A s.heap [(h, .inr (4, [.ref q1, .ref q2, .null, .null, .null, .int 0, .int 0])), (q1, .inl (cI, 20, .inl (fun _ => 0))), (q2, .inl (cI, 20, .inl (fun _ => 0)))] H locs := hw
  refine lv_aload_n hx hb dX4_init_20 rfl (lv_at hl 0 rfl) ?_
  refine lv_bipush (v := 20) hx hb dX4_init_21 (by decide) ?_
  refine z_arrI (N := 20) C hw arI (by decide) (by decide) (by decide) (Nat.le_of_ble_eq_true rfl) (Nat.le_of_ble_eq_true rfl) dX4_init_23 (fun q3 H hw => ?_)
  have hw : WL D A s.heap [(h, .inr (4, [.ref q1, .ref q2, .null, .null, .null, .int 0, .int 0])), (q1, .inl (cI, 20, .inl (fun _ => 0))), (q2, .inl (cI, 20, .inl (fun _ => 0))), (q3, .inl (cI, 20, .inl (fun _ => 0)))] H _ := hw
  refine W.widen (k := 3) (n := 60) (by decide) (by decide) ?_
  refine z_put (ty := .array .int) C hw hin rfl (k := 2) (by decide) tbX4 tyX4_ok nmX4 (tb1 38 rfl rfl) rfl rfl (by decide +kernel) rfl rfl (Nat.le_of_ble_eq_true rfl) dX4_init_25 (fun H locs hw => ?_)
  have hw : WL D A s.heap [(h, .inr (4, [.ref q1, .ref q2, .ref q3, .null, .null, .int 0, .int 0])), (q1, .inl (cI, 20, .inl (fun _ => 0))), (q2, .inl (cI, 20, .inl (fun _ => 0))), (q3, .inl (cI, 20, .inl (fun _ => 0)))] H locs := hw
  refine lv_aload_n hx hb dX4_init_28 rfl (lv_at hl 0 rfl) ?_
  refine lv_bipush (v := 20) hx hb dX4_init_29 (by decide) ?_
  refine z_arrI (N := 20) C hw arI (by decide) (by decide) (by decide) (Nat.le_of_ble_eq_true rfl) (Nat.le_of_ble_eq_true rfl) dX4_init_31 (fun q4 H hw => ?_)
  have hw : WL D A s.heap [(h, .inr (4, [.ref q1, .ref q2, .ref q3, .null, .null, .int 0, .int 0])), (q1, .inl (cI, 20, .inl (fun _ => 0))), (q2, .inl (cI, 20, .inl (fun _ => 0))), (q3, .inl (cI, 20, .inl (fun _ => 0))), (q4, .inl (cI, 20, .inl (fun _ => 0)))] H _ := hw
  refine W.widen (k := 4) (n := 80) (by decide) (by decide) ?_
  refine z_put (ty := .array .int) C hw hin rfl (k := 3) (by decide) tbX4 tyX4_ok nmX4 (tb1 41 rfl rfl) rfl rfl (by decide +kernel) rfl rfl (Nat.le_of_ble_eq_true rfl) dX4_init_33 (fun H locs hw => ?_)
  have hw : WL D A s.heap [(h, .inr (4, [.ref q1, .ref q2, .ref q3, .ref q4, .null, .int 0, .int 0])), (q1, .inl (cI, 20, .inl (fun _ => 0))), (q2, .inl (cI, 20, .inl (fun _ => 0))), (q3, .inl (cI, 20, .inl (fun _ => 0))), (q4, .inl (cI, 20, .inl (fun _ => 0)))] H locs := hw
  refine lv_aload_n hx hb dX4_init_36 rfl (lv_at hl 0 rfl) ?_
  refine lv_sipush (v := 160) hx hb dX4_init_37 (by decide) ?_
  refine z_arrI (N := 160) C hw arI (by decide) (by decide) (by decide) (Nat.le_of_ble_eq_true rfl) (Nat.le_of_ble_eq_true rfl) dX4_init_40 (fun q5 H hw => ?_)
  have hw : WL D A s.heap [(h, .inr (4, [.ref q1, .ref q2, .ref q3, .ref q4, .null, .int 0, .int 0])), (q1, .inl (cI, 20, .inl (fun _ => 0))), (q2, .inl (cI, 20, .inl (fun _ => 0))), (q3, .inl (cI, 20, .inl (fun _ => 0))), (q4, .inl (cI, 20, .inl (fun _ => 0))), (q5, .inl (cI, 160, .inl (fun _ => 0)))] H _ := hw
  refine W.widen (k := 5) (n := 240) (by decide) (by decide) ?_
  refine z_put (ty := .array .int) C hw hin rfl (k := 4) (by decide) tbX4 tyX4_ok nmX4 (tb1 44 rfl rfl) rfl rfl (by decide +kernel) rfl rfl (Nat.le_of_ble_eq_true rfl) dX4_init_42 (fun H locs hw => ?_)
  have hw : WL D A s.heap [(h, .inr (4, [.ref q1, .ref q2, .ref q3, .ref q4, .ref q5, .int 0, .int 0])), (q1, .inl (cI, 20, .inl (fun _ => 0))), (q2, .inl (cI, 20, .inl (fun _ => 0))), (q3, .inl (cI, 20, .inl (fun _ => 0))), (q4, .inl (cI, 20, .inl (fun _ => 0))), (q5, .inl (cI, 160, .inl (fun _ => 0)))] H locs := hw
  exact z_ret C hw ⟨q1, q2, q3, q4, q5, rfl⟩ dX4_init_45
def ptX5 (cI cZ : ClassId) (h : Nat) (u : va_W) : Prop := ∃ (q1 q2 q3 q4 q5 q6 : Nat), u = [(h, .inr (5, [.ref q1, .ref q2, .ref q3, .ref q4, .ref q5, .ref q6, .int 0])), (q1, .inl (cI, 40, .inl (fun _ => 0))), (q2, .inl (cI, 40, .inl (fun _ => 0))), (q3, .inl (cI, 40, .inl (fun _ => 0))), (q4, .inl (cI, 40, .inl (fun _ => 0))), (q5, .inl (cI, 40, .inl (fun _ => 0))), (q6, .inl (cI, 40, .inl (fun _ => 0)))]
set_option maxHeartbeats 4000000 in
set_option maxRecDepth 100000 in
theorem mX5_init {l : Launch} {D : va_G} {cI cZ : ClassId} : MT l D cI cZ yX5_init cX5_init 1 1 6 240 5 [.null, .null, .null, .null, .null, .null, .int 0] (ptX5 cI cZ) := by
  refine z_start RX5 (by decide) rfl rfl (Nat.le_of_ble_eq_true rfl) ?_
  intro h p e s m args below meth c A C hN hin hw ls hl
  have hx := C.1
  have hb := C.2.1
  refine lv_aload_n hx hb dX5_init_0 rfl (lv_at hl 0 rfl) ?_
  refine z_obj C (tb1 72 rfl rfl) ob1 ob2 hl.1 (Nat.le_of_ble_eq_true rfl) (Nat.le_of_ble_eq_true rfl) dX5_init_1 ?_
  refine lv_aload_n hx hb dX5_init_4 rfl (lv_at hl 0 rfl) ?_
  refine lv_bipush (v := 40) hx hb dX5_init_5 (by decide) ?_
  refine z_arrI (N := 40) C hw arI (by decide) (by decide) (by decide) (Nat.le_of_ble_eq_true rfl) (Nat.le_of_ble_eq_true rfl) dX5_init_7 (fun q1 H hw => ?_)
  have hw : WL D A s.heap [(h, .inr (5, [.null, .null, .null, .null, .null, .null, .int 0])), (q1, .inl (cI, 40, .inl (fun _ => 0)))] H _ := hw
  refine W.widen (k := 1) (n := 40) (by decide) (by decide) ?_
  refine z_put (ty := .array .int) C hw hin rfl (k := 0) (by decide) tbX5 tyX5_ok nmX5 (tb1 73 rfl rfl) rfl rfl (by decide +kernel) rfl rfl (Nat.le_of_ble_eq_true rfl) dX5_init_9 (fun H locs hw => ?_)
  have hw : WL D A s.heap [(h, .inr (5, [.ref q1, .null, .null, .null, .null, .null, .int 0])), (q1, .inl (cI, 40, .inl (fun _ => 0)))] H locs := hw
  refine lv_aload_n hx hb dX5_init_12 rfl (lv_at hl 0 rfl) ?_
  refine lv_bipush (v := 40) hx hb dX5_init_13 (by decide) ?_
  refine z_arrI (N := 40) C hw arI (by decide) (by decide) (by decide) (Nat.le_of_ble_eq_true rfl) (Nat.le_of_ble_eq_true rfl) dX5_init_15 (fun q2 H hw => ?_)
  have hw : WL D A s.heap [(h, .inr (5, [.ref q1, .null, .null, .null, .null, .null, .int 0])), (q1, .inl (cI, 40, .inl (fun _ => 0))), (q2, .inl (cI, 40, .inl (fun _ => 0)))] H _ := hw
  refine W.widen (k := 2) (n := 80) (by decide) (by decide) ?_
  refine z_put (ty := .array .int) C hw hin rfl (k := 1) (by decide) tbX5 tyX5_ok nmX5 (tb1 74 rfl rfl) rfl rfl (by decide +kernel) rfl rfl (Nat.le_of_ble_eq_true rfl) dX5_init_17 (fun H locs hw => ?_)
  have hw : WL D A s.heap [(h, .inr (5, [.ref q1, .ref q2, .null, .null, .null, .null, .int 0])), (q1, .inl (cI, 40, .inl (fun _ => 0))), (q2, .inl (cI, 40, .inl (fun _ => 0)))] H locs := hw
  refine lv_aload_n hx hb dX5_init_20 rfl (lv_at hl 0 rfl) ?_
  refine lv_bipush (v := 40) hx hb dX5_init_21 (by decide) ?_
  refine z_arrI (N := 40) C hw arI (by decide) (by decide) (by decide) (Nat.le_of_ble_eq_true rfl) (Nat.le_of_ble_eq_true rfl) dX5_init_23 (fun q3 H hw => ?_)
  have hw : WL D A s.heap [(h, .inr (5, [.ref q1, .ref q2, .null, .null, .null, .null, .int 0])), (q1, .inl (cI, 40, .inl (fun _ => 0))), (q2, .inl (cI, 40, .inl (fun _ => 0))), (q3, .inl (cI, 40, .inl (fun _ => 0)))] H _ := hw
  refine W.widen (k := 3) (n := 120) (by decide) (by decide) ?_
  refine z_put (ty := .array .int) C hw hin rfl (k := 2) (by decide) tbX5 tyX5_ok nmX5 (tb1 75 rfl rfl) rfl rfl (by decide +kernel) rfl rfl (Nat.le_of_ble_eq_true rfl) dX5_init_25 (fun H locs hw => ?_)
  have hw : WL D A s.heap [(h, .inr (5, [.ref q1, .ref q2, .ref q3, .null, .null, .null, .int 0])), (q1, .inl (cI, 40, .inl (fun _ => 0))), (q2, .inl (cI, 40, .inl (fun _ => 0))), (q3, .inl (cI, 40, .inl (fun _ => 0)))] H locs := hw
  refine lv_aload_n hx hb dX5_init_28 rfl (lv_at hl 0 rfl) ?_
  refine lv_bipush (v := 40) hx hb dX5_init_29 (by decide) ?_
  refine z_arrI (N := 40) C hw arI (by decide) (by decide) (by decide) (Nat.le_of_ble_eq_true rfl) (Nat.le_of_ble_eq_true rfl) dX5_init_31 (fun q4 H hw => ?_)
  have hw : WL D A s.heap [(h, .inr (5, [.ref q1, .ref q2, .ref q3, .null, .null, .null, .int 0])), (q1, .inl (cI, 40, .inl (fun _ => 0))), (q2, .inl (cI, 40, .inl (fun _ => 0))), (q3, .inl (cI, 40, .inl (fun _ => 0))), (q4, .inl (cI, 40, .inl (fun _ => 0)))] H _ := hw
  refine W.widen (k := 4) (n := 160) (by decide) (by decide) ?_
  refine z_put (ty := .array .int) C hw hin rfl (k := 3) (by decide) tbX5 tyX5_ok nmX5 (tb1 77 rfl rfl) rfl rfl (by decide +kernel) rfl rfl (Nat.le_of_ble_eq_true rfl) dX5_init_33 (fun H locs hw => ?_)
  have hw : WL D A s.heap [(h, .inr (5, [.ref q1, .ref q2, .ref q3, .ref q4, .null, .null, .int 0])), (q1, .inl (cI, 40, .inl (fun _ => 0))), (q2, .inl (cI, 40, .inl (fun _ => 0))), (q3, .inl (cI, 40, .inl (fun _ => 0))), (q4, .inl (cI, 40, .inl (fun _ => 0)))] H locs := hw
  refine lv_aload_n hx hb dX5_init_36 rfl (lv_at hl 0 rfl) ?_
  refine lv_bipush (v := 40) hx hb dX5_init_37 (by decide) ?_
  refine z_arrI (N := 40) C hw arI (by decide) (by decide) (by decide) (Nat.le_of_ble_eq_true rfl) (Nat.le_of_ble_eq_true rfl) dX5_init_39 (fun q5 H hw => ?_)
  have hw : WL D A s.heap [(h, .inr (5, [.ref q1, .ref q2, .ref q3, .ref q4, .null, .null, .int 0])), (q1, .inl (cI, 40, .inl (fun _ => 0))), (q2, .inl (cI, 40, .inl (fun _ => 0))), (q3, .inl (cI, 40, .inl (fun _ => 0))), (q4, .inl (cI, 40, .inl (fun _ => 0))), (q5, .inl (cI, 40, .inl (fun _ => 0)))] H _ := hw
  refine W.widen (k := 5) (n := 200) (by decide) (by decide) ?_
  refine z_put (ty := .array .int) C hw hin rfl (k := 4) (by decide) tbX5 tyX5_ok nmX5 (tb1 79 rfl rfl) rfl rfl (by decide +kernel) rfl rfl (Nat.le_of_ble_eq_true rfl) dX5_init_41 (fun H locs hw => ?_)
  have hw : WL D A s.heap [(h, .inr (5, [.ref q1, .ref q2, .ref q3, .ref q4, .ref q5, .null, .int 0])), (q1, .inl (cI, 40, .inl (fun _ => 0))), (q2, .inl (cI, 40, .inl (fun _ => 0))), (q3, .inl (cI, 40, .inl (fun _ => 0))), (q4, .inl (cI, 40, .inl (fun _ => 0))), (q5, .inl (cI, 40, .inl (fun _ => 0)))] H locs := hw
  refine lv_aload_n hx hb dX5_init_44 rfl (lv_at hl 0 rfl) ?_
  refine lv_bipush (v := 40) hx hb dX5_init_45 (by decide) ?_
  refine z_arrI (N := 40) C hw arI (by decide) (by decide) (by decide) (Nat.le_of_ble_eq_true rfl) (Nat.le_of_ble_eq_true rfl) dX5_init_47 (fun q6 H hw => ?_)
  have hw : WL D A s.heap [(h, .inr (5, [.ref q1, .ref q2, .ref q3, .ref q4, .ref q5, .null, .int 0])), (q1, .inl (cI, 40, .inl (fun _ => 0))), (q2, .inl (cI, 40, .inl (fun _ => 0))), (q3, .inl (cI, 40, .inl (fun _ => 0))), (q4, .inl (cI, 40, .inl (fun _ => 0))), (q5, .inl (cI, 40, .inl (fun _ => 0))), (q6, .inl (cI, 40, .inl (fun _ => 0)))] H _ := hw
  refine W.widen (k := 6) (n := 240) (by decide) (by decide) ?_
  refine z_put (ty := .array .int) C hw hin rfl (k := 5) (by decide) tbX5 tyX5_ok nmX5 (tb1 81 rfl rfl) rfl rfl (by decide +kernel) rfl rfl (Nat.le_of_ble_eq_true rfl) dX5_init_49 (fun H locs hw => ?_)
  have hw : WL D A s.heap [(h, .inr (5, [.ref q1, .ref q2, .ref q3, .ref q4, .ref q5, .ref q6, .int 0])), (q1, .inl (cI, 40, .inl (fun _ => 0))), (q2, .inl (cI, 40, .inl (fun _ => 0))), (q3, .inl (cI, 40, .inl (fun _ => 0))), (q4, .inl (cI, 40, .inl (fun _ => 0))), (q5, .inl (cI, 40, .inl (fun _ => 0))), (q6, .inl (cI, 40, .inl (fun _ => 0)))] H locs := hw
  exact z_ret C hw ⟨q1, q2, q3, q4, q5, q6, rfl⟩ dX5_init_52
def ptX6 (cI cZ : ClassId) (h : Nat) (u : va_W) : Prop := ∃ (q1 q2 q3 : Nat), u = [(h, .inr (6, [.ref q1, .ref q2, .ref q3, .int 0])), (q1, .inl (cI, 20, .inl (fun _ => 0))), (q2, .inl (cI, 20, .inl (fun _ => 0))), (q3, .inl (cI, 20, .inl (fun _ => 0)))]
set_option maxHeartbeats 4000000 in
set_option maxRecDepth 100000 in
theorem mX6_init {l : Launch} {D : va_G} {cI cZ : ClassId} : MT l D cI cZ yX6_init cX6_init 1 1 3 60 6 [.null, .null, .null, .int 0] (ptX6 cI cZ) := by
  refine z_start RX6 (by decide) rfl rfl (Nat.le_of_ble_eq_true rfl) ?_
  intro h p e s m args below meth c A C hN hin hw ls hl
  have hx := C.1
  have hb := C.2.1
  refine lv_aload_n hx hb dX6_init_0 rfl (lv_at hl 0 rfl) ?_
  refine z_obj C (tb1 112 rfl rfl) ob1 ob2 hl.1 (Nat.le_of_ble_eq_true rfl) (Nat.le_of_ble_eq_true rfl) dX6_init_1 ?_
  refine lv_aload_n hx hb dX6_init_4 rfl (lv_at hl 0 rfl) ?_
  refine lv_bipush (v := 20) hx hb dX6_init_5 (by decide) ?_
  refine z_arrI (N := 20) C hw arI (by decide) (by decide) (by decide) (Nat.le_of_ble_eq_true rfl) (Nat.le_of_ble_eq_true rfl) dX6_init_7 (fun q1 H hw => ?_)
  have hw : WL D A s.heap [(h, .inr (6, [.null, .null, .null, .int 0])), (q1, .inl (cI, 20, .inl (fun _ => 0)))] H _ := hw
  refine W.widen (k := 1) (n := 20) (by decide) (by decide) ?_
  refine z_put (ty := .array .int) C hw hin rfl (k := 0) (by decide) tbX6 tyX6_ok nmX6 (tb1 113 rfl rfl) rfl rfl (by decide +kernel) rfl rfl (Nat.le_of_ble_eq_true rfl) dX6_init_9 (fun H locs hw => ?_)
  have hw : WL D A s.heap [(h, .inr (6, [.ref q1, .null, .null, .int 0])), (q1, .inl (cI, 20, .inl (fun _ => 0)))] H locs := hw
  refine lv_aload_n hx hb dX6_init_12 rfl (lv_at hl 0 rfl) ?_
  refine lv_bipush (v := 20) hx hb dX6_init_13 (by decide) ?_
  refine z_arrI (N := 20) C hw arI (by decide) (by decide) (by decide) (Nat.le_of_ble_eq_true rfl) (Nat.le_of_ble_eq_true rfl) dX6_init_15 (fun q2 H hw => ?_)
  have hw : WL D A s.heap [(h, .inr (6, [.ref q1, .null, .null, .int 0])), (q1, .inl (cI, 20, .inl (fun _ => 0))), (q2, .inl (cI, 20, .inl (fun _ => 0)))] H _ := hw
  refine W.widen (k := 2) (n := 40) (by decide) (by decide) ?_
  refine z_put (ty := .array .int) C hw hin rfl (k := 1) (by decide) tbX6 tyX6_ok nmX6 (tb1 114 rfl rfl) rfl rfl (by decide +kernel) rfl rfl (Nat.le_of_ble_eq_true rfl) dX6_init_17 (fun H locs hw => ?_)
  have hw : WL D A s.heap [(h, .inr (6, [.ref q1, .ref q2, .null, .int 0])), (q1, .inl (cI, 20, .inl (fun _ => 0))), (q2, .inl (cI, 20, .inl (fun _ => 0)))] H locs := hw
  refine lv_aload_n hx hb dX6_init_20 rfl (lv_at hl 0 rfl) ?_
  refine lv_bipush (v := 20) hx hb dX6_init_21 (by decide) ?_
  refine z_arrI (N := 20) C hw arI (by decide) (by decide) (by decide) (Nat.le_of_ble_eq_true rfl) (Nat.le_of_ble_eq_true rfl) dX6_init_23 (fun q3 H hw => ?_)
  have hw : WL D A s.heap [(h, .inr (6, [.ref q1, .ref q2, .null, .int 0])), (q1, .inl (cI, 20, .inl (fun _ => 0))), (q2, .inl (cI, 20, .inl (fun _ => 0))), (q3, .inl (cI, 20, .inl (fun _ => 0)))] H _ := hw
  refine W.widen (k := 3) (n := 60) (by decide) (by decide) ?_
  refine z_put (ty := .array .int) C hw hin rfl (k := 2) (by decide) tbX6 tyX6_ok nmX6 (tb1 115 rfl rfl) rfl rfl (by decide +kernel) rfl rfl (Nat.le_of_ble_eq_true rfl) dX6_init_25 (fun H locs hw => ?_)
  have hw : WL D A s.heap [(h, .inr (6, [.ref q1, .ref q2, .ref q3, .int 0])), (q1, .inl (cI, 20, .inl (fun _ => 0))), (q2, .inl (cI, 20, .inl (fun _ => 0))), (q3, .inl (cI, 20, .inl (fun _ => 0)))] H locs := hw
  exact z_ret C hw ⟨q1, q2, q3, rfl⟩ dX6_init_28
