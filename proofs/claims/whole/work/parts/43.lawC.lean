def Steps (Rel : SS → SS → Prop) : Prop := St3 Rel fX7_person fX8_person ∧ St2 Rel fX7_as fX8_as ∧ St2 Rel fX7_licence fX8_licence ∧ St3 Rel fX7_part fX8_part ∧ St4 Rel fX7_worth fX8_worth ∧ St2 Rel fX7_way fX8_way ∧ St5 Rel fX7_rule fX8_rule ∧ St3 Rel fX7_force fX8_force ∧ St4 Rel fX7_has fX8_has ∧ St4 Rel fX7_why fX8_why ∧ St5 Rel fX7_panel fX8_panel ∧ St5 Rel fX7_give fX8_give ∧ St2 Rel fX7_entry fX8_entry ∧ St2 Rel fX7_stands fX8_stands ∧ St3 Rel fX7_strike fX8_strike ∧ St0 Rel fX7_unstrike fX8_unstrike ∧ St1 Rel fX7_wait fX8_wait ∧ St0 Rel fX7_go fX8_go ∧ St3 Rel fX7_best fX8_best ∧ St1 Rel fX7_given fX8_given ∧ St0 Rel fX7_exam fX8_exam ∧ St3 Rel fX7_mark fX8_mark ∧ St1 Rel fX7_middle fX8_middle ∧ St2 Rel fX7_apart fX8_apart ∧ St1 Rel fX7_hard fX8_hard ∧ St1 Rel fX7_tell fX8_tell ∧ St1 Rel fX7_check fX8_check ∧ St1 Rel fX7_count fX8_count ∧ St1 Rel fX7_found fX8_found
theorem y_vin {k j L : Nat} (h : k + 6 ≤ L) (hj : j < 6) (hL : L ≤ 3072) {x3 : Int32} (hx : x3 = nI k) (w : Int32) (hw : w = nI j) : vp_in (x3 + w) L := by
  subst hx; subst hw
  rw [nI_add]
  exact vp_in_nI (by omega) (by omega)
set_option maxHeartbeats 8000000 in
set_option maxRecDepth 100000 in
theorem law_loop {Rel : SS → SS → Prop} (hst : Steps Rel) {p : Program} {l : Launch} {e : Env} {s : State} {m : MethodId} {below : List Frame} {meth : Method} {c : Code} {D : va_G} {cI cZ : ClassId} {adX adM : Nat → Nat} {b L : Nat} {xs : Nat → Int32} (hL : L ≤ 3072) (C : MC p s m #[Value.ref b] meth c cL_law 4 R_law D cI cZ (fun q : Nat => s.heap.size ≤ q) ret) (hX : va_X b L xs s s.heap) (hbl : b < s.heap.size) :
    ∀ (n k : Nat) (x3 : Int32) (SX SM : SS) (H : Heap) (locs : List Loc) (ls : Array Slot), L < k + n → x3 = nI k → k ≤ L → Rel SX SM → WL D (fun q : Nat => s.heap.size ≤ q) s.heap (wW lyX adX cI cZ SX ++ wW lyM adM cI cZ SM) H locs → lv_has ls 4 [(0, .ref b), (1, .ref (adX 0)), (2, .ref (adM 0)), (3, .int x3)] → W p l e room_1 s m #[Value.ref b] below meth c H locs 75 2880 (lw_Z below #[Value.ref b] s) (F0 m 18 ls []) := by
  have hx := C.1
  have hb := C.2.1
  have hbA : ¬ (fun q : Nat => s.heap.size ≤ q) b := Nat.not_le.mpr hbl
  have hR1 : 2048 ≤ room_1.frames := Nat.le_of_ble_eq_true rfl
  have hR2 : 84000 ≤ room_1.locals := Nat.le_of_ble_eq_true rfl
  have hc1 : 75 ≤ room_1.cells := Nat.le_of_ble_eq_true rfl
  have hc2 : 2880 ≤ room_1.slots := Nat.le_of_ble_eq_true rfl
  intro n
  induction n with
  | zero =>
    intro k x3 SX SM H locs ls h1 h2 h3
    omega
  | succ n ih =>
    intro k x3 SX SM H locs ls hk ex hkL hrel hw hl
    refine lv_iload_n hx hb dL_law_18 rfl (lv_at hl 3 rfl) ?_
    refine lv_aload_n hx hb dL_law_19 rfl (lv_at hl 0 rfl) ?_
    refine va_slen hx hb hX hbl hbA hw.2.2 dL_law_20 ?_
    refine lv_bipush (v := 6) hx hb dL_law_21 (by decide) ?_
    refine lv_isub hx hb dL_law_23 ?_
    refine lv_icmp_gt (tgt := 1197) hx hb dL_law_24 (by decide) (fun cc => ?_) (fun cc => ?_)
    · refine lv_iconst (v := 1) hx hb dL_law_1197 (by decide) ?_
      refine va_forget (fun q hq => hw.2.2.2.2 q hq) ?_
      refine W.widen (k := 600000) (n := 7302249) (Nat.le_of_ble_eq_true rfl) (Nat.le_of_ble_eq_true rfl) ?_
      exact lw_ret hx hb C.2.2.2.2.2.2.2.1 C.2.2.2.2.2.2.1 dL_law_1198
    · have hk6 : k + 6 ≤ L := by
        rcases Nat.lt_or_ge (k + 5) L with q | q
        · omega
        · exfalso
          apply cc
          rw [ex, Int32.lt_iff_toInt_lt, nI_toInt (by omega)]
          have e6 : (6 : Int32) = nI 6 := rfl
          have eL : Int32.ofNat L = nI L := rfl
          rw [e6, eL, pk_sub_toInt (by omega) (by omega)]
          omega
      have hi0 : vp_in x3 L := by
        rw [ex]
        exact vp_in_nI (by omega) (by omega)
      have hi1 : vp_in (x3 + 1) L := y_vin hk6 (by decide) hL ex 1 (j := 1) rfl
      have hi2 : vp_in (x3 + 2) L := y_vin hk6 (by decide) hL ex 2 (j := 2) rfl
      have hi3 : vp_in (x3 + 3) L := y_vin hk6 (by decide) hL ex 3 (j := 3) rfl
      have hi4 : vp_in (x3 + 4) L := y_vin hk6 (by decide) hL ex 4 (j := 4) rfl
      have hi5 : vp_in (x3 + 5) L := y_vin hk6 (by decide) hL ex 5 (j := 5) rfl
      have next : ∀ (SX SM : SS) (H : Heap) (locs : List Loc) (ls : Array Slot), Rel SX SM → WL D (fun q : Nat => s.heap.size ≤ q) s.heap (wW lyX adX cI cZ SX ++ wW lyM adM cI cZ SM) H locs → lv_has ls 4 [(0, .ref b), (1, .ref (adX 0)), (2, .ref (adM 0)), (3, .int x3)] → W p l e room_1 s m #[Value.ref b] below meth c H locs 75 2880 (lw_Z below #[Value.ref b] s) (F0 m 1191 ls []) := by
        intro SX SM H locs ls hrel hw hl
        refine lv_iinc (v := (x3 + 6)) (lv' := [(3, .int (x3 + 6)), (0, .ref b), (1, .ref (adX 0)), (2, .ref (adM 0))]) hx hb dL_law_1191 hl (k := 3) rfl rfl (by decide) rfl (fun ls hl => ?_)
        refine lv_goto (tgt := 18) hx hb dL_law_1194 (by decide) ?_
        exact ih (k + 6) (x3 + 6) SX SM H locs ls (by omega) (by rw [ex, show (6 : Int32) = nI 6 from rfl, nI_add]) hk6 hrel hw (lv_sub hl [1, 2, 3, 0] rfl)
      refine lv_aload_n hx hb dL_law_27 rfl (lv_at hl 0 rfl) ?_
      refine lv_iload_n hx hb dL_law_28 rfl (lv_at hl 3 rfl) ?_
      obtain ⟨a0, he0⟩ : ∃ y, xs x3.toNatClampNeg = y := ⟨_, rfl⟩
      refine y_sld C hX hbl hbA hw hi0 he0 dL_law_29 ?_
      refine lv_bipush (v := 31) hx hb dL_law_30 (by decide) ?_
      refine lv_iand hx hb dL_law_32 ?_
      refine lv_topi (fun x _ => ?_)
      rcases Decidable.em (x = 0) with c0 | c0
      · refine lv_tableIn (off := 131) (tgt := 164) hx hb dL_law_33 (by rw [c0]; decide) (by rw [c0]; decide) (by rw [c0]; decide) (by decide) ?_
        exact law_case0 (hst.1) C hX hbl hbA hR1 hR2 hc1 hc2 hi1 hi2 hi3 hrel hw hl next
      rcases Decidable.em (x = 1) with c1 | c1
      · refine lv_tableIn (off := 174) (tgt := 207) hx hb dL_law_33 (by rw [c1]; decide) (by rw [c1]; decide) (by rw [c1]; decide) (by decide) ?_
        exact law_case1 (hst.2.1) C hX hbl hbA hR1 hR2 hc1 hc2 hi1 hi2 hrel hw hl next
      rcases Decidable.em (x = 2) with c2 | c2
      · refine lv_tableIn (off := 207) (tgt := 240) hx hb dL_law_33 (by rw [c2]; decide) (by rw [c2]; decide) (by rw [c2]; decide) (by decide) ?_
        exact law_case2 (hst.2.2.1) C hX hbl hbA hR1 hR2 hc1 hc2 hi1 hi2 hrel hw hl next
      rcases Decidable.em (x = 3) with c3 | c3
      · refine lv_tableIn (off := 240) (tgt := 273) hx hb dL_law_33 (by rw [c3]; decide) (by rw [c3]; decide) (by rw [c3]; decide) (by decide) ?_
        exact law_case3 (hst.2.2.2.1) C hX hbl hbA hR1 hR2 hc1 hc2 hi1 hi2 hi3 hrel hw hl next
      rcases Decidable.em (x = 4) with c4 | c4
      · refine lv_tableIn (off := 283) (tgt := 316) hx hb dL_law_33 (by rw [c4]; decide) (by rw [c4]; decide) (by rw [c4]; decide) (by decide) ?_
        exact law_case4 (hst.2.2.2.2.1) C hX hbl hbA hR1 hR2 hc1 hc2 hi1 hi2 hi3 hi4 hrel hw hl next
      rcases Decidable.em (x = 5) with c5 | c5
      · refine lv_tableIn (off := 336) (tgt := 369) hx hb dL_law_33 (by rw [c5]; decide) (by rw [c5]; decide) (by rw [c5]; decide) (by decide) ?_
        exact law_case5 (hst.2.2.2.2.2.1) C hX hbl hbA hR1 hR2 hc1 hc2 hi1 hi2 hrel hw hl next
      rcases Decidable.em (x = 6) with c6 | c6
      · refine lv_tableIn (off := 369) (tgt := 402) hx hb dL_law_33 (by rw [c6]; decide) (by rw [c6]; decide) (by rw [c6]; decide) (by decide) ?_
        exact law_case6 (hst.2.2.2.2.2.2.1) C hX hbl hbA hR1 hR2 hc1 hc2 hi1 hi2 hi3 hi4 hi5 hrel hw hl next
      rcases Decidable.em (x = 7) with c7 | c7
      · refine lv_tableIn (off := 432) (tgt := 465) hx hb dL_law_33 (by rw [c7]; decide) (by rw [c7]; decide) (by rw [c7]; decide) (by decide) ?_
        exact law_case7 (hst.2.2.2.2.2.2.2.1) C hX hbl hbA hR1 hR2 hc1 hc2 hi1 hi2 hi3 hrel hw hl next
      rcases Decidable.em (x = 8) with c8 | c8
      · refine lv_tableIn (off := 475) (tgt := 508) hx hb dL_law_33 (by rw [c8]; decide) (by rw [c8]; decide) (by rw [c8]; decide) (by decide) ?_
        exact law_case8 (hst.2.2.2.2.2.2.2.2.1) C hX hbl hbA hR1 hR2 hc1 hc2 hi1 hi2 hi3 hi4 hrel hw hl next
      rcases Decidable.em (x = 9) with c9 | c9
      · refine lv_tableIn (off := 528) (tgt := 561) hx hb dL_law_33 (by rw [c9]; decide) (by rw [c9]; decide) (by rw [c9]; decide) (by decide) ?_
        exact law_case9 (hst.2.2.2.2.2.2.2.2.2.1) C hX hbl hbA hR1 hR2 hc1 hc2 hi1 hi2 hi3 hi4 hrel hw hl next
      rcases Decidable.em (x = 10) with c10 | c10
      · refine lv_tableIn (off := 581) (tgt := 614) hx hb dL_law_33 (by rw [c10]; decide) (by rw [c10]; decide) (by rw [c10]; decide) (by decide) ?_
        exact law_case10 (hst.2.2.2.2.2.2.2.2.2.2.1) C hX hbl hbA hR1 hR2 hc1 hc2 hi1 hi2 hi3 hi4 hi5 hrel hw hl next
      rcases Decidable.em (x = 11) with c11 | c11
      · refine lv_tableIn (off := 644) (tgt := 677) hx hb dL_law_33 (by rw [c11]; decide) (by rw [c11]; decide) (by rw [c11]; decide) (by decide) ?_
        exact law_case11 (hst.2.2.2.2.2.2.2.2.2.2.2.1) C hX hbl hbA hR1 hR2 hc1 hc2 hi1 hi2 hi3 hi4 hi5 hrel hw hl next
      rcases Decidable.em (x = 12) with c12 | c12
      · refine lv_tableIn (off := 707) (tgt := 740) hx hb dL_law_33 (by rw [c12]; decide) (by rw [c12]; decide) (by rw [c12]; decide) (by decide) ?_
        exact law_case12 (hst.2.2.2.2.2.2.2.2.2.2.2.2.1) C hX hbl hbA hR1 hR2 hc1 hc2 hi1 hi2 hrel hw hl next
      rcases Decidable.em (x = 13) with c13 | c13
      · refine lv_tableIn (off := 740) (tgt := 773) hx hb dL_law_33 (by rw [c13]; decide) (by rw [c13]; decide) (by rw [c13]; decide) (by decide) ?_
        exact law_case13 (hst.2.2.2.2.2.2.2.2.2.2.2.2.2.1) C hX hbl hbA hR1 hR2 hc1 hc2 hi1 hi2 hrel hw hl next
      rcases Decidable.em (x = 14) with c14 | c14
      · refine lv_tableIn (off := 773) (tgt := 806) hx hb dL_law_33 (by rw [c14]; decide) (by rw [c14]; decide) (by rw [c14]; decide) (by decide) ?_
        exact law_case14 (hst.2.2.2.2.2.2.2.2.2.2.2.2.2.2.1) C hX hbl hbA hR1 hR2 hc1 hc2 hi1 hi2 hi3 hrel hw hl next
      rcases Decidable.em (x = 15) with c15 | c15
      · refine lv_tableIn (off := 816) (tgt := 849) hx hb dL_law_33 (by rw [c15]; decide) (by rw [c15]; decide) (by rw [c15]; decide) (by decide) ?_
        exact law_case15 (hst.2.2.2.2.2.2.2.2.2.2.2.2.2.2.2.1) C hX hbl hbA hR1 hR2 hc1 hc2  hrel hw hl next
      rcases Decidable.em (x = 16) with c16 | c16
      · refine lv_tableIn (off := 829) (tgt := 862) hx hb dL_law_33 (by rw [c16]; decide) (by rw [c16]; decide) (by rw [c16]; decide) (by decide) ?_
        exact law_case16 (hst.2.2.2.2.2.2.2.2.2.2.2.2.2.2.2.2.1) C hX hbl hbA hR1 hR2 hc1 hc2 hi1 hrel hw hl next
      rcases Decidable.em (x = 17) with c17 | c17
      · refine lv_tableIn (off := 852) (tgt := 885) hx hb dL_law_33 (by rw [c17]; decide) (by rw [c17]; decide) (by rw [c17]; decide) (by decide) ?_
        exact law_case17 (hst.2.2.2.2.2.2.2.2.2.2.2.2.2.2.2.2.2.1) C hX hbl hbA hR1 hR2 hc1 hc2  hrel hw hl next
      rcases Decidable.em (x = 18) with c18 | c18
      · refine lv_tableIn (off := 865) (tgt := 898) hx hb dL_law_33 (by rw [c18]; decide) (by rw [c18]; decide) (by rw [c18]; decide) (by decide) ?_
        exact law_case18 (hst.2.2.2.2.2.2.2.2.2.2.2.2.2.2.2.2.2.2.1) C hX hbl hbA hR1 hR2 hc1 hc2 hi1 hi2 hi3 hrel hw hl next
      rcases Decidable.em (x = 19) with c19 | c19
      · refine lv_tableIn (off := 908) (tgt := 941) hx hb dL_law_33 (by rw [c19]; decide) (by rw [c19]; decide) (by rw [c19]; decide) (by decide) ?_
        exact law_case19 (hst.2.2.2.2.2.2.2.2.2.2.2.2.2.2.2.2.2.2.2.1) C hX hbl hbA hR1 hR2 hc1 hc2 hi1 hrel hw hl next
      rcases Decidable.em (x = 20) with c20 | c20
      · refine lv_tableIn (off := 931) (tgt := 964) hx hb dL_law_33 (by rw [c20]; decide) (by rw [c20]; decide) (by rw [c20]; decide) (by decide) ?_
        exact law_case20 (hst.2.2.2.2.2.2.2.2.2.2.2.2.2.2.2.2.2.2.2.2.1) C hX hbl hbA hR1 hR2 hc1 hc2  hrel hw hl next
      rcases Decidable.em (x = 21) with c21 | c21
      · refine lv_tableIn (off := 944) (tgt := 977) hx hb dL_law_33 (by rw [c21]; decide) (by rw [c21]; decide) (by rw [c21]; decide) (by decide) ?_
        exact law_case21 (hst.2.2.2.2.2.2.2.2.2.2.2.2.2.2.2.2.2.2.2.2.2.1) C hX hbl hbA hR1 hR2 hc1 hc2 hi1 hi2 hi3 hrel hw hl next
      rcases Decidable.em (x = 22) with c22 | c22
      · refine lv_tableIn (off := 987) (tgt := 1020) hx hb dL_law_33 (by rw [c22]; decide) (by rw [c22]; decide) (by rw [c22]; decide) (by decide) ?_
        exact law_case22 (hst.2.2.2.2.2.2.2.2.2.2.2.2.2.2.2.2.2.2.2.2.2.2.1) C hX hbl hbA hR1 hR2 hc1 hc2 hi1 hrel hw hl next
      rcases Decidable.em (x = 23) with c23 | c23
      · refine lv_tableIn (off := 1010) (tgt := 1043) hx hb dL_law_33 (by rw [c23]; decide) (by rw [c23]; decide) (by rw [c23]; decide) (by decide) ?_
        exact law_case23 (hst.2.2.2.2.2.2.2.2.2.2.2.2.2.2.2.2.2.2.2.2.2.2.2.1) C hX hbl hbA hR1 hR2 hc1 hc2 hi1 hi2 hrel hw hl next
      rcases Decidable.em (x = 24) with c24 | c24
      · refine lv_tableIn (off := 1043) (tgt := 1076) hx hb dL_law_33 (by rw [c24]; decide) (by rw [c24]; decide) (by rw [c24]; decide) (by decide) ?_
        exact law_case24 (hst.2.2.2.2.2.2.2.2.2.2.2.2.2.2.2.2.2.2.2.2.2.2.2.2.1) C hX hbl hbA hR1 hR2 hc1 hc2 hi1 hrel hw hl next
      rcases Decidable.em (x = 25) with c25 | c25
      · refine lv_tableIn (off := 1066) (tgt := 1099) hx hb dL_law_33 (by rw [c25]; decide) (by rw [c25]; decide) (by rw [c25]; decide) (by decide) ?_
        exact law_case25 (hst.2.2.2.2.2.2.2.2.2.2.2.2.2.2.2.2.2.2.2.2.2.2.2.2.2.1) C hX hbl hbA hR1 hR2 hc1 hc2 hi1 hrel hw hl next
      rcases Decidable.em (x = 26) with c26 | c26
      · refine lv_tableIn (off := 1089) (tgt := 1122) hx hb dL_law_33 (by rw [c26]; decide) (by rw [c26]; decide) (by rw [c26]; decide) (by decide) ?_
        exact law_case26 (hst.2.2.2.2.2.2.2.2.2.2.2.2.2.2.2.2.2.2.2.2.2.2.2.2.2.2.1) C hX hbl hbA hR1 hR2 hc1 hc2 hi1 hrel hw hl next
      rcases Decidable.em (x = 27) with c27 | c27
      · refine lv_tableIn (off := 1112) (tgt := 1145) hx hb dL_law_33 (by rw [c27]; decide) (by rw [c27]; decide) (by rw [c27]; decide) (by decide) ?_
        exact law_case27 (hst.2.2.2.2.2.2.2.2.2.2.2.2.2.2.2.2.2.2.2.2.2.2.2.2.2.2.2.1) C hX hbl hbA hR1 hR2 hc1 hc2 hi1 hrel hw hl next
      rcases Decidable.em (x = 28) with c28 | c28
      · refine lv_tableIn (off := 1135) (tgt := 1168) hx hb dL_law_33 (by rw [c28]; decide) (by rw [c28]; decide) (by rw [c28]; decide) (by decide) ?_
        exact law_case28 (hst.2.2.2.2.2.2.2.2.2.2.2.2.2.2.2.2.2.2.2.2.2.2.2.2.2.2.2.2) C hX hbl hbA hR1 hR2 hc1 hc2 hi1 hrel hw hl next
      have hsw : x.toInt < 0 ∨ 28 < x.toInt := by
        have z0 := ne_ti c0
        have z1 := ne_ti c1
        have z2 := ne_ti c2
        have z3 := ne_ti c3
        have z4 := ne_ti c4
        have z5 := ne_ti c5
        have z6 := ne_ti c6
        have z7 := ne_ti c7
        have z8 := ne_ti c8
        have z9 := ne_ti c9
        have z10 := ne_ti c10
        have z11 := ne_ti c11
        have z12 := ne_ti c12
        have z13 := ne_ti c13
        have z14 := ne_ti c14
        have z15 := ne_ti c15
        have z16 := ne_ti c16
        have z17 := ne_ti c17
        have z18 := ne_ti c18
        have z19 := ne_ti c19
        have z20 := ne_ti c20
        have z21 := ne_ti c21
        have z22 := ne_ti c22
        have z23 := ne_ti c23
        have z24 := ne_ti c24
        have z25 := ne_ti c25
        have z26 := ne_ti c26
        have z27 := ne_ti c27
        have z28 := ne_ti c28
        simp only [show (0 : Int32).toInt = 0 from rfl, show (1 : Int32).toInt = 1 from rfl, show (2 : Int32).toInt = 2 from rfl, show (3 : Int32).toInt = 3 from rfl, show (4 : Int32).toInt = 4 from rfl, show (5 : Int32).toInt = 5 from rfl, show (6 : Int32).toInt = 6 from rfl, show (7 : Int32).toInt = 7 from rfl, show (8 : Int32).toInt = 8 from rfl, show (9 : Int32).toInt = 9 from rfl, show (10 : Int32).toInt = 10 from rfl, show (11 : Int32).toInt = 11 from rfl, show (12 : Int32).toInt = 12 from rfl, show (13 : Int32).toInt = 13 from rfl, show (14 : Int32).toInt = 14 from rfl, show (15 : Int32).toInt = 15 from rfl, show (16 : Int32).toInt = 16 from rfl, show (17 : Int32).toInt = 17 from rfl, show (18 : Int32).toInt = 18 from rfl, show (19 : Int32).toInt = 19 from rfl, show (20 : Int32).toInt = 20 from rfl, show (21 : Int32).toInt = 21 from rfl, show (22 : Int32).toInt = 22 from rfl, show (23 : Int32).toInt = 23 from rfl, show (24 : Int32).toInt = 24 from rfl, show (25 : Int32).toInt = 25 from rfl, show (26 : Int32).toInt = 26 from rfl, show (27 : Int32).toInt = 27 from rfl, show (28 : Int32).toInt = 28 from rfl] at z0 z1 z2 z3 z4 z5 z6 z7 z8 z9 z10 z11 z12 z13 z14 z15 z16 z17 z18 z19 z20 z21 z22 z23 z24 z25 z26 z27 z28
        omega
      refine lv_tableOut (tgt := 1191) hx hb dL_law_33 hsw (by decide) ?_
      exact next SX SM H locs ls hrel hw hl
