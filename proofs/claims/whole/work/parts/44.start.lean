theorem tl1 {w : Cond} (i : Nat) (h : tables_1_1[i]? = some w) : w ∈ lw_tbl := List.mem_append_right _ (List.mem_append_left _ (List.mem_of_getElem? h))
def PC (S Sz : SS) : Prop := Sz.1 = S.1 ∧ ∀ j, j ≠ 6 → Sz.2 j = S.2 j
theorem fC_k95 {kf : SS → Int32 → Option SS} {Sz : SS} (hk : ∀ S x, kf S x = some Sz → PC S Sz) : ∀ n S x1 x2, fC_b95 kf n S x1 x2 = some Sz → PC S Sz := by
  intro n
  induction n with
  | zero =>
    intro S x1 x2 h
    rw [fC_b95] at h
    cases h
  | succ n ih =>
    intro S x1 x2 h
    rw [fC_b95] at h
    by_cases c : (10 : Int32) < x2
    · exact hk _ _ ((it_d h).1 c)
    · obtain ⟨S1, hv, h⟩ := bb_some ((it_d h).2 c)
      obtain ⟨-, rfl⟩ := pA_some hv
      obtain ⟨h1, h2⟩ := ih _ _ _ h
      exact ⟨h1, fun j hj => (h2 j hj).trans (if_neg hj)⟩
theorem fC_k88 {N : Nat} {Sz : SS} : ∀ n S x1, fC_b88 N n S x1 = some Sz → PC S Sz := by
  intro n
  induction n with
  | zero =>
    intro S x1 h
    rw [fC_b88] at h
    cases h
  | succ n ih =>
    intro S x1 h
    rw [fC_b88] at h
    by_cases c : (3 : Int32) ≤ x1
    · have h := (it_d h).1 c
      cases h
      exact ⟨rfl, fun _ _ => rfl⟩
    · exact fC_k95 (fun S x h => ih S x h) N S x1 1 ((it_d h).2 c)
def fCv : Nat → Int32 := ((fC_b88 100 100 S00 0).getD S00).2 6
def SX0 : SS := (fun _ => 0, fun q => if q = 22 then fCv else fun _ => 0)
theorem fC_is {S1 : SS} (h : fC_b88 100 100 S00 0 = some S1) : S1 = (fun _ => 0, fun j => if j = 6 then fCv else fun _ => 0) := by
  obtain ⟨h1, h2⟩ := fC_k88 _ _ _ h
  have h3 : S1.2 6 = fCv := by
    unfold fCv
    rw [h]
    rfl
  refine Prod.ext h1 ?_
  funext j
  by_cases c : j = 6
  · subst c
    rw [h3]
    rfl
  · rw [h2 j c]
    show _ = if j = 6 then fCv else _
    rw [if_neg c]
    rfl
-- the start
theorem ar_of {s : State} {args : Array Value} {ty : FieldType} (h : (Cond.arrayClass ty).before args s = true) (hr : ∀ cA : ClassId, s.vm.findClass ("[" ++ ty.toString) = some cA → va_RA s cA ty) : ∃ cA, ArrOfT s cA ty ∧ va_RA s cA ty := by
  obtain ⟨cA, kA, comp, h1, h2, h3⟩ := Cond.arrayClass_spec h
  exact ⟨cA, fun n z => ⟨fun k h => (by cases h), kA, h2, comp, h3⟩, hr cA h1⟩
theorem wl_sub {D : va_G} {A : Nat → Prop} {H0 H : Heap} {locs : List Loc} {ws ws' : va_W} (h : WL D A H0 ws H locs) (is : List Nat) (hn : va_nd is = true) (hs : is.filterMap (fun i => ws[i]?) = ws') (hm : is.map (fun i => ws[i]?) = ws'.map some) : WL D A H0 ws' H locs := ⟨h.1.sub is hs, h.2.1.sub is hn hm, h.2.2⟩
set_option maxHeartbeats 8000000 in
set_option maxRecDepth 100000 in
theorem law_start {Rel : SS → SS → Prop} (hst : Steps Rel) (h0 : Rel SX0 S00) {p : Program} {e : Env} {s : State} {m : MethodId} {below : List Frame} {meth : Method} {c : Code} (l : Launch) {b L : Nat} {xs : Nat → Int32} (hL : L ≤ 3072) (C0 : lw_At p s m meth c b L xs) : W p l e room_1 s m #[Value.ref b] below meth c s.heap [] 0 0 (lw_Z below #[Value.ref b] s) (entryFrame m ([Value.ref b] : List Value).toArray 4) := by
  obtain ⟨hx, hb, hr, hml, hown, hts0, hX, hbl, hlocks, hgv⟩ := C0
  have hts : ∀ w ∈ TB, w.before #[Value.ref b] s = true := fun w h => hts0 w (TB_l h)
  have hN : NA s := ⟨va_Nw.of (A := #[Value.ref b]) rfl (hts0 _ (tl1 23 rfl)), va_Nw.of (A := #[Value.ref b]) rfl (hts0 _ (tl1 29 rfl)), va_Nw.of (A := #[Value.ref b]) rfl (hts0 _ (tl1 69 rfl)), va_Nw.of (A := #[Value.ref b]) rfl (hts0 _ (tl1 109 rfl)), va_Nw.of (A := #[Value.ref b]) rfl (hts0 _ (tl1 190 rfl)), va_Nw.of (A := #[Value.ref b]) rfl (hts0 _ (tl1 221 rfl))⟩
  obtain ⟨c0, iS0, hKn0⟩ := u_known (C := RX0) (T := TX0) (N := 3) (n := 3) hts tbX0 (hts (.instantiable RX0 3) (tb1 22 rfl rfl))
  obtain ⟨c1, iS1, hKn1⟩ := u_known (C := RX1) (T := TX1) (N := 7) (n := 7) hts tbX1 (hts (.instantiable RX1 7) (tb1 189 rfl rfl))
  obtain ⟨c2, iS2, hKn2⟩ := u_known (C := RX2) (T := TX2) (N := 11) (n := 11) hts tbX2 (hts (.instantiable RX2 11) (tb1 102 rfl rfl))
  obtain ⟨c3, iS3, hKn3⟩ := u_known (C := RX3) (T := TX3) (N := 4) (n := 4) hts tbX3 (hts (.instantiable RX3 4) (tb1 220 rfl rfl))
  obtain ⟨c4, iS4, hKn4⟩ := u_known (C := RX4) (T := TX4) (N := 7) (n := 7) hts tbX4 (hts (.instantiable RX4 7) (tb1 28 rfl rfl))
  obtain ⟨c5, iS5, hKn5⟩ := u_known (C := RX5) (T := TX5) (N := 7) (n := 7) hts tbX5 (hts (.instantiable RX5 7) (tb1 68 rfl rfl))
  obtain ⟨c6, iS6, hKn6⟩ := u_known (C := RX6) (T := TX6) (N := 4) (n := 4) hts tbX6 (hts (.instantiable RX6 4) (tb1 108 rfl rfl))
  obtain ⟨c7, iS7, hKn7⟩ := u_known (C := RX7) (T := TX7) (N := 6) (n := 6) hts tbX7 (hts (.instantiable RX7 6) (tb1 14 rfl rfl))
  obtain ⟨c8, iS8, hKn8⟩ := u_known (C := RX8) (T := TX8) (N := 44) (n := 44) hts tbX8 (hts (.instantiable RX8 44) (tb3 127 rfl rfl))
  obtain ⟨cI, hI1, hI2⟩ := ar_of (hts _ arI) (fun cA h => h)
  obtain ⟨cZ, hZ1, hZ2⟩ := ar_of (hts _ arZ) (fun cA h => h)
  obtain ⟨D, hK⟩ : ∃ D : va_G, va_K D vwCl (tyL cI cZ) s := by
    refine ⟨(fun k => [c0, c1, c2, c3, c4, c5, c6, c7, c8].getD k 0, fun k => [iS0, iS1, iS2, iS3, iS4, iS5, iS6, iS7, iS8].getD k (fun _ => 0)), ?_, ?_⟩
    · intro k q hq
      match k, hq with
      | 0, hq => cases hq; exact hKn0
      | 1, hq => cases hq; exact hKn1
      | 2, hq => cases hq; exact hKn2
      | 3, hq => cases hq; exact hKn3
      | 4, hq => cases hq; exact hKn4
      | 5, hq => cases hq; exact hKn5
      | 6, hq => cases hq; exact hKn6
      | 7, hq => cases hq; exact hKn7
      | 8, hq => cases hq; exact hKn8
      | k + 9, hq => simp at hq
    · intro k q hq
      match k, hq with
      | 0, hq => cases hq; exact ⟨hI1, hI2⟩
      | 1, hq => cases hq; exact ⟨hZ1, hZ2⟩
      | k + 2, hq => simp at hq
  have C : MC p s m #[Value.ref b] meth c cL_law 4 R_law D cI cZ (fun q : Nat => s.heap.size ≤ q) ret := ⟨hx, hb, hml, hown, hts, hK, hlocks, hr, fun _ h => h⟩
  have hw : WL D (fun q : Nat => s.heap.size ≤ q) s.heap [] s.heap [] := ⟨fun k q h => by simp at h, ⟨fun i j p q h => by simp at h, fun k q h => by simp at h⟩, va_S.rf⟩
  have hl := lv_entry ([.ref b]) (n := 4) (Nat.le_of_ble_eq_true rfl)
  rw [lg_entry_eq]
  generalize (lg_sl ([.ref b]) ++ List.replicate (4 - (lg_sl ([.ref b])).length) Slot.unset).toArray = ls at hl ⊢
  have hl : lv_has ls 4 [(0, .ref b)] := hl
  refine z_new (ci := 7) (fs := [.null, .null, .null, .null, .null, .int 0]) (tyf := tyX7) C hw tbX7 tyX7_ok (tb1 13 rfl rfl) (tb1 14 rfl rfl) (tb1 1 rfl rfl) rfl (fun j hj => by revert j; decide +kernel) (Nat.le_of_ble_eq_true rfl) (Nat.le_of_ble_eq_true rfl) dL_law_0 (fun hq H hw => ?_)
  refine W.widen (k := 1) (n := 6) (by decide) (by decide) ?_
  refine lv_dup hx hb dL_law_3 rfl ?_
  refine z_ctor C hN hw mX7_init (tb1 17 rfl rfl) (tb1 1 rfl rfl) (tb1 15 rfl rfl) ⟨by decide +kernel, by decide +kernel, by decide +kernel⟩ rfl (tb1 16 rfl rfl) (by decide) (Nat.le_of_ble_eq_true rfl) (Nat.le_of_ble_eq_true rfl) hl.1 (Nat.le_of_ble_eq_true rfl) (Nat.le_of_ble_eq_true rfl) (Nat.le_of_ble_eq_true rfl) dL_law_4 (fun uX H locs hpX hw => ?_)
  refine W.widen (k := 41) (n := 1455) (by decide) (by decide) ?_
  have hw : WL D (fun q : Nat => s.heap.size ≤ q) s.heap uX H locs := hw
  refine lv_astore_n (lv' := [(1, .ref hq), (0, .ref b)]) hx hb dL_law_7 rfl hl (by decide) rfl (fun ls hl => ?_)
  refine z_new (ci := 8) (fs := [.int 0, .int 0, .null, .null, .null, .null, .null, .null, .null, .int 0, .null, .null, .null, .null, .null, .null, .int 0, .null, .null, .null, .null, .null, .int 0, .null, .null, .null, .int 0, .null, .int 0, .null, .int 0, .null, .null, .null, .int 0, .null, .null, .null, .int 0, .null, .null, .null, .null, .int 0]) (tyf := tyX8) C hw tbX8 tyX8_ok (tb3 126 rfl rfl) (tb3 127 rfl rfl) (tb1 9 rfl rfl) rfl (fun j hj => by revert j; decide +kernel) (Nat.le_of_ble_eq_true rfl) (Nat.le_of_ble_eq_true rfl) dL_law_8 (fun hq2 H hw => ?_)
  refine W.widen (k := 42) (n := 1499) (by decide) (by decide) ?_
  refine lv_dup hx hb dL_law_11 rfl ?_
  refine z_ctor C hN hw mX8_init (tb3 130 rfl rfl) (tb1 9 rfl rfl) (tb3 128 rfl rfl) ⟨by decide +kernel, by decide +kernel, by decide +kernel⟩ rfl (tb3 129 rfl rfl) (by decide) (Nat.le_of_ble_eq_true rfl) (Nat.le_of_ble_eq_true rfl) hl.1 (Nat.le_of_ble_eq_true rfl) (Nat.le_of_ble_eq_true rfl) (Nat.le_of_ble_eq_true rfl) dL_law_12 (fun uM H locs hpM hw => ?_)
  refine W.widen (k := 75) (n := 2880) (by decide) (by decide) ?_
  refine lv_astore_n (lv' := [(2, .ref hq2), (1, .ref hq), (0, .ref b)]) hx hb dL_law_15 rfl hl (by decide) rfl (fun ls hl => ?_)
  refine lv_iconst (v := 0) hx hb dL_law_16 (by decide) ?_
  refine lv_istore_n (lv' := [(3, .int 0), (2, .ref hq2), (1, .ref hq), (0, .ref b)]) hx hb dL_law_17 rfl hl (by decide) rfl (fun ls hl => ?_)
  have hl : lv_has ls 4 [(0, .ref b), (1, .ref hq), (2, .ref hq2), (3, .int 0)] := lv_sub hl [3, 2, 1, 0] rfl
  obtain ⟨X7_q1, X7_q2, X7_q3, X7_u1, X7_u2, X7_u3, X7_q4, X7_q5, X7_h1, X7_h2, X7_h3, rfl⟩ := hpX
  obtain ⟨X0_q1, X0_q2, X0_q3, X0_u1, X0_u2, X0_u3, X0_h1, X0_h2, X0_h3, rfl⟩ := X7_h1
  obtain ⟨X4_q1, X4_q2, X4_q3, X4_q4, X4_q5, rfl⟩ := X0_h1
  obtain ⟨X5_q1, X5_q2, X5_q3, X5_q4, X5_q5, X5_q6, rfl⟩ := X0_h2
  obtain ⟨ad2, S2, rfl, hS2, rfl⟩ := X0_h3
  obtain ⟨X1_q1, X1_q2, X1_q3, X1_q4, X1_q5, rfl⟩ := X7_h2
  obtain ⟨X3_q1, X3_q2, X3_q3, rfl⟩ := X7_h3
  obtain ⟨X8_q1, X8_q2, X8_q3, X8_q4, X8_q5, X8_q6, X8_q7, X8_q8, X8_q9, X8_q10, X8_q11, X8_q12, X8_q13, X8_q14, X8_q15, X8_q16, X8_q17, X8_q18, X8_q19, X8_q20, X8_q21, X8_q22, X8_q23, X8_q24, X8_q25, X8_q26, X8_q27, X8_q28, X8_q29, X8_q30, X8_q31, X8_q32, X8_q33, rfl⟩ := hpM
  obtain rfl := fC_is hS2
  have hw := wl_sub (ws' := wW lyX (fun i => ([hq, X7_q1, X0_q1, X0_q2, ad2 0, ad2 1, X7_q2, X7_q3, X7_q4, X7_q5, X4_q1, X4_q2, X4_q3, X4_q4, X4_q5, X5_q1, X5_q2, X5_q3, X5_q4, X5_q5, X5_q6, ad2 5, ad2 6, ad2 7, ad2 8, ad2 9, ad2 10, ad2 11, ad2 12, ad2 13, ad2 2, ad2 3, ad2 4, X1_q1, X1_q2, X1_q3, X1_q4, X1_q5, X3_q1, X3_q2, X3_q3] : List Nat).getD i 0) cI cZ SX0 ++ wW lyM (fun i => ([hq2, X8_q1, X8_q2, X8_q3, X8_q4, X8_q5, X8_q6, X8_q7, X8_q8, X8_q9, X8_q10, X8_q11, X8_q12, X8_q13, X8_q14, X8_q15, X8_q16, X8_q17, X8_q18, X8_q19, X8_q20, X8_q21, X8_q22, X8_q23, X8_q24, X8_q25, X8_q26, X8_q27, X8_q28, X8_q29, X8_q30, X8_q31, X8_q32, X8_q33] : List Nat).getD i 0) cI cZ S00) hw [0, 1, 2, 8, 15, 16, 29, 35, 39, 40, 3, 4, 5, 6, 7, 9, 10, 11, 12, 13, 14, 20, 21, 22, 23, 24, 25, 26, 27, 28, 17, 18, 19, 30, 31, 32, 33, 34, 36, 37, 38, 41, 42, 43, 44, 45, 46, 47, 48, 49, 50, 51, 52, 53, 54, 55, 56, 57, 58, 59, 60, 61, 62, 63, 64, 65, 66, 67, 68, 69, 70, 71, 72, 73, 74] (by decide +kernel) rfl rfl
  exact law_loop hst hL C hX hbl (L + 1) 0 0 SX0 S00 H locs ls (by omega) nI_0.symm (Nat.zero_le _) h0 hw hl
