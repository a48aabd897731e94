set_option maxHeartbeats 4000000 in
set_option maxRecDepth 100000 in
theorem law_case15 {Rel : SS → SS → Prop} (hst : St0 Rel fX7_unstrike fX8_unstrike) {p : Program} {l : Launch} {e : Env} {R : Room} {s : State} {m : MethodId} {args : Array Value} {below : List Frame} {meth : Method} {c : Code} {cells slots : Nat} {Q : State → Prop} {D : va_G} {cI cZ : ClassId} {A : Nat → Prop} {adX adM : Nat → Nat} {b L : Nat} {xs : Nat → Int32} {x3 : Int32} {SX SM : SS} (C : MC p s m args meth c cL_law 4 R_law D cI cZ A ret) (hX : va_X b L xs s s.heap) (hbl : b < s.heap.size) (hbA : ¬ A b) (hR1 : 2048 ≤ R.frames) (hR2 : 84000 ≤ R.locals) (hc1 : cells ≤ R.cells) (hc2 : slots ≤ R.slots) (hrel : Rel SX SM) {H : Heap} {locs : List Loc} {ls : Array Slot} (hw : WL D A s.heap (wW lyX adX cI cZ SX ++ wW lyM adM cI cZ SM) H locs) (hl : lv_has ls 4 [(0, .ref b), (1, .ref (adX 0)), (2, .ref (adM 0)), (3, .int x3)])
    (next : ∀ (SX SM : SS) (H : Heap) (locs : List Loc) (ls : Array Slot), Rel SX SM → WL D A s.heap (wW lyX adX cI cZ SX ++ wW lyM adM cI cZ SM) H locs → lv_has ls 4 [(0, .ref b), (1, .ref (adX 0)), (2, .ref (adM 0)), (3, .int x3)] → W p l e R s m args below meth c H locs cells slots Q (F0 m 1191 ls [])) : W p l e R s m args below meth c H locs cells slots Q (F0 m 849 ls []) := by
  have hx := C.1
  have hb := C.2.1
  obtain ⟨r, SX1, SM1, hx1, hm1, hrel⟩ := hst SX SM hrel 
  refine lv_aload_n hx hb dL_law_849 rfl (lv_at hl 1 rfl) ?_
  have hw := y_swap hw
  refine y_callV C hw (mX7_unstrike hx1) lkL_77 rfl (Nat.le_trans (Nat.le_of_ble_eq_true rfl) hR1) (Nat.le_trans (Nat.le_of_ble_eq_true rfl) hR2) hl.1 rfl (Nat.le_of_ble_eq_true rfl) hc1 hc2 dL_law_850 (fun H locs hw => ?_)
  have hw := y_swap hw
  refine lv_aload_n hx hb dL_law_853 rfl (lv_at hl 2 rfl) ?_
  refine y_callV C hw (mX8_unstrike hm1) lkL_81 rfl (Nat.le_trans (Nat.le_of_ble_eq_true rfl) hR1) (Nat.le_trans (Nat.le_of_ble_eq_true rfl) hR2) hl.1 rfl (Nat.le_of_ble_eq_true rfl) hc1 hc2 dL_law_854 (fun H locs hw => ?_)
  refine lv_icmp_eq (tgt := 1191) hx hb dL_law_857 (by decide) (fun c => ?_) (fun c => absurd rfl c)
  exact next SX1 SM1 H locs ls hrel hw hl
set_option maxHeartbeats 4000000 in
set_option maxRecDepth 100000 in
theorem law_case16 {Rel : SS → SS → Prop} (hst : St1 Rel fX7_wait fX8_wait) {p : Program} {l : Launch} {e : Env} {R : Room} {s : State} {m : MethodId} {args : Array Value} {below : List Frame} {meth : Method} {c : Code} {cells slots : Nat} {Q : State → Prop} {D : va_G} {cI cZ : ClassId} {A : Nat → Prop} {adX adM : Nat → Nat} {b L : Nat} {xs : Nat → Int32} {x3 : Int32} {SX SM : SS} (C : MC p s m args meth c cL_law 4 R_law D cI cZ A ret) (hX : va_X b L xs s s.heap) (hbl : b < s.heap.size) (hbA : ¬ A b) (hR1 : 2048 ≤ R.frames) (hR2 : 84000 ≤ R.locals) (hc1 : cells ≤ R.cells) (hc2 : slots ≤ R.slots) (hi1 : vp_in (x3 + 1) L) (hrel : Rel SX SM) {H : Heap} {locs : List Loc} {ls : Array Slot} (hw : WL D A s.heap (wW lyX adX cI cZ SX ++ wW lyM adM cI cZ SM) H locs) (hl : lv_has ls 4 [(0, .ref b), (1, .ref (adX 0)), (2, .ref (adM 0)), (3, .int x3)])
    (next : ∀ (SX SM : SS) (H : Heap) (locs : List Loc) (ls : Array Slot), Rel SX SM → WL D A s.heap (wW lyX adX cI cZ SX ++ wW lyM adM cI cZ SM) H locs → lv_has ls 4 [(0, .ref b), (1, .ref (adX 0)), (2, .ref (adM 0)), (3, .int x3)] → W p l e R s m args below meth c H locs cells slots Q (F0 m 1191 ls [])) : W p l e R s m args below meth c H locs cells slots Q (F0 m 862 ls []) := by
  have hx := C.1
  have hb := C.2.1
  obtain ⟨a1, he1⟩ : ∃ y, xs (x3 + 1).toNatClampNeg = y := ⟨_, rfl⟩
  obtain ⟨r, SX1, SM1, hx1, hm1, hrel⟩ := hst SX SM hrel a1
  refine lv_aload_n hx hb dL_law_862 rfl (lv_at hl 1 rfl) ?_
  refine lv_aload_n hx hb dL_law_863 rfl (lv_at hl 0 rfl) ?_
  refine lv_iload_n hx hb dL_law_864 rfl (lv_at hl 3 rfl) ?_
  refine lv_iconst (v := 1) hx hb dL_law_865 (by decide) ?_
  refine lv_iadd hx hb dL_law_866 ?_
  refine y_sld C hX hbl hbA hw hi1 he1 dL_law_867 ?_
  have hw := y_swap hw
  refine y_callV C hw (mX7_wait hx1) lkL_82 rfl (Nat.le_trans (Nat.le_of_ble_eq_true rfl) hR1) (Nat.le_trans (Nat.le_of_ble_eq_true rfl) hR2) hl.1 rfl (Nat.le_of_ble_eq_true rfl) hc1 hc2 dL_law_868 (fun H locs hw => ?_)
  have hw := y_swap hw
  refine lv_aload_n hx hb dL_law_871 rfl (lv_at hl 2 rfl) ?_
  refine lv_aload_n hx hb dL_law_872 rfl (lv_at hl 0 rfl) ?_
  refine lv_iload_n hx hb dL_law_873 rfl (lv_at hl 3 rfl) ?_
  refine lv_iconst (v := 1) hx hb dL_law_874 (by decide) ?_
  refine lv_iadd hx hb dL_law_875 ?_
  refine y_sld C hX hbl hbA hw hi1 he1 dL_law_876 ?_
  refine y_callV C hw (mX8_wait hm1) lkL_86 rfl (Nat.le_trans (Nat.le_of_ble_eq_true rfl) hR1) (Nat.le_trans (Nat.le_of_ble_eq_true rfl) hR2) hl.1 rfl (Nat.le_of_ble_eq_true rfl) hc1 hc2 dL_law_877 (fun H locs hw => ?_)
  refine lv_icmp_eq (tgt := 1191) hx hb dL_law_880 (by decide) (fun c => ?_) (fun c => absurd rfl c)
  exact next SX1 SM1 H locs ls hrel hw hl
set_option maxHeartbeats 4000000 in
set_option maxRecDepth 100000 in
theorem law_case17 {Rel : SS → SS → Prop} (hst : St0 Rel fX7_go fX8_go) {p : Program} {l : Launch} {e : Env} {R : Room} {s : State} {m : MethodId} {args : Array Value} {below : List Frame} {meth : Method} {c : Code} {cells slots : Nat} {Q : State → Prop} {D : va_G} {cI cZ : ClassId} {A : Nat → Prop} {adX adM : Nat → Nat} {b L : Nat} {xs : Nat → Int32} {x3 : Int32} {SX SM : SS} (C : MC p s m args meth c cL_law 4 R_law D cI cZ A ret) (hX : va_X b L xs s s.heap) (hbl : b < s.heap.size) (hbA : ¬ A b) (hR1 : 2048 ≤ R.frames) (hR2 : 84000 ≤ R.locals) (hc1 : cells ≤ R.cells) (hc2 : slots ≤ R.slots) (hrel : Rel SX SM) {H : Heap} {locs : List Loc} {ls : Array Slot} (hw : WL D A s.heap (wW lyX adX cI cZ SX ++ wW lyM adM cI cZ SM) H locs) (hl : lv_has ls 4 [(0, .ref b), (1, .ref (adX 0)), (2, .ref (adM 0)), (3, .int x3)])
    (next : ∀ (SX SM : SS) (H : Heap) (locs : List Loc) (ls : Array Slot), Rel SX SM → WL D A s.heap (wW lyX adX cI cZ SX ++ wW lyM adM cI cZ SM) H locs → lv_has ls 4 [(0, .ref b), (1, .ref (adX 0)), (2, .ref (adM 0)), (3, .int x3)] → W p l e R s m args below meth c H locs cells slots Q (F0 m 1191 ls [])) : W p l e R s m args below meth c H locs cells slots Q (F0 m 885 ls []) := by
  have hx := C.1
  have hb := C.2.1
  obtain ⟨r, SX1, SM1, hx1, hm1, hrel⟩ := hst SX SM hrel 
  refine lv_aload_n hx hb dL_law_885 rfl (lv_at hl 1 rfl) ?_
  have hw := y_swap hw
  refine y_callV C hw (mX7_go hx1) lkL_87 rfl (Nat.le_trans (Nat.le_of_ble_eq_true rfl) hR1) (Nat.le_trans (Nat.le_of_ble_eq_true rfl) hR2) hl.1 rfl (Nat.le_of_ble_eq_true rfl) hc1 hc2 dL_law_886 (fun H locs hw => ?_)
  have hw := y_swap hw
  refine lv_aload_n hx hb dL_law_889 rfl (lv_at hl 2 rfl) ?_
  refine y_callV C hw (mX8_go hm1) lkL_90 rfl (Nat.le_trans (Nat.le_of_ble_eq_true rfl) hR1) (Nat.le_trans (Nat.le_of_ble_eq_true rfl) hR2) hl.1 rfl (Nat.le_of_ble_eq_true rfl) hc1 hc2 dL_law_890 (fun H locs hw => ?_)
  refine lv_icmp_eq (tgt := 1191) hx hb dL_law_893 (by decide) (fun c => ?_) (fun c => absurd rfl c)
  exact next SX1 SM1 H locs ls hrel hw hl
set_option maxHeartbeats 4000000 in
set_option maxRecDepth 100000 in
theorem law_case18 {Rel : SS → SS → Prop} (hst : St3 Rel fX7_best fX8_best) {p : Program} {l : Launch} {e : Env} {R : Room} {s : State} {m : MethodId} {args : Array Value} {below : List Frame} {meth : Method} {c : Code} {cells slots : Nat} {Q : State → Prop} {D : va_G} {cI cZ : ClassId} {A : Nat → Prop} {adX adM : Nat → Nat} {b L : Nat} {xs : Nat → Int32} {x3 : Int32} {SX SM : SS} (C : MC p s m args meth c cL_law 4 R_law D cI cZ A ret) (hX : va_X b L xs s s.heap) (hbl : b < s.heap.size) (hbA : ¬ A b) (hR1 : 2048 ≤ R.frames) (hR2 : 84000 ≤ R.locals) (hc1 : cells ≤ R.cells) (hc2 : slots ≤ R.slots) (hi1 : vp_in (x3 + 1) L) (hi2 : vp_in (x3 + 2) L) (hi3 : vp_in (x3 + 3) L) (hrel : Rel SX SM) {H : Heap} {locs : List Loc} {ls : Array Slot} (hw : WL D A s.heap (wW lyX adX cI cZ SX ++ wW lyM adM cI cZ SM) H locs) (hl : lv_has ls 4 [(0, .ref b), (1, .ref (adX 0)), (2, .ref (adM 0)), (3, .int x3)])
    (next : ∀ (SX SM : SS) (H : Heap) (locs : List Loc) (ls : Array Slot), Rel SX SM → WL D A s.heap (wW lyX adX cI cZ SX ++ wW lyM adM cI cZ SM) H locs → lv_has ls 4 [(0, .ref b), (1, .ref (adX 0)), (2, .ref (adM 0)), (3, .int x3)] → W p l e R s m args below meth c H locs cells slots Q (F0 m 1191 ls [])) : W p l e R s m args below meth c H locs cells slots Q (F0 m 898 ls []) := by
  have hx := C.1
  have hb := C.2.1
  obtain ⟨a1, he1⟩ : ∃ y, xs (x3 + 1).toNatClampNeg = y := ⟨_, rfl⟩
  obtain ⟨a2, he2⟩ : ∃ y, xs (x3 + 2).toNatClampNeg = y := ⟨_, rfl⟩
  obtain ⟨a3, he3⟩ : ∃ y, xs (x3 + 3).toNatClampNeg = y := ⟨_, rfl⟩
  obtain ⟨r, SX1, SM1, hx1, hm1, hrel⟩ := hst SX SM hrel a1 a2 a3
  refine lv_aload_n hx hb dL_law_898 rfl (lv_at hl 1 rfl) ?_
  refine lv_aload_n hx hb dL_law_899 rfl (lv_at hl 0 rfl) ?_
  refine lv_iload_n hx hb dL_law_900 rfl (lv_at hl 3 rfl) ?_
  refine lv_iconst (v := 1) hx hb dL_law_901 (by decide) ?_
  refine lv_iadd hx hb dL_law_902 ?_
  refine y_sld C hX hbl hbA hw hi1 he1 dL_law_903 ?_
  refine lv_aload_n hx hb dL_law_904 rfl (lv_at hl 0 rfl) ?_
  refine lv_iload_n hx hb dL_law_905 rfl (lv_at hl 3 rfl) ?_
  refine lv_iconst (v := 2) hx hb dL_law_906 (by decide) ?_
  refine lv_iadd hx hb dL_law_907 ?_
  refine y_sld C hX hbl hbA hw hi2 he2 dL_law_908 ?_
  refine lv_aload_n hx hb dL_law_909 rfl (lv_at hl 0 rfl) ?_
  refine lv_iload_n hx hb dL_law_910 rfl (lv_at hl 3 rfl) ?_
  refine lv_iconst (v := 3) hx hb dL_law_911 (by decide) ?_
  refine lv_iadd hx hb dL_law_912 ?_
  refine y_sld C hX hbl hbA hw hi3 he3 dL_law_913 ?_
  have hw := y_swap hw
  refine y_callV C hw (mX7_best hx1) lkL_91 rfl (Nat.le_trans (Nat.le_of_ble_eq_true rfl) hR1) (Nat.le_trans (Nat.le_of_ble_eq_true rfl) hR2) hl.1 rfl (Nat.le_of_ble_eq_true rfl) hc1 hc2 dL_law_914 (fun H locs hw => ?_)
  have hw := y_swap hw
  refine lv_aload_n hx hb dL_law_917 rfl (lv_at hl 2 rfl) ?_
  refine lv_aload_n hx hb dL_law_918 rfl (lv_at hl 0 rfl) ?_
  refine lv_iload_n hx hb dL_law_919 rfl (lv_at hl 3 rfl) ?_
  refine lv_iconst (v := 1) hx hb dL_law_920 (by decide) ?_
  refine lv_iadd hx hb dL_law_921 ?_
  refine y_sld C hX hbl hbA hw hi1 he1 dL_law_922 ?_
  refine lv_aload_n hx hb dL_law_923 rfl (lv_at hl 0 rfl) ?_
  refine lv_iload_n hx hb dL_law_924 rfl (lv_at hl 3 rfl) ?_
  refine lv_iconst (v := 2) hx hb dL_law_925 (by decide) ?_
  refine lv_iadd hx hb dL_law_926 ?_
  refine y_sld C hX hbl hbA hw hi2 he2 dL_law_927 ?_
  refine lv_aload_n hx hb dL_law_928 rfl (lv_at hl 0 rfl) ?_
  refine lv_iload_n hx hb dL_law_929 rfl (lv_at hl 3 rfl) ?_
  refine lv_iconst (v := 3) hx hb dL_law_930 (by decide) ?_
  refine lv_iadd hx hb dL_law_931 ?_
  refine y_sld C hX hbl hbA hw hi3 he3 dL_law_932 ?_
  refine y_callV C hw (mX8_best hm1) lkL_94 rfl (Nat.le_trans (Nat.le_of_ble_eq_true rfl) hR1) (Nat.le_trans (Nat.le_of_ble_eq_true rfl) hR2) hl.1 rfl (Nat.le_of_ble_eq_true rfl) hc1 hc2 dL_law_933 (fun H locs hw => ?_)
  refine lv_icmp_eq (tgt := 1191) hx hb dL_law_936 (by decide) (fun c => ?_) (fun c => absurd rfl c)
  exact next SX1 SM1 H locs ls hrel hw hl
set_option maxHeartbeats 4000000 in
set_option maxRecDepth 100000 in
theorem law_case19 {Rel : SS → SS → Prop} (hst : St1 Rel fX7_given fX8_given) {p : Program} {l : Launch} {e : Env} {R : Room} {s : State} {m : MethodId} {args : Array Value} {below : List Frame} {meth : Method} {c : Code} {cells slots : Nat} {Q : State → Prop} {D : va_G} {cI cZ : ClassId} {A : Nat → Prop} {adX adM : Nat → Nat} {b L : Nat} {xs : Nat → Int32} {x3 : Int32} {SX SM : SS} (C : MC p s m args meth c cL_law 4 R_law D cI cZ A ret) (hX : va_X b L xs s s.heap) (hbl : b < s.heap.size) (hbA : ¬ A b) (hR1 : 2048 ≤ R.frames) (hR2 : 84000 ≤ R.locals) (hc1 : cells ≤ R.cells) (hc2 : slots ≤ R.slots) (hi1 : vp_in (x3 + 1) L) (hrel : Rel SX SM) {H : Heap} {locs : List Loc} {ls : Array Slot} (hw : WL D A s.heap (wW lyX adX cI cZ SX ++ wW lyM adM cI cZ SM) H locs) (hl : lv_has ls 4 [(0, .ref b), (1, .ref (adX 0)), (2, .ref (adM 0)), (3, .int x3)])
    (next : ∀ (SX SM : SS) (H : Heap) (locs : List Loc) (ls : Array Slot), Rel SX SM → WL D A s.heap (wW lyX adX cI cZ SX ++ wW lyM adM cI cZ SM) H locs → lv_has ls 4 [(0, .ref b), (1, .ref (adX 0)), (2, .ref (adM 0)), (3, .int x3)] → W p l e R s m args below meth c H locs cells slots Q (F0 m 1191 ls [])) : W p l e R s m args below meth c H locs cells slots Q (F0 m 941 ls []) := by
  have hx := C.1
  have hb := C.2.1
  obtain ⟨a1, he1⟩ : ∃ y, xs (x3 + 1).toNatClampNeg = y := ⟨_, rfl⟩
  obtain ⟨r, SX1, SM1, hx1, hm1, hrel⟩ := hst SX SM hrel a1
  refine lv_aload_n hx hb dL_law_941 rfl (lv_at hl 1 rfl) ?_
  refine lv_aload_n hx hb dL_law_942 rfl (lv_at hl 0 rfl) ?_
  refine lv_iload_n hx hb dL_law_943 rfl (lv_at hl 3 rfl) ?_
  refine lv_iconst (v := 1) hx hb dL_law_944 (by decide) ?_
  refine lv_iadd hx hb dL_law_945 ?_
  refine y_sld C hX hbl hbA hw hi1 he1 dL_law_946 ?_
  have hw := y_swap hw
  refine y_callV C hw (mX7_given hx1) lkL_95 rfl (Nat.le_trans (Nat.le_of_ble_eq_true rfl) hR1) (Nat.le_trans (Nat.le_of_ble_eq_true rfl) hR2) hl.1 rfl (Nat.le_of_ble_eq_true rfl) hc1 hc2 dL_law_947 (fun H locs hw => ?_)
  have hw := y_swap hw
  refine lv_aload_n hx hb dL_law_950 rfl (lv_at hl 2 rfl) ?_
  refine lv_aload_n hx hb dL_law_951 rfl (lv_at hl 0 rfl) ?_
  refine lv_iload_n hx hb dL_law_952 rfl (lv_at hl 3 rfl) ?_
  refine lv_iconst (v := 1) hx hb dL_law_953 (by decide) ?_
  refine lv_iadd hx hb dL_law_954 ?_
  refine y_sld C hX hbl hbA hw hi1 he1 dL_law_955 ?_
  refine y_callV C hw (mX8_given hm1) lkL_98 rfl (Nat.le_trans (Nat.le_of_ble_eq_true rfl) hR1) (Nat.le_trans (Nat.le_of_ble_eq_true rfl) hR2) hl.1 rfl (Nat.le_of_ble_eq_true rfl) hc1 hc2 dL_law_956 (fun H locs hw => ?_)
  refine lv_icmp_eq (tgt := 1191) hx hb dL_law_959 (by decide) (fun c => ?_) (fun c => absurd rfl c)
  exact next SX1 SM1 H locs ls hrel hw hl
set_option maxHeartbeats 4000000 in
set_option maxRecDepth 100000 in
theorem law_case20 {Rel : SS → SS → Prop} (hst : St0 Rel fX7_exam fX8_exam) {p : Program} {l : Launch} {e : Env} {R : Room} {s : State} {m : MethodId} {args : Array Value} {below : List Frame} {meth : Method} {c : Code} {cells slots : Nat} {Q : State → Prop} {D : va_G} {cI cZ : ClassId} {A : Nat → Prop} {adX adM : Nat → Nat} {b L : Nat} {xs : Nat → Int32} {x3 : Int32} {SX SM : SS} (C : MC p s m args meth c cL_law 4 R_law D cI cZ A ret) (hX : va_X b L xs s s.heap) (hbl : b < s.heap.size) (hbA : ¬ A b) (hR1 : 2048 ≤ R.frames) (hR2 : 84000 ≤ R.locals) (hc1 : cells ≤ R.cells) (hc2 : slots ≤ R.slots) (hrel : Rel SX SM) {H : Heap} {locs : List Loc} {ls : Array Slot} (hw : WL D A s.heap (wW lyX adX cI cZ SX ++ wW lyM adM cI cZ SM) H locs) (hl : lv_has ls 4 [(0, .ref b), (1, .ref (adX 0)), (2, .ref (adM 0)), (3, .int x3)])
    (next : ∀ (SX SM : SS) (H : Heap) (locs : List Loc) (ls : Array Slot), Rel SX SM → WL D A s.heap (wW lyX adX cI cZ SX ++ wW lyM adM cI cZ SM) H locs → lv_has ls 4 [(0, .ref b), (1, .ref (adX 0)), (2, .ref (adM 0)), (3, .int x3)] → W p l e R s m args below meth c H locs cells slots Q (F0 m 1191 ls [])) : W p l e R s m args below meth c H locs cells slots Q (F0 m 964 ls []) := by
  have hx := C.1
  have hb := C.2.1
  obtain ⟨r, SX1, SM1, hx1, hm1, hrel⟩ := hst SX SM hrel 
  refine lv_aload_n hx hb dL_law_964 rfl (lv_at hl 1 rfl) ?_
  have hw := y_swap hw
  refine y_callV C hw (mX7_exam hx1) lkL_99 rfl (Nat.le_trans (Nat.le_of_ble_eq_true rfl) hR1) (Nat.le_trans (Nat.le_of_ble_eq_true rfl) hR2) hl.1 rfl (Nat.le_of_ble_eq_true rfl) hc1 hc2 dL_law_965 (fun H locs hw => ?_)
  have hw := y_swap hw
  refine lv_aload_n hx hb dL_law_968 rfl (lv_at hl 2 rfl) ?_
  refine y_callV C hw (mX8_exam hm1) lkL_102 rfl (Nat.le_trans (Nat.le_of_ble_eq_true rfl) hR1) (Nat.le_trans (Nat.le_of_ble_eq_true rfl) hR2) hl.1 rfl (Nat.le_of_ble_eq_true rfl) hc1 hc2 dL_law_969 (fun H locs hw => ?_)
  refine lv_icmp_eq (tgt := 1191) hx hb dL_law_972 (by decide) (fun c => ?_) (fun c => absurd rfl c)
  exact next SX1 SM1 H locs ls hrel hw hl
set_option maxHeartbeats 4000000 in
set_option maxRecDepth 100000 in
theorem law_case21 {Rel : SS → SS → Prop} (hst : St3 Rel fX7_mark fX8_mark) {p : Program} {l : Launch} {e : Env} {R : Room} {s : State} {m : MethodId} {args : Array Value} {below : List Frame} {meth : Method} {c : Code} {cells slots : Nat} {Q : State → Prop} {D : va_G} {cI cZ : ClassId} {A : Nat → Prop} {adX adM : Nat → Nat} {b L : Nat} {xs : Nat → Int32} {x3 : Int32} {SX SM : SS} (C : MC p s m args meth c cL_law 4 R_law D cI cZ A ret) (hX : va_X b L xs s s.heap) (hbl : b < s.heap.size) (hbA : ¬ A b) (hR1 : 2048 ≤ R.frames) (hR2 : 84000 ≤ R.locals) (hc1 : cells ≤ R.cells) (hc2 : slots ≤ R.slots) (hi1 : vp_in (x3 + 1) L) (hi2 : vp_in (x3 + 2) L) (hi3 : vp_in (x3 + 3) L) (hrel : Rel SX SM) {H : Heap} {locs : List Loc} {ls : Array Slot} (hw : WL D A s.heap (wW lyX adX cI cZ SX ++ wW lyM adM cI cZ SM) H locs) (hl : lv_has ls 4 [(0, .ref b), (1, .ref (adX 0)), (2, .ref (adM 0)), (3, .int x3)])
    (next : ∀ (SX SM : SS) (H : Heap) (locs : List Loc) (ls : Array Slot), Rel SX SM → WL D A s.heap (wW lyX adX cI cZ SX ++ wW lyM adM cI cZ SM) H locs → lv_has ls 4 [(0, .ref b), (1, .ref (adX 0)), (2, .ref (adM 0)), (3, .int x3)] → W p l e R s m args below meth c H locs cells slots Q (F0 m 1191 ls [])) : W p l e R s m args below meth c H locs cells slots Q (F0 m 977 ls []) := by
  have hx := C.1
  have hb := C.2.1
  obtain ⟨a1, he1⟩ : ∃ y, xs (x3 + 1).toNatClampNeg = y := ⟨_, rfl⟩
  obtain ⟨a2, he2⟩ : ∃ y, xs (x3 + 2).toNatClampNeg = y := ⟨_, rfl⟩
  obtain ⟨a3, he3⟩ : ∃ y, xs (x3 + 3).toNatClampNeg = y := ⟨_, rfl⟩
  obtain ⟨r, SX1, SM1, hx1, hm1, hrel⟩ := hst SX SM hrel a1 a2 a3
  refine lv_aload_n hx hb dL_law_977 rfl (lv_at hl 1 rfl) ?_
  refine lv_aload_n hx hb dL_law_978 rfl (lv_at hl 0 rfl) ?_
  refine lv_iload_n hx hb dL_law_979 rfl (lv_at hl 3 rfl) ?_
  refine lv_iconst (v := 1) hx hb dL_law_980 (by decide) ?_
  refine lv_iadd hx hb dL_law_981 ?_
  refine y_sld C hX hbl hbA hw hi1 he1 dL_law_982 ?_
  refine lv_aload_n hx hb dL_law_983 rfl (lv_at hl 0 rfl) ?_
  refine lv_iload_n hx hb dL_law_984 rfl (lv_at hl 3 rfl) ?_
  refine lv_iconst (v := 2) hx hb dL_law_985 (by decide) ?_
  refine lv_iadd hx hb dL_law_986 ?_
  refine y_sld C hX hbl hbA hw hi2 he2 dL_law_987 ?_
  refine lv_aload_n hx hb dL_law_988 rfl (lv_at hl 0 rfl) ?_
  refine lv_iload_n hx hb dL_law_989 rfl (lv_at hl 3 rfl) ?_
  refine lv_iconst (v := 3) hx hb dL_law_990 (by decide) ?_
  refine lv_iadd hx hb dL_law_991 ?_
  refine y_sld C hX hbl hbA hw hi3 he3 dL_law_992 ?_
  have hw := y_swap hw
  refine y_callV C hw (mX7_mark hx1) lkL_103 rfl (Nat.le_trans (Nat.le_of_ble_eq_true rfl) hR1) (Nat.le_trans (Nat.le_of_ble_eq_true rfl) hR2) hl.1 rfl (Nat.le_of_ble_eq_true rfl) hc1 hc2 dL_law_993 (fun H locs hw => ?_)
  have hw := y_swap hw
  refine lv_aload_n hx hb dL_law_996 rfl (lv_at hl 2 rfl) ?_
  refine lv_aload_n hx hb dL_law_997 rfl (lv_at hl 0 rfl) ?_
  refine lv_iload_n hx hb dL_law_998 rfl (lv_at hl 3 rfl) ?_
  refine lv_iconst (v := 1) hx hb dL_law_999 (by decide) ?_
  refine lv_iadd hx hb dL_law_1000 ?_
  refine y_sld C hX hbl hbA hw hi1 he1 dL_law_1001 ?_
  refine lv_aload_n hx hb dL_law_1002 rfl (lv_at hl 0 rfl) ?_
  refine lv_iload_n hx hb dL_law_1003 rfl (lv_at hl 3 rfl) ?_
  refine lv_iconst (v := 2) hx hb dL_law_1004 (by decide) ?_
  refine lv_iadd hx hb dL_law_1005 ?_
  refine y_sld C hX hbl hbA hw hi2 he2 dL_law_1006 ?_
  refine lv_aload_n hx hb dL_law_1007 rfl (lv_at hl 0 rfl) ?_
  refine lv_iload_n hx hb dL_law_1008 rfl (lv_at hl 3 rfl) ?_
  refine lv_iconst (v := 3) hx hb dL_law_1009 (by decide) ?_
  refine lv_iadd hx hb dL_law_1010 ?_
  refine y_sld C hX hbl hbA hw hi3 he3 dL_law_1011 ?_
  refine y_callV C hw (mX8_mark hm1) lkL_106 rfl (Nat.le_trans (Nat.le_of_ble_eq_true rfl) hR1) (Nat.le_trans (Nat.le_of_ble_eq_true rfl) hR2) hl.1 rfl (Nat.le_of_ble_eq_true rfl) hc1 hc2 dL_law_1012 (fun H locs hw => ?_)
  refine lv_icmp_eq (tgt := 1191) hx hb dL_law_1015 (by decide) (fun c => ?_) (fun c => absurd rfl c)
  exact next SX1 SM1 H locs ls hrel hw hl
set_option maxHeartbeats 4000000 in
set_option maxRecDepth 100000 in
theorem law_case22 {Rel : SS → SS → Prop} (hst : St1 Rel fX7_middle fX8_middle) {p : Program} {l : Launch} {e : Env} {R : Room} {s : State} {m : MethodId} {args : Array Value} {below : List Frame} {meth : Method} {c : Code} {cells slots : Nat} {Q : State → Prop} {D : va_G} {cI cZ : ClassId} {A : Nat → Prop} {adX adM : Nat → Nat} {b L : Nat} {xs : Nat → Int32} {x3 : Int32} {SX SM : SS} (C : MC p s m args meth c cL_law 4 R_law D cI cZ A ret) (hX : va_X b L xs s s.heap) (hbl : b < s.heap.size) (hbA : ¬ A b) (hR1 : 2048 ≤ R.frames) (hR2 : 84000 ≤ R.locals) (hc1 : cells ≤ R.cells) (hc2 : slots ≤ R.slots) (hi1 : vp_in (x3 + 1) L) (hrel : Rel SX SM) {H : Heap} {locs : List Loc} {ls : Array Slot} (hw : WL D A s.heap (wW lyX adX cI cZ SX ++ wW lyM adM cI cZ SM) H locs) (hl : lv_has ls 4 [(0, .ref b), (1, .ref (adX 0)), (2, .ref (adM 0)), (3, .int x3)])
    (next : ∀ (SX SM : SS) (H : Heap) (locs : List Loc) (ls : Array Slot), Rel SX SM → WL D A s.heap (wW lyX adX cI cZ SX ++ wW lyM adM cI cZ SM) H locs → lv_has ls 4 [(0, .ref b), (1, .ref (adX 0)), (2, .ref (adM 0)), (3, .int x3)] → W p l e R s m args below meth c H locs cells slots Q (F0 m 1191 ls [])) : W p l e R s m args below meth c H locs cells slots Q (F0 m 1020 ls []) := by
  have hx := C.1
  have hb := C.2.1
  obtain ⟨a1, he1⟩ : ∃ y, xs (x3 + 1).toNatClampNeg = y := ⟨_, rfl⟩
  obtain ⟨r, SX1, SM1, hx1, hm1, hrel⟩ := hst SX SM hrel a1
  refine lv_aload_n hx hb dL_law_1020 rfl (lv_at hl 1 rfl) ?_
  refine lv_aload_n hx hb dL_law_1021 rfl (lv_at hl 0 rfl) ?_
  refine lv_iload_n hx hb dL_law_1022 rfl (lv_at hl 3 rfl) ?_
  refine lv_iconst (v := 1) hx hb dL_law_1023 (by decide) ?_
  refine lv_iadd hx hb dL_law_1024 ?_
  refine y_sld C hX hbl hbA hw hi1 he1 dL_law_1025 ?_
  have hw := y_swap hw
  refine y_callV C hw (mX7_middle hx1) lkL_107 rfl (Nat.le_trans (Nat.le_of_ble_eq_true rfl) hR1) (Nat.le_trans (Nat.le_of_ble_eq_true rfl) hR2) hl.1 rfl (Nat.le_of_ble_eq_true rfl) hc1 hc2 dL_law_1026 (fun H locs hw => ?_)
  have hw := y_swap hw
  refine lv_aload_n hx hb dL_law_1029 rfl (lv_at hl 2 rfl) ?_
  refine lv_aload_n hx hb dL_law_1030 rfl (lv_at hl 0 rfl) ?_
  refine lv_iload_n hx hb dL_law_1031 rfl (lv_at hl 3 rfl) ?_
  refine lv_iconst (v := 1) hx hb dL_law_1032 (by decide) ?_
  refine lv_iadd hx hb dL_law_1033 ?_
  refine y_sld C hX hbl hbA hw hi1 he1 dL_law_1034 ?_
  refine y_callV C hw (mX8_middle hm1) lkL_110 rfl (Nat.le_trans (Nat.le_of_ble_eq_true rfl) hR1) (Nat.le_trans (Nat.le_of_ble_eq_true rfl) hR2) hl.1 rfl (Nat.le_of_ble_eq_true rfl) hc1 hc2 dL_law_1035 (fun H locs hw => ?_)
  refine lv_icmp_eq (tgt := 1191) hx hb dL_law_1038 (by decide) (fun c => ?_) (fun c => absurd rfl c)
  exact next SX1 SM1 H locs ls hrel hw hl
set_option maxHeartbeats 4000000 in
set_option maxRecDepth 100000 in
theorem law_case23 {Rel : SS → SS → Prop} (hst : St2 Rel fX7_apart fX8_apart) {p : Program} {l : Launch} {e : Env} {R : Room} {s : State} {m : MethodId} {args : Array Value} {below : List Frame} {meth : Method} {c : Code} {cells slots : Nat} {Q : State → Prop} {D : va_G} {cI cZ : ClassId} {A : Nat → Prop} {adX adM : Nat → Nat} {b L : Nat} {xs : Nat → Int32} {x3 : Int32} {SX SM : SS} (C : MC p s m args meth c cL_law 4 R_law D cI cZ A ret) (hX : va_X b L xs s s.heap) (hbl : b < s.heap.size) (hbA : ¬ A b) (hR1 : 2048 ≤ R.frames) (hR2 : 84000 ≤ R.locals) (hc1 : cells ≤ R.cells) (hc2 : slots ≤ R.slots) (hi1 : vp_in (x3 + 1) L) (hi2 : vp_in (x3 + 2) L) (hrel : Rel SX SM) {H : Heap} {locs : List Loc} {ls : Array Slot} (hw : WL D A s.heap (wW lyX adX cI cZ SX ++ wW lyM adM cI cZ SM) H locs) (hl : lv_has ls 4 [(0, .ref b), (1, .ref (adX 0)), (2, .ref (adM 0)), (3, .int x3)])
    (next : ∀ (SX SM : SS) (H : Heap) (locs : List Loc) (ls : Array Slot), Rel SX SM → WL D A s.heap (wW lyX adX cI cZ SX ++ wW lyM adM cI cZ SM) H locs → lv_has ls 4 [(0, .ref b), (1, .ref (adX 0)), (2, .ref (adM 0)), (3, .int x3)] → W p l e R s m args below meth c H locs cells slots Q (F0 m 1191 ls [])) : W p l e R s m args below meth c H locs cells slots Q (F0 m 1043 ls []) := by
  have hx := C.1
  have hb := C.2.1
  obtain ⟨a1, he1⟩ : ∃ y, xs (x3 + 1).toNatClampNeg = y := ⟨_, rfl⟩
  obtain ⟨a2, he2⟩ : ∃ y, xs (x3 + 2).toNatClampNeg = y := ⟨_, rfl⟩
  obtain ⟨r, SX1, SM1, hx1, hm1, hrel⟩ := hst SX SM hrel a1 a2
  refine lv_aload_n hx hb dL_law_1043 rfl (lv_at hl 1 rfl) ?_
  refine lv_aload_n hx hb dL_law_1044 rfl (lv_at hl 0 rfl) ?_
  refine lv_iload_n hx hb dL_law_1045 rfl (lv_at hl 3 rfl) ?_
  refine lv_iconst (v := 1) hx hb dL_law_1046 (by decide) ?_
  refine lv_iadd hx hb dL_law_1047 ?_
  refine y_sld C hX hbl hbA hw hi1 he1 dL_law_1048 ?_
  refine lv_aload_n hx hb dL_law_1049 rfl (lv_at hl 0 rfl) ?_
  refine lv_iload_n hx hb dL_law_1050 rfl (lv_at hl 3 rfl) ?_
  refine lv_iconst (v := 2) hx hb dL_law_1051 (by decide) ?_
  refine lv_iadd hx hb dL_law_1052 ?_
  refine y_sld C hX hbl hbA hw hi2 he2 dL_law_1053 ?_
  have hw := y_swap hw
  refine y_callV C hw (mX7_apart hx1) lkL_111 rfl (Nat.le_trans (Nat.le_of_ble_eq_true rfl) hR1) (Nat.le_trans (Nat.le_of_ble_eq_true rfl) hR2) hl.1 rfl (Nat.le_of_ble_eq_true rfl) hc1 hc2 dL_law_1054 (fun H locs hw => ?_)
  have hw := y_swap hw
  refine lv_aload_n hx hb dL_law_1057 rfl (lv_at hl 2 rfl) ?_
  refine lv_aload_n hx hb dL_law_1058 rfl (lv_at hl 0 rfl) ?_
  refine lv_iload_n hx hb dL_law_1059 rfl (lv_at hl 3 rfl) ?_
  refine lv_iconst (v := 1) hx hb dL_law_1060 (by decide) ?_
  refine lv_iadd hx hb dL_law_1061 ?_
  refine y_sld C hX hbl hbA hw hi1 he1 dL_law_1062 ?_
  refine lv_aload_n hx hb dL_law_1063 rfl (lv_at hl 0 rfl) ?_
  refine lv_iload_n hx hb dL_law_1064 rfl (lv_at hl 3 rfl) ?_
  refine lv_iconst (v := 2) hx hb dL_law_1065 (by decide) ?_
  refine lv_iadd hx hb dL_law_1066 ?_
  refine y_sld C hX hbl hbA hw hi2 he2 dL_law_1067 ?_
  refine y_callV C hw (mX8_apart hm1) lkL_114 rfl (Nat.le_trans (Nat.le_of_ble_eq_true rfl) hR1) (Nat.le_trans (Nat.le_of_ble_eq_true rfl) hR2) hl.1 rfl (Nat.le_of_ble_eq_true rfl) hc1 hc2 dL_law_1068 (fun H locs hw => ?_)
  refine lv_icmp_eq (tgt := 1191) hx hb dL_law_1071 (by decide) (fun c => ?_) (fun c => absurd rfl c)
  exact next SX1 SM1 H locs ls hrel hw hl
set_option maxHeartbeats 4000000 in
set_option maxRecDepth 100000 in
theorem law_case24 {Rel : SS → SS → Prop} (hst : St1 Rel fX7_hard fX8_hard) {p : Program} {l : Launch} {e : Env} {R : Room} {s : State} {m : MethodId} {args : Array Value} {below : List Frame} {meth : Method} {c : Code} {cells slots : Nat} {Q : State → Prop} {D : va_G} {cI cZ : ClassId} {A : Nat → Prop} {adX adM : Nat → Nat} {b L : Nat} {xs : Nat → Int32} {x3 : Int32} {SX SM : SS} (C : MC p s m args meth c cL_law 4 R_law D cI cZ A ret) (hX : va_X b L xs s s.heap) (hbl : b < s.heap.size) (hbA : ¬ A b) (hR1 : 2048 ≤ R.frames) (hR2 : 84000 ≤ R.locals) (hc1 : cells ≤ R.cells) (hc2 : slots ≤ R.slots) (hi1 : vp_in (x3 + 1) L) (hrel : Rel SX SM) {H : Heap} {locs : List Loc} {ls : Array Slot} (hw : WL D A s.heap (wW lyX adX cI cZ SX ++ wW lyM adM cI cZ SM) H locs) (hl : lv_has ls 4 [(0, .ref b), (1, .ref (adX 0)), (2, .ref (adM 0)), (3, .int x3)])
    (next : ∀ (SX SM : SS) (H : Heap) (locs : List Loc) (ls : Array Slot), Rel SX SM → WL D A s.heap (wW lyX adX cI cZ SX ++ wW lyM adM cI cZ SM) H locs → lv_has ls 4 [(0, .ref b), (1, .ref (adX 0)), (2, .ref (adM 0)), (3, .int x3)] → W p l e R s m args below meth c H locs cells slots Q (F0 m 1191 ls [])) : W p l e R s m args below meth c H locs cells slots Q (F0 m 1076 ls []) := by
  have hx := C.1
  have hb := C.2.1
  obtain ⟨a1, he1⟩ : ∃ y, xs (x3 + 1).toNatClampNeg = y := ⟨_, rfl⟩
  obtain ⟨r, SX1, SM1, hx1, hm1, hrel⟩ := hst SX SM hrel a1
  refine lv_aload_n hx hb dL_law_1076 rfl (lv_at hl 1 rfl) ?_
  refine lv_aload_n hx hb dL_law_1077 rfl (lv_at hl 0 rfl) ?_
  refine lv_iload_n hx hb dL_law_1078 rfl (lv_at hl 3 rfl) ?_
  refine lv_iconst (v := 1) hx hb dL_law_1079 (by decide) ?_
  refine lv_iadd hx hb dL_law_1080 ?_
  refine y_sld C hX hbl hbA hw hi1 he1 dL_law_1081 ?_
  have hw := y_swap hw
  refine y_callV C hw (mX7_hard hx1) lkL_115 rfl (Nat.le_trans (Nat.le_of_ble_eq_true rfl) hR1) (Nat.le_trans (Nat.le_of_ble_eq_true rfl) hR2) hl.1 rfl (Nat.le_of_ble_eq_true rfl) hc1 hc2 dL_law_1082 (fun H locs hw => ?_)
  have hw := y_swap hw
  refine lv_aload_n hx hb dL_law_1085 rfl (lv_at hl 2 rfl) ?_
  refine lv_aload_n hx hb dL_law_1086 rfl (lv_at hl 0 rfl) ?_
  refine lv_iload_n hx hb dL_law_1087 rfl (lv_at hl 3 rfl) ?_
  refine lv_iconst (v := 1) hx hb dL_law_1088 (by decide) ?_
  refine lv_iadd hx hb dL_law_1089 ?_
  refine y_sld C hX hbl hbA hw hi1 he1 dL_law_1090 ?_
  refine y_callV C hw (mX8_hard hm1) lkL_118 rfl (Nat.le_trans (Nat.le_of_ble_eq_true rfl) hR1) (Nat.le_trans (Nat.le_of_ble_eq_true rfl) hR2) hl.1 rfl (Nat.le_of_ble_eq_true rfl) hc1 hc2 dL_law_1091 (fun H locs hw => ?_)
  refine lv_icmp_eq (tgt := 1191) hx hb dL_law_1094 (by decide) (fun c => ?_) (fun c => absurd rfl c)
  exact next SX1 SM1 H locs ls hrel hw hl
set_option maxHeartbeats 4000000 in
set_option maxRecDepth 100000 in
theorem law_case25 {Rel : SS → SS → Prop} (hst : St1 Rel fX7_tell fX8_tell) {p : Program} {l : Launch} {e : Env} {R : Room} {s : State} {m : MethodId} {args : Array Value} {below : List Frame} {meth : Method} {c : Code} {cells slots : Nat} {Q : State → Prop} {D : va_G} {cI cZ : ClassId} {A : Nat → Prop} {adX adM : Nat → Nat} {b L : Nat} {xs : Nat → Int32} {x3 : Int32} {SX SM : SS} (C : MC p s m args meth c cL_law 4 R_law D cI cZ A ret) (hX : va_X b L xs s s.heap) (hbl : b < s.heap.size) (hbA : ¬ A b) (hR1 : 2048 ≤ R.frames) (hR2 : 84000 ≤ R.locals) (hc1 : cells ≤ R.cells) (hc2 : slots ≤ R.slots) (hi1 : vp_in (x3 + 1) L) (hrel : Rel SX SM) {H : Heap} {locs : List Loc} {ls : Array Slot} (hw : WL D A s.heap (wW lyX adX cI cZ SX ++ wW lyM adM cI cZ SM) H locs) (hl : lv_has ls 4 [(0, .ref b), (1, .ref (adX 0)), (2, .ref (adM 0)), (3, .int x3)])
    (next : ∀ (SX SM : SS) (H : Heap) (locs : List Loc) (ls : Array Slot), Rel SX SM → WL D A s.heap (wW lyX adX cI cZ SX ++ wW lyM adM cI cZ SM) H locs → lv_has ls 4 [(0, .ref b), (1, .ref (adX 0)), (2, .ref (adM 0)), (3, .int x3)] → W p l e R s m args below meth c H locs cells slots Q (F0 m 1191 ls [])) : W p l e R s m args below meth c H locs cells slots Q (F0 m 1099 ls []) := by
  have hx := C.1
  have hb := C.2.1
  obtain ⟨a1, he1⟩ : ∃ y, xs (x3 + 1).toNatClampNeg = y := ⟨_, rfl⟩
  obtain ⟨r, SX1, SM1, hx1, hm1, hrel⟩ := hst SX SM hrel a1
  refine lv_aload_n hx hb dL_law_1099 rfl (lv_at hl 1 rfl) ?_
  refine lv_aload_n hx hb dL_law_1100 rfl (lv_at hl 0 rfl) ?_
  refine lv_iload_n hx hb dL_law_1101 rfl (lv_at hl 3 rfl) ?_
  refine lv_iconst (v := 1) hx hb dL_law_1102 (by decide) ?_
  refine lv_iadd hx hb dL_law_1103 ?_
  refine y_sld C hX hbl hbA hw hi1 he1 dL_law_1104 ?_
  have hw := y_swap hw
  refine y_callV C hw (mX7_tell hx1) lkL_119 rfl (Nat.le_trans (Nat.le_of_ble_eq_true rfl) hR1) (Nat.le_trans (Nat.le_of_ble_eq_true rfl) hR2) hl.1 rfl (Nat.le_of_ble_eq_true rfl) hc1 hc2 dL_law_1105 (fun H locs hw => ?_)
  have hw := y_swap hw
  refine lv_aload_n hx hb dL_law_1108 rfl (lv_at hl 2 rfl) ?_
  refine lv_aload_n hx hb dL_law_1109 rfl (lv_at hl 0 rfl) ?_
  refine lv_iload_n hx hb dL_law_1110 rfl (lv_at hl 3 rfl) ?_
  refine lv_iconst (v := 1) hx hb dL_law_1111 (by decide) ?_
  refine lv_iadd hx hb dL_law_1112 ?_
  refine y_sld C hX hbl hbA hw hi1 he1 dL_law_1113 ?_
  refine y_callV C hw (mX8_tell hm1) lkL_122 rfl (Nat.le_trans (Nat.le_of_ble_eq_true rfl) hR1) (Nat.le_trans (Nat.le_of_ble_eq_true rfl) hR2) hl.1 rfl (Nat.le_of_ble_eq_true rfl) hc1 hc2 dL_law_1114 (fun H locs hw => ?_)
  refine lv_icmp_eq (tgt := 1191) hx hb dL_law_1117 (by decide) (fun c => ?_) (fun c => absurd rfl c)
  exact next SX1 SM1 H locs ls hrel hw hl
set_option maxHeartbeats 4000000 in
set_option maxRecDepth 100000 in
theorem law_case26 {Rel : SS → SS → Prop} (hst : St1 Rel fX7_check fX8_check) {p : Program} {l : Launch} {e : Env} {R : Room} {s : State} {m : MethodId} {args : Array Value} {below : List Frame} {meth : Method} {c : Code} {cells slots : Nat} {Q : State → Prop} {D : va_G} {cI cZ : ClassId} {A : Nat → Prop} {adX adM : Nat → Nat} {b L : Nat} {xs : Nat → Int32} {x3 : Int32} {SX SM : SS} (C : MC p s m args meth c cL_law 4 R_law D cI cZ A ret) (hX : va_X b L xs s s.heap) (hbl : b < s.heap.size) (hbA : ¬ A b) (hR1 : 2048 ≤ R.frames) (hR2 : 84000 ≤ R.locals) (hc1 : cells ≤ R.cells) (hc2 : slots ≤ R.slots) (hi1 : vp_in (x3 + 1) L) (hrel : Rel SX SM) {H : Heap} {locs : List Loc} {ls : Array Slot} (hw : WL D A s.heap (wW lyX adX cI cZ SX ++ wW lyM adM cI cZ SM) H locs) (hl : lv_has ls 4 [(0, .ref b), (1, .ref (adX 0)), (2, .ref (adM 0)), (3, .int x3)])
    (next : ∀ (SX SM : SS) (H : Heap) (locs : List Loc) (ls : Array Slot), Rel SX SM → WL D A s.heap (wW lyX adX cI cZ SX ++ wW lyM adM cI cZ SM) H locs → lv_has ls 4 [(0, .ref b), (1, .ref (adX 0)), (2, .ref (adM 0)), (3, .int x3)] → W p l e R s m args below meth c H locs cells slots Q (F0 m 1191 ls [])) : W p l e R s m args below meth c H locs cells slots Q (F0 m 1122 ls []) := by
  have hx := C.1
  have hb := C.2.1
  obtain ⟨a1, he1⟩ : ∃ y, xs (x3 + 1).toNatClampNeg = y := ⟨_, rfl⟩
  obtain ⟨r, SX1, SM1, hx1, hm1, hrel⟩ := hst SX SM hrel a1
  refine lv_aload_n hx hb dL_law_1122 rfl (lv_at hl 1 rfl) ?_
  refine lv_aload_n hx hb dL_law_1123 rfl (lv_at hl 0 rfl) ?_
  refine lv_iload_n hx hb dL_law_1124 rfl (lv_at hl 3 rfl) ?_
  refine lv_iconst (v := 1) hx hb dL_law_1125 (by decide) ?_
  refine lv_iadd hx hb dL_law_1126 ?_
  refine y_sld C hX hbl hbA hw hi1 he1 dL_law_1127 ?_
  have hw := y_swap hw
  refine y_callV C hw (mX7_check hx1) lkL_123 rfl (Nat.le_trans (Nat.le_of_ble_eq_true rfl) hR1) (Nat.le_trans (Nat.le_of_ble_eq_true rfl) hR2) hl.1 rfl (Nat.le_of_ble_eq_true rfl) hc1 hc2 dL_law_1128 (fun H locs hw => ?_)
  have hw := y_swap hw
  refine lv_aload_n hx hb dL_law_1131 rfl (lv_at hl 2 rfl) ?_
  refine lv_aload_n hx hb dL_law_1132 rfl (lv_at hl 0 rfl) ?_
  refine lv_iload_n hx hb dL_law_1133 rfl (lv_at hl 3 rfl) ?_
  refine lv_iconst (v := 1) hx hb dL_law_1134 (by decide) ?_
  refine lv_iadd hx hb dL_law_1135 ?_
  refine y_sld C hX hbl hbA hw hi1 he1 dL_law_1136 ?_
  refine y_callV C hw (mX8_check hm1) lkL_126 rfl (Nat.le_trans (Nat.le_of_ble_eq_true rfl) hR1) (Nat.le_trans (Nat.le_of_ble_eq_true rfl) hR2) hl.1 rfl (Nat.le_of_ble_eq_true rfl) hc1 hc2 dL_law_1137 (fun H locs hw => ?_)
  refine lv_icmp_eq (tgt := 1191) hx hb dL_law_1140 (by decide) (fun c => ?_) (fun c => absurd rfl c)
  exact next SX1 SM1 H locs ls hrel hw hl
set_option maxHeartbeats 4000000 in
set_option maxRecDepth 100000 in
theorem law_case27 {Rel : SS → SS → Prop} (hst : St1 Rel fX7_count fX8_count) {p : Program} {l : Launch} {e : Env} {R : Room} {s : State} {m : MethodId} {args : Array Value} {below : List Frame} {meth : Method} {c : Code} {cells slots : Nat} {Q : State → Prop} {D : va_G} {cI cZ : ClassId} {A : Nat → Prop} {adX adM : Nat → Nat} {b L : Nat} {xs : Nat → Int32} {x3 : Int32} {SX SM : SS} (C : MC p s m args meth c cL_law 4 R_law D cI cZ A ret) (hX : va_X b L xs s s.heap) (hbl : b < s.heap.size) (hbA : ¬ A b) (hR1 : 2048 ≤ R.frames) (hR2 : 84000 ≤ R.locals) (hc1 : cells ≤ R.cells) (hc2 : slots ≤ R.slots) (hi1 : vp_in (x3 + 1) L) (hrel : Rel SX SM) {H : Heap} {locs : List Loc} {ls : Array Slot} (hw : WL D A s.heap (wW lyX adX cI cZ SX ++ wW lyM adM cI cZ SM) H locs) (hl : lv_has ls 4 [(0, .ref b), (1, .ref (adX 0)), (2, .ref (adM 0)), (3, .int x3)])
    (next : ∀ (SX SM : SS) (H : Heap) (locs : List Loc) (ls : Array Slot), Rel SX SM → WL D A s.heap (wW lyX adX cI cZ SX ++ wW lyM adM cI cZ SM) H locs → lv_has ls 4 [(0, .ref b), (1, .ref (adX 0)), (2, .ref (adM 0)), (3, .int x3)] → W p l e R s m args below meth c H locs cells slots Q (F0 m 1191 ls [])) : W p l e R s m args below meth c H locs cells slots Q (F0 m 1145 ls []) := by
  have hx := C.1
  have hb := C.2.1
  obtain ⟨a1, he1⟩ : ∃ y, xs (x3 + 1).toNatClampNeg = y := ⟨_, rfl⟩
  obtain ⟨r, SX1, SM1, hx1, hm1, hrel⟩ := hst SX SM hrel a1
  refine lv_aload_n hx hb dL_law_1145 rfl (lv_at hl 1 rfl) ?_
  refine lv_aload_n hx hb dL_law_1146 rfl (lv_at hl 0 rfl) ?_
  refine lv_iload_n hx hb dL_law_1147 rfl (lv_at hl 3 rfl) ?_
  refine lv_iconst (v := 1) hx hb dL_law_1148 (by decide) ?_
  refine lv_iadd hx hb dL_law_1149 ?_
  refine y_sld C hX hbl hbA hw hi1 he1 dL_law_1150 ?_
  have hw := y_swap hw
  refine y_callV C hw (mX7_count hx1) lkL_127 rfl (Nat.le_trans (Nat.le_of_ble_eq_true rfl) hR1) (Nat.le_trans (Nat.le_of_ble_eq_true rfl) hR2) hl.1 rfl (Nat.le_of_ble_eq_true rfl) hc1 hc2 dL_law_1151 (fun H locs hw => ?_)
  have hw := y_swap hw
  refine lv_aload_n hx hb dL_law_1154 rfl (lv_at hl 2 rfl) ?_
  refine lv_aload_n hx hb dL_law_1155 rfl (lv_at hl 0 rfl) ?_
  refine lv_iload_n hx hb dL_law_1156 rfl (lv_at hl 3 rfl) ?_
  refine lv_iconst (v := 1) hx hb dL_law_1157 (by decide) ?_
  refine lv_iadd hx hb dL_law_1158 ?_
  refine y_sld C hX hbl hbA hw hi1 he1 dL_law_1159 ?_
  refine y_callV C hw (mX8_count hm1) lkL_130 rfl (Nat.le_trans (Nat.le_of_ble_eq_true rfl) hR1) (Nat.le_trans (Nat.le_of_ble_eq_true rfl) hR2) hl.1 rfl (Nat.le_of_ble_eq_true rfl) hc1 hc2 dL_law_1160 (fun H locs hw => ?_)
  refine lv_icmp_eq (tgt := 1191) hx hb dL_law_1163 (by decide) (fun c => ?_) (fun c => absurd rfl c)
  exact next SX1 SM1 H locs ls hrel hw hl
set_option maxHeartbeats 4000000 in
set_option maxRecDepth 100000 in
theorem law_case28 {Rel : SS → SS → Prop} (hst : St1 Rel fX7_found fX8_found) {p : Program} {l : Launch} {e : Env} {R : Room} {s : State} {m : MethodId} {args : Array Value} {below : List Frame} {meth : Method} {c : Code} {cells slots : Nat} {Q : State → Prop} {D : va_G} {cI cZ : ClassId} {A : Nat → Prop} {adX adM : Nat → Nat} {b L : Nat} {xs : Nat → Int32} {x3 : Int32} {SX SM : SS} (C : MC p s m args meth c cL_law 4 R_law D cI cZ A ret) (hX : va_X b L xs s s.heap) (hbl : b < s.heap.size) (hbA : ¬ A b) (hR1 : 2048 ≤ R.frames) (hR2 : 84000 ≤ R.locals) (hc1 : cells ≤ R.cells) (hc2 : slots ≤ R.slots) (hi1 : vp_in (x3 + 1) L) (hrel : Rel SX SM) {H : Heap} {locs : List Loc} {ls : Array Slot} (hw : WL D A s.heap (wW lyX adX cI cZ SX ++ wW lyM adM cI cZ SM) H locs) (hl : lv_has ls 4 [(0, .ref b), (1, .ref (adX 0)), (2, .ref (adM 0)), (3, .int x3)])
    (next : ∀ (SX SM : SS) (H : Heap) (locs : List Loc) (ls : Array Slot), Rel SX SM → WL D A s.heap (wW lyX adX cI cZ SX ++ wW lyM adM cI cZ SM) H locs → lv_has ls 4 [(0, .ref b), (1, .ref (adX 0)), (2, .ref (adM 0)), (3, .int x3)] → W p l e R s m args below meth c H locs cells slots Q (F0 m 1191 ls [])) : W p l e R s m args below meth c H locs cells slots Q (F0 m 1168 ls []) := by
  have hx := C.1
  have hb := C.2.1
  obtain ⟨a1, he1⟩ : ∃ y, xs (x3 + 1).toNatClampNeg = y := ⟨_, rfl⟩
  obtain ⟨r, SX1, SM1, hx1, hm1, hrel⟩ := hst SX SM hrel a1
  refine lv_aload_n hx hb dL_law_1168 rfl (lv_at hl 1 rfl) ?_
  refine lv_aload_n hx hb dL_law_1169 rfl (lv_at hl 0 rfl) ?_
  refine lv_iload_n hx hb dL_law_1170 rfl (lv_at hl 3 rfl) ?_
  refine lv_iconst (v := 1) hx hb dL_law_1171 (by decide) ?_
  refine lv_iadd hx hb dL_law_1172 ?_
  refine y_sld C hX hbl hbA hw hi1 he1 dL_law_1173 ?_
  have hw := y_swap hw
  refine y_callV C hw (mX7_found hx1) lkL_131 rfl (Nat.le_trans (Nat.le_of_ble_eq_true rfl) hR1) (Nat.le_trans (Nat.le_of_ble_eq_true rfl) hR2) hl.1 rfl (Nat.le_of_ble_eq_true rfl) hc1 hc2 dL_law_1174 (fun H locs hw => ?_)
  have hw := y_swap hw
  refine lv_aload_n hx hb dL_law_1177 rfl (lv_at hl 2 rfl) ?_
  refine lv_aload_n hx hb dL_law_1178 rfl (lv_at hl 0 rfl) ?_
  refine lv_iload_n hx hb dL_law_1179 rfl (lv_at hl 3 rfl) ?_
  refine lv_iconst (v := 1) hx hb dL_law_1180 (by decide) ?_
  refine lv_iadd hx hb dL_law_1181 ?_
  refine y_sld C hX hbl hbA hw hi1 he1 dL_law_1182 ?_
  refine y_callV C hw (mX8_found hm1) lkL_134 rfl (Nat.le_trans (Nat.le_of_ble_eq_true rfl) hR1) (Nat.le_trans (Nat.le_of_ble_eq_true rfl) hR2) hl.1 rfl (Nat.le_of_ble_eq_true rfl) hc1 hc2 dL_law_1183 (fun H locs hw => ?_)
  refine lv_icmp_eq (tgt := 1191) hx hb dL_law_1186 (by decide) (fun c => ?_) (fun c => absurd rfl c)
  exact next SX1 SM1 H locs ls hrel hw hl
