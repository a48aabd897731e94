def pO (S : SS) (k : Nat) (v : Int32) : Option SS := some (pI S k v)
theorem x_putO {p : Program} {l : Launch} {e : Env} {R : Room} {s : State} {m : MethodId} {args : Array Value} {below : List Frame} {meth : Method} {c : Code} {H : Heap} {locs : List Loc} {cells slots : Nat} {Q : State → Prop} {cc : ByteArray} {nL pc : Nat} {own : String} {D : va_G} {cI cZ : ClassId} {A : Nat → Prop} {ret : Option FieldType} {ly : LY} {ad : Nat → Nat} {S S1 : SS} {ls : Array Slot} {rest : List Value} {idx i κ : Nat} {ty : FieldType} {v : Int32} (C : MC p s m args meth c cc nL own D cI cZ A ret) (h : WH D A s.heap ly ad cI cZ S H locs) (g : GP ly own idx i κ ty) (hv : pO S κ v = some S1) (hn : narrow ty (.int v) = .int v) (hf : fits ty (.int v) = true) (hdg : decode cc pc = .ok (.putfield idx, 3))
    (kk : ∀ (H1 : Heap) (locs1 : List Loc), WH D A s.heap ly ad cI cZ S1 H1 locs1 → W p l e R s m args below meth c H1 locs1 cells slots Q (F0 m (pc + 3) ls rest)) : W p l e R s m args below meth c H locs cells slots Q (F0 m pc ls (.int v :: .ref (ad i) :: rest)) := by
  cases hv
  exact x_putI C h g hn hf hdg kk
theorem x_nm {p : Program} {l : Launch} {e : Env} {R : Room} {s : State} {m : MethodId} {args : Array Value} {below : List Frame} {meth : Method} {c : Code} {H : Heap} {locs : List Loc} {cells slots : Nat} {Q : State → Prop} {pc : Nat} {ls : Array Slot} {rest : List Value} {x w : Int32} (h : some x = some w) (k : W p l e R s m args below meth c H locs cells slots Q (F0 m pc ls (.int w :: rest))) : W p l e R s m args below meth c H locs cells slots Q (F0 m pc ls (.int x :: rest)) := by
  cases h
  exact k
def mx (x y : Int32) : Int32 := if x < y then y else x
def mn (x y : Int32) : Int32 := if y < x then y else x
def mab (x : Int32) : Int32 := if 0 ≤ x then x else 0 - x
def MK (own : String) (idx : Nat) (y : MethodName) (cc : ByteArray) (n : Nat) : Prop := Cond.methodLink own idx y ∈ TB ∧ Cond.static y ∈ TB ∧ Cond.initialized "java/lang/Math" ∈ TB ∧ Cond.code y cc n (some .int) ∈ TB
theorem x_mx {p : Program} {l : Launch} {e : Env} {K : Nat} {s : State} {m : MethodId} {args : Array Value} {below : List Frame} {meth : Method} {c : Code} {H : Heap} {locs : List Loc} {Q : State → Prop} {cc : ByteArray} {nL pc : Nat} {own : String} {D : va_G} {cI cZ : ClassId} {A : Nat → Prop} {ret : Option FieldType} {ls : Array Slot} {rest : List Value} {idx : Nat} {x y : Int32} (C : MC p s m args meth c cc nL own D cI cZ A ret) (g : MK own idx Lib.Math.max.name Lib.Math.max.code 2) (hk : 1 ≤ K) (hls : ls.size = nL) (hro : (rest.map fun v => v.category).sum ≤ 8) (hdg : decode cc pc = .ok (.invokestatic idx, 3))
    (kk : W p l e (rmK K) s m args below meth c H locs 0 0 Q (F0 m (pc + 3) ls (.int (mx x y) :: rest))) : W p l e (rmK K) s m args below meth c H locs 0 0 Q (F0 m pc ls (.int y :: .int x :: rest)) := by
  obtain ⟨hx, hb, hml, hown, hts, hK, hlk, hr, hA⟩ := C
  exact va_mmax hx hb (hml.trans hls.symm) hown (hts _ g.1) (hts _ g.2.1) (hts _ g.2.2.1) (hts _ g.2.2.2) hk (by show _ + 13 ≤ 60 * K; omega) (Nat.zero_le _) (Nat.zero_le _) hdg kk
theorem x_mn {p : Program} {l : Launch} {e : Env} {K : Nat} {s : State} {m : MethodId} {args : Array Value} {below : List Frame} {meth : Method} {c : Code} {H : Heap} {locs : List Loc} {Q : State → Prop} {cc : ByteArray} {nL pc : Nat} {own : String} {D : va_G} {cI cZ : ClassId} {A : Nat → Prop} {ret : Option FieldType} {ls : Array Slot} {rest : List Value} {idx : Nat} {x y : Int32} (C : MC p s m args meth c cc nL own D cI cZ A ret) (g : MK own idx Lib.Math.min.name Lib.Math.min.code 2) (hk : 1 ≤ K) (hls : ls.size = nL) (hro : (rest.map fun v => v.category).sum ≤ 8) (hdg : decode cc pc = .ok (.invokestatic idx, 3))
    (kk : W p l e (rmK K) s m args below meth c H locs 0 0 Q (F0 m (pc + 3) ls (.int (mn x y) :: rest))) : W p l e (rmK K) s m args below meth c H locs 0 0 Q (F0 m pc ls (.int y :: .int x :: rest)) := by
  obtain ⟨hx, hb, hml, hown, hts, hK, hlk, hr, hA⟩ := C
  exact va_mmin hx hb (hml.trans hls.symm) hown (hts _ g.1) (hts _ g.2.1) (hts _ g.2.2.1) (hts _ g.2.2.2) hk (by show _ + 13 ≤ 60 * K; omega) (Nat.zero_le _) (Nat.zero_le _) hdg kk
theorem x_mab {p : Program} {l : Launch} {e : Env} {K : Nat} {s : State} {m : MethodId} {args : Array Value} {below : List Frame} {meth : Method} {c : Code} {H : Heap} {locs : List Loc} {Q : State → Prop} {cc : ByteArray} {nL pc : Nat} {own : String} {D : va_G} {cI cZ : ClassId} {A : Nat → Prop} {ret : Option FieldType} {ls : Array Slot} {rest : List Value} {idx : Nat} {x : Int32} (C : MC p s m args meth c cc nL own D cI cZ A ret) (g : MK own idx Lib.Math.abs.name Lib.Math.abs.code 1) (hk : 1 ≤ K) (hls : ls.size = nL) (hro : (rest.map fun v => v.category).sum ≤ 8) (hdg : decode cc pc = .ok (.invokestatic idx, 3))
    (kk : W p l e (rmK K) s m args below meth c H locs 0 0 Q (F0 m (pc + 3) ls (.int (mab x) :: rest))) : W p l e (rmK K) s m args below meth c H locs 0 0 Q (F0 m pc ls (.int x :: rest)) := by
  obtain ⟨hx, hb, hml, hown, hts, hK, hlk, hr, hA⟩ := C
  exact va_mabs hx hb (hml.trans hls.symm) hown (hts _ g.1) (hts _ g.2.1) (hts _ g.2.2.1) (hts _ g.2.2.2) hk (by show _ + 13 ≤ 60 * K; omega) (Nat.zero_le _) (Nat.zero_le _) hdg kk
theorem ne_ti {x k : Int32} (h : ¬ x = k) : x.toInt ≠ k.toInt := fun e => h (Int32.toInt_inj.mp e)
def lyX : LY := ([(7, [.inl 1, .inl 6, .inl 7, .inl 8, .inl 9, .inr 0]), (0, [.inl 2, .inl 3, .inl 4]), (4, [.inl 10, .inl 11, .inl 12, .inl 13, .inl 14, .inr 1, .inr 2]), (5, [.inl 15, .inl 16, .inl 17, .inl 18, .inl 19, .inl 20, .inr 3]), (2, [.inl 5, .inl 21, .inl 22, .inl 23, .inl 24, .inl 25, .inl 26, .inl 27, .inl 28, .inl 29, .inr 4]), (6, [.inl 30, .inl 31, .inl 32, .inr 5]), (1, [.inl 33, .inl 34, .inl 35, .inl 36, .inl 37, .inr 6, .inr 7]), (3, [.inl 38, .inl 39, .inl 40, .inr 8])], [(20, false), (6, false), (20, false), (20, false), (20, false), (20, false), (160, false), (40, false), (40, false), (40, false), (40, false), (40, false), (40, false), (3, false), (99, false), (60, false), (60, false), (60, false), (60, false), (60, false), (60, true), (60, false), (20, false), (20, false), (20, false), (4, false), (80, false), (4, false), (4, false), (6, false), (20, false), (100, false), (100, false)])
def lyM : LY := ([(8, [.inr 0, .inr 1, .inl 1, .inl 2, .inl 3, .inl 4, .inl 5, .inl 6, .inl 7, .inr 2, .inl 8, .inl 9, .inl 10, .inl 11, .inl 12, .inl 13, .inr 3, .inl 14, .inl 15, .inl 16, .inl 17, .inl 18, .inr 4, .inl 19, .inl 20, .inl 21, .inr 5, .inl 22, .inr 6, .inl 23, .inr 7, .inl 24, .inl 25, .inl 26, .inr 8, .inl 27, .inl 28, .inl 29, .inr 9, .inl 30, .inl 31, .inl 32, .inl 33, .inr 10])], [(20, false), (20, false), (20, false), (20, false), (160, false), (99, false), (3, false), (40, false), (40, false), (40, false), (40, false), (40, false), (40, false), (60, false), (60, false), (60, false), (60, false), (60, false), (20, false), (20, false), (20, false), (4, false), (4, false), (20, false), (100, false), (100, false), (20, false), (6, false), (60, true), (20, false), (80, true), (5, false), (20, false)])
def scX : List (Nat × Nat) := [(0, 5), (2, 5), (2, 6), (3, 6), (4, 10), (5, 3), (6, 5), (6, 6), (7, 3)]
def scM : List (Nat × Nat) := [(0, 0), (0, 1), (0, 9), (0, 16), (0, 22), (0, 26), (0, 28), (0, 30), (0, 34), (0, 38), (0, 43)]
theorem lyX_ok : lyOk lyX scX := lyOk_of (by decide +kernel)
theorem lyM_ok : lyOk lyM scM := lyOk_of (by decide +kernel)
theorem alX_8 : AL lyX 8 20 false := ⟨by decide, rfl⟩
theorem alX_9 : AL lyX 9 6 false := ⟨by decide, rfl⟩
theorem alX_10 : AL lyX 10 20 false := ⟨by decide, rfl⟩
theorem alX_11 : AL lyX 11 20 false := ⟨by decide, rfl⟩
theorem alX_12 : AL lyX 12 20 false := ⟨by decide, rfl⟩
theorem alX_13 : AL lyX 13 20 false := ⟨by decide, rfl⟩
theorem alX_14 : AL lyX 14 160 false := ⟨by decide, rfl⟩
theorem alX_15 : AL lyX 15 40 false := ⟨by decide, rfl⟩
theorem alX_16 : AL lyX 16 40 false := ⟨by decide, rfl⟩
theorem alX_17 : AL lyX 17 40 false := ⟨by decide, rfl⟩
theorem alX_18 : AL lyX 18 40 false := ⟨by decide, rfl⟩
theorem alX_19 : AL lyX 19 40 false := ⟨by decide, rfl⟩
theorem alX_20 : AL lyX 20 40 false := ⟨by decide, rfl⟩
theorem alX_21 : AL lyX 21 3 false := ⟨by decide, rfl⟩
theorem alX_22 : AL lyX 22 99 false := ⟨by decide, rfl⟩
theorem alX_23 : AL lyX 23 60 false := ⟨by decide, rfl⟩
theorem alX_24 : AL lyX 24 60 false := ⟨by decide, rfl⟩
theorem alX_25 : AL lyX 25 60 false := ⟨by decide, rfl⟩
theorem alX_26 : AL lyX 26 60 false := ⟨by decide, rfl⟩
theorem alX_27 : AL lyX 27 60 false := ⟨by decide, rfl⟩
theorem alX_28 : AL lyX 28 60 true := ⟨by decide, rfl⟩
theorem alX_29 : AL lyX 29 60 false := ⟨by decide, rfl⟩
theorem alX_30 : AL lyX 30 20 false := ⟨by decide, rfl⟩
theorem alX_31 : AL lyX 31 20 false := ⟨by decide, rfl⟩
theorem alX_32 : AL lyX 32 20 false := ⟨by decide, rfl⟩
theorem alX_33 : AL lyX 33 4 false := ⟨by decide, rfl⟩
theorem alX_34 : AL lyX 34 80 false := ⟨by decide, rfl⟩
theorem alX_35 : AL lyX 35 4 false := ⟨by decide, rfl⟩
theorem alX_36 : AL lyX 36 4 false := ⟨by decide, rfl⟩
theorem alX_37 : AL lyX 37 6 false := ⟨by decide, rfl⟩
theorem alX_38 : AL lyX 38 20 false := ⟨by decide, rfl⟩
theorem alX_39 : AL lyX 39 100 false := ⟨by decide, rfl⟩
theorem alX_40 : AL lyX 40 100 false := ⟨by decide, rfl⟩
theorem alM_1 : AL lyM 1 20 false := ⟨by decide, rfl⟩
theorem alM_2 : AL lyM 2 20 false := ⟨by decide, rfl⟩
theorem alM_3 : AL lyM 3 20 false := ⟨by decide, rfl⟩
theorem alM_4 : AL lyM 4 20 false := ⟨by decide, rfl⟩
theorem alM_5 : AL lyM 5 160 false := ⟨by decide, rfl⟩
theorem alM_6 : AL lyM 6 99 false := ⟨by decide, rfl⟩
theorem alM_7 : AL lyM 7 3 false := ⟨by decide, rfl⟩
theorem alM_8 : AL lyM 8 40 false := ⟨by decide, rfl⟩
theorem alM_9 : AL lyM 9 40 false := ⟨by decide, rfl⟩
theorem alM_10 : AL lyM 10 40 false := ⟨by decide, rfl⟩
theorem alM_11 : AL lyM 11 40 false := ⟨by decide, rfl⟩
theorem alM_12 : AL lyM 12 40 false := ⟨by decide, rfl⟩
theorem alM_13 : AL lyM 13 40 false := ⟨by decide, rfl⟩
theorem alM_14 : AL lyM 14 60 false := ⟨by decide, rfl⟩
theorem alM_15 : AL lyM 15 60 false := ⟨by decide, rfl⟩
theorem alM_16 : AL lyM 16 60 false := ⟨by decide, rfl⟩
theorem alM_17 : AL lyM 17 60 false := ⟨by decide, rfl⟩
theorem alM_18 : AL lyM 18 60 false := ⟨by decide, rfl⟩
theorem alM_19 : AL lyM 19 20 false := ⟨by decide, rfl⟩
theorem alM_20 : AL lyM 20 20 false := ⟨by decide, rfl⟩
theorem alM_21 : AL lyM 21 20 false := ⟨by decide, rfl⟩
theorem alM_22 : AL lyM 22 4 false := ⟨by decide, rfl⟩
theorem alM_23 : AL lyM 23 4 false := ⟨by decide, rfl⟩
theorem alM_24 : AL lyM 24 20 false := ⟨by decide, rfl⟩
theorem alM_25 : AL lyM 25 100 false := ⟨by decide, rfl⟩
theorem alM_26 : AL lyM 26 100 false := ⟨by decide, rfl⟩
theorem alM_27 : AL lyM 27 20 false := ⟨by decide, rfl⟩
theorem alM_28 : AL lyM 28 6 false := ⟨by decide, rfl⟩
theorem alM_29 : AL lyM 29 60 true := ⟨by decide, rfl⟩
theorem alM_30 : AL lyM 30 20 false := ⟨by decide, rfl⟩
theorem alM_31 : AL lyM 31 80 true := ⟨by decide, rfl⟩
theorem alM_32 : AL lyM 32 5 false := ⟨by decide, rfl⟩
theorem alM_33 : AL lyM 33 20 false := ⟨by decide, rfl⟩
theorem kwJ6_265 : Cond.constant RJ6 265 (1431655765) ∈ TB := tb2 175 rfl rfl
theorem kwJ6_266 : Cond.constant RJ6 266 (858993459) ∈ TB := tb2 176 rfl rfl
theorem kwJ6_267 : Cond.constant RJ6 267 (252645135) ∈ TB := tb2 177 rfl rfl
theorem gtX0_12 : GR lyX RX0 12 1 2 := ⟨0, 0, _, _, _, _, rfl, rfl, rfl, by decide, tbX0, tb1 172 rfl rfl⟩
theorem lkX0_85 : CLV lyX RX0 85 yX4_isExaminer cX4_isExaminer 2 (some .boolean) 1 2 := ⟨⟨tb2 185 rfl rfl, tb1 3 rfl rfl, tb2 182 rfl rfl, ⟨by decide +kernel, by decide +kernel, by decide +kernel⟩, by decide⟩, tb2 183 rfl rfl, tb2 184 rfl rfl, 4, _, _, _, rfl, rfl⟩
theorem gtX0_89 : GR lyX RX0 89 2 12 := ⟨4, 2, _, _, _, _, rfl, rfl, rfl, by decide, tbX4, tb1 40 rfl rfl⟩
theorem gtX0_43 : GR lyX RX0 43 2 13 := ⟨4, 3, _, _, _, _, rfl, rfl, rfl, by decide, tbX4, tb1 42 rfl rfl⟩
theorem gtX0_28 : GR lyX RX0 28 1 4 := ⟨0, 2, _, _, _, _, rfl, rfl, rfl, by decide, tbX0, tb1 178 rfl rfl⟩
theorem gtX0_92 : GR lyX RX0 92 4 5 := ⟨2, 0, _, _, _, _, rfl, rfl, rfl, by decide, tbX2, tb1 128 rfl rfl⟩
theorem lkX0_96 : CLV lyX RX0 96 yX6_hit cX6_hit 5 (some .boolean) 3 5 := ⟨⟨tb2 120 rfl rfl, tb1 6 rfl rfl, tb2 186 rfl rfl, ⟨by decide +kernel, by decide +kernel, by decide +kernel⟩, by decide⟩, tb2 118 rfl rfl, tb2 119 rfl rfl, 6, _, _, _, rfl, rfl⟩
theorem lkX0_40 : CLV lyX RX0 40 yX2_heldOn cX2_heldOn 6 (some .int) 3 4 := ⟨⟨tb2 132 rfl rfl, tb1 5 rfl rfl, tb2 150 rfl rfl, ⟨by decide +kernel, by decide +kernel, by decide +kernel⟩, by decide⟩, tb2 130 rfl rfl, tb2 131 rfl rfl, 2, _, _, _, rfl, rfl⟩
theorem lkX0_71 : CLS RX0 71 yJ6_bitCount_0f7a4 cJ6_bitCount_0f7a4 1 (some .int) 1 := ⟨⟨tb2 174 rfl rfl, tb1 12 rfl rfl, tb2 172 rfl rfl, ⟨by decide +kernel, by decide +kernel, by decide +kernel⟩, by decide⟩, tb2 173 rfl rfl⟩
theorem gtX0_77 : GI lyX RX0 77 2 1 := ⟨4, 5, _, _, _, _, rfl, rfl, rfl, by decide, tbX4, tb1 47 rfl rfl⟩
theorem lkX0_81 : CLV lyX RX0 81 yX0_whyNoJudge cX0_whyNoJudge 6 (some .int) 5 1 := ⟨⟨tb2 181 rfl rfl, tb1 2 rfl rfl, tb2 178 rfl rfl, ⟨by decide +kernel, by decide +kernel, by decide +kernel⟩, by decide⟩, tb2 179 rfl rfl, tb2 180 rfl rfl, 0, _, _, _, rfl, rfl⟩
theorem gtX0_21 : GR lyX RX0 21 1 3 := ⟨0, 1, _, _, _, _, rfl, rfl, rfl, by decide, tbX0, tb1 175 rfl rfl⟩
theorem lkX0_32 : CLV lyX RX0 32 yX5_inForce cX5_inForce 6 (some .int) 3 3 := ⟨⟨tb2 100 rfl rfl, tb1 4 rfl rfl, tb2 149 rfl rfl, ⟨by decide +kernel, by decide +kernel, by decide +kernel⟩, by decide⟩, tb2 98 rfl rfl, tb2 99 rfl rfl, 5, _, _, _, rfl, rfl⟩
theorem gtX0_36 : GR lyX RX0 36 2 10 := ⟨4, 0, _, _, _, _, rfl, rfl, rfl, by decide, tbX4, tb1 34 rfl rfl⟩
theorem gtX0_46 : GR lyX RX0 46 2 11 := ⟨4, 1, _, _, _, _, rfl, rfl, rfl, by decide, tbX4, tb1 37 rfl rfl⟩
theorem gtX0_49 : GR lyX RX0 49 3 18 := ⟨5, 3, _, _, _, _, rfl, rfl, rfl, by decide, tbX5, tb1 78 rfl rfl⟩
theorem lkX0_52 : CLV lyX RX0 52 yX2_lastGraded cX2_lastGraded 5 (some .int) 2 4 := ⟨⟨tb2 154 rfl rfl, tb1 5 rfl rfl, tb2 151 rfl rfl, ⟨by decide +kernel, by decide +kernel, by decide +kernel⟩, by decide⟩, tb2 152 rfl rfl, tb2 153 rfl rfl, 2, _, _, _, rfl, rfl⟩
theorem gtX0_56 : GR lyX RX0 56 3 17 := ⟨5, 2, _, _, _, _, rfl, rfl, rfl, by decide, tbX5, tb1 76 rfl rfl⟩
theorem gtX0_59 : GR lyX RX0 59 3 19 := ⟨5, 4, _, _, _, _, rfl, rfl, rfl, by decide, tbX5, tb1 80 rfl rfl⟩
theorem mkX0_62 : MK RX0 62 Lib.Math.max.name Lib.Math.max.code 2 := ⟨tb2 155 rfl rfl, tb2 127 rfl rfl, tb1 11 rfl rfl, tb2 128 rfl rfl⟩
theorem lkX0_67 : CLV lyX RX0 67 yX4_passedAll cX4_passedAll 7 (some .boolean) 4 2 := ⟨⟨tb2 159 rfl rfl, tb1 3 rfl rfl, tb2 156 rfl rfl, ⟨by decide +kernel, by decide +kernel, by decide +kernel⟩, by decide⟩, tb2 157 rfl rfl, tb2 158 rfl rfl, 4, _, _, _, rfl, rfl⟩
theorem gtX1_27 : GI lyX RX1 27 6 6 := ⟨1, 5, _, _, _, _, rfl, rfl, rfl, by decide, tbX1, tb1 200 rfl rfl⟩
theorem gtX1_18 : GR lyX RX1 18 6 35 := ⟨1, 2, _, _, _, _, rfl, rfl, rfl, by decide, tbX1, tb1 196 rfl rfl⟩
theorem gtX1_9 : GR lyX RX1 9 6 33 := ⟨1, 0, _, _, _, _, rfl, rfl, rfl, by decide, tbX1, tb1 194 rfl rfl⟩
theorem gpX1_27 : GP lyX RX1 27 6 6 .int := ⟨scX, 1, 5, _, _, _, _, tyX1, lyX_ok, rfl, rfl, rfl, by decide, tbX1, tb1 200 rfl rfl, rfl, by decide +kernel, tyX1_ok, nmX1⟩
theorem gpX1_31 : GP lyX RX1 31 6 7 .boolean := ⟨scX, 1, 6, _, _, _, _, tyX1, lyX_ok, rfl, rfl, rfl, by decide, tbX1, tb1 202 rfl rfl, rfl, by decide +kernel, tyX1_ok, nmX1⟩
theorem gtX1_21 : GR lyX RX1 21 6 36 := ⟨1, 3, _, _, _, _, rfl, rfl, rfl, by decide, tbX1, tb1 197 rfl rfl⟩
theorem gtX1_49 : GR lyX RX1 49 1 4 := ⟨0, 2, _, _, _, _, rfl, rfl, rfl, by decide, tbX0, tb1 179 rfl rfl⟩
theorem lkX1_55 : CLV lyX RX1 55 yX2_heldOn cX2_heldOn 6 (some .int) 3 4 := ⟨⟨tb2 132 rfl rfl, tb1 5 rfl rfl, tb3 22 rfl rfl, ⟨by decide +kernel, by decide +kernel, by decide +kernel⟩, by decide⟩, tb2 130 rfl rfl, tb2 131 rfl rfl, 2, _, _, _, rfl, rfl⟩
theorem gtX1_61 : GR lyX RX1 61 1 3 := ⟨0, 1, _, _, _, _, rfl, rfl, rfl, by decide, tbX0, tb1 176 rfl rfl⟩
theorem lkX1_65 : CLV lyX RX1 65 yX5_inForce cX5_inForce 6 (some .int) 3 3 := ⟨⟨tb2 100 rfl rfl, tb1 4 rfl rfl, tb3 23 rfl rfl, ⟨by decide +kernel, by decide +kernel, by decide +kernel⟩, by decide⟩, tb2 98 rfl rfl, tb2 99 rfl rfl, 5, _, _, _, rfl, rfl⟩
theorem lkX1_70 : CLV lyX RX1 70 yX0_whyNot cX0_whyNot 9 (some .int) 4 1 := ⟨⟨tb2 148 rfl rfl, tb1 2 rfl rfl, tb3 24 rfl rfl, ⟨by decide +kernel, by decide +kernel, by decide +kernel⟩, by decide⟩, tb2 146 rfl rfl, tb2 147 rfl rfl, 0, _, _, _, rfl, rfl⟩
theorem gtX1_74 : GR lyX RX1 74 1 2 := ⟨0, 0, _, _, _, _, rfl, rfl, rfl, by decide, tbX0, tb1 174 rfl rfl⟩
theorem gtX1_78 : GI lyX RX1 78 2 1 := ⟨4, 5, _, _, _, _, rfl, rfl, rfl, by decide, tbX4, tb1 48 rfl rfl⟩
theorem gtX1_81 : GR lyX RX1 81 3 20 := ⟨5, 5, _, _, _, _, rfl, rfl, rfl, by decide, tbX5, tb1 82 rfl rfl⟩
theorem lkX1_84 : CLV lyX RX1 84 yX0_whyNoJudge cX0_whyNoJudge 6 (some .int) 5 1 := ⟨⟨tb2 181 rfl rfl, tb1 2 rfl rfl, tb3 25 rfl rfl, ⟨by decide +kernel, by decide +kernel, by decide +kernel⟩, by decide⟩, tb2 179 rfl rfl, tb2 180 rfl rfl, 0, _, _, _, rfl, rfl⟩
theorem gtX1_24 : GR lyX RX1 24 6 37 := ⟨1, 4, _, _, _, _, rfl, rfl, rfl, by decide, tbX1, tb1 199 rfl rfl⟩
theorem lkX1_88 : CLV lyX RX1 88 yX1_listPanels cX1_listPanels 7 none 2 6 := ⟨⟨tb3 29 rfl rfl, tb1 7 rfl rfl, tb3 26 rfl rfl, ⟨by decide +kernel, by decide +kernel, by decide +kernel⟩, by decide⟩, tb3 28 rfl rfl, tb0 6 (n := 7) rfl, 1, _, _, _, rfl, rfl⟩
theorem gtX1_15 : GR lyX RX1 15 6 34 := ⟨1, 1, _, _, _, _, rfl, rfl, rfl, by decide, tbX1, tb1 195 rfl rfl⟩
theorem lkX1_92 : CLV lyX RX1 92 yX1_ableFrom cX1_ableFrom 4 (some .int) 1 6 := ⟨⟨tb3 37 rfl rfl, tb1 7 rfl rfl, tb3 34 rfl rfl, ⟨by decide +kernel, by decide +kernel, by decide +kernel⟩, by decide⟩, tb3 36 rfl rfl, tb0 8 (n := 7) rfl, 1, _, _, _, rfl, rfl⟩
theorem lkX1_96 : CLV lyX RX1 96 yX1_fullAhead cX1_fullAhead 7 (some .int) 2 6 := ⟨⟨tb3 41 rfl rfl, tb1 7 rfl rfl, tb3 38 rfl rfl, ⟨by decide +kernel, by decide +kernel, by decide +kernel⟩, by decide⟩, tb3 40 rfl rfl, tb0 9 (n := 7) rfl, 1, _, _, _, rfl, rfl⟩
theorem lkX1_39 : CLV lyX RX1 39 yX1_place cX1_place 7 (some .boolean) 3 6 := ⟨⟨tb3 33 rfl rfl, tb1 7 rfl rfl, tb3 30 rfl rfl, ⟨by decide +kernel, by decide +kernel, by decide +kernel⟩, by decide⟩, tb3 32 rfl rfl, tb0 7 (n := 7) rfl, 1, _, _, _, rfl, rfl⟩
theorem lkX1_35 : CLV lyX RX1 35 yX1_listOptions cX1_listOptions 10 none 4 6 := ⟨⟨tb3 21 rfl rfl, tb1 7 rfl rfl, tb3 18 rfl rfl, ⟨by decide +kernel, by decide +kernel, by decide +kernel⟩, by decide⟩, tb3 20 rfl rfl, tb0 5 (n := 7) rfl, 1, _, _, _, rfl, rfl⟩
theorem lkX1_43 : CLS RX1 43 yJ7_fill_53178 cJ7_fill_53178 4 none 2 := ⟨⟨tb2 112 rfl rfl, tb1 10 rfl rfl, tb3 42 rfl rfl, ⟨by decide +kernel, by decide +kernel, by decide +kernel⟩, by decide⟩, tb2 111 rfl rfl⟩
theorem gtX2_47 : GI lyX RX2 47 4 4 := ⟨2, 10, _, _, _, _, rfl, rfl, rfl, by decide, tbX2, tb1 146 rfl rfl⟩
theorem gtX2_25 : GR lyX RX2 25 4 23 := ⟨2, 3, _, _, _, _, rfl, rfl, rfl, by decide, tbX2, tb1 133 rfl rfl⟩
theorem gtX2_28 : GR lyX RX2 28 4 24 := ⟨2, 4, _, _, _, _, rfl, rfl, rfl, by decide, tbX2, tb1 135 rfl rfl⟩
theorem gtX2_31 : GR lyX RX2 31 4 25 := ⟨2, 5, _, _, _, _, rfl, rfl, rfl, by decide, tbX2, tb1 137 rfl rfl⟩
theorem gtX2_34 : GR lyX RX2 34 4 26 := ⟨2, 6, _, _, _, _, rfl, rfl, rfl, by decide, tbX2, tb1 139 rfl rfl⟩
theorem gtX2_37 : GR lyX RX2 37 4 27 := ⟨2, 7, _, _, _, _, rfl, rfl, rfl, by decide, tbX2, tb1 141 rfl rfl⟩
theorem gpX2_47 : GP lyX RX2 47 4 4 .int := ⟨scX, 2, 10, _, _, _, _, tyX2, lyX_ok, rfl, rfl, rfl, by decide, tbX2, tb1 146 rfl rfl, rfl, by decide +kernel, tyX2_ok, nmX2⟩
theorem gtX2_40 : GR lyX RX2 40 4 28 := ⟨2, 8, _, _, _, _, rfl, rfl, rfl, by decide, tbX2, tb1 143 rfl rfl⟩
theorem gtX2_18 : GR lyX RX2 18 4 21 := ⟨2, 1, _, _, _, _, rfl, rfl, rfl, by decide, tbX2, tb1 130 rfl rfl⟩
theorem gtX2_12 : GR lyX RX2 12 4 5 := ⟨2, 0, _, _, _, _, rfl, rfl, rfl, by decide, tbX2, tb1 127 rfl rfl⟩
theorem lkX2_65 : CLV lyX RX2 65 yX6_hit cX6_hit 5 (some .boolean) 3 5 := ⟨⟨tb2 120 rfl rfl, tb1 6 rfl rfl, tb2 117 rfl rfl, ⟨by decide +kernel, by decide +kernel, by decide +kernel⟩, by decide⟩, tb2 118 rfl rfl, tb2 119 rfl rfl, 6, _, _, _, rfl, rfl⟩
theorem lkX2_82 : CLV lyX RX2 82 yX2_counts cX2_counts 4 (some .boolean) 3 4 := ⟨⟨tb2 136 rfl rfl, tb1 5 rfl rfl, tb2 133 rfl rfl, ⟨by decide +kernel, by decide +kernel, by decide +kernel⟩, by decide⟩, tb2 135 rfl rfl, tb0 3 (n := 11) rfl, 2, _, _, _, rfl, rfl⟩
theorem lkX2_69 : CLV lyX RX2 69 yX2_value cX2_value 4 (some .int) 3 4 := ⟨⟨tb2 76 rfl rfl, tb1 5 rfl rfl, tb2 125 rfl rfl, ⟨by decide +kernel, by decide +kernel, by decide +kernel⟩, by decide⟩, tb2 74 rfl rfl, tb2 75 rfl rfl, 2, _, _, _, rfl, rfl⟩
theorem mkX2_73 : MK RX2 73 Lib.Math.max.name Lib.Math.max.code 2 := ⟨tb2 126 rfl rfl, tb2 127 rfl rfl, tb1 11 rfl rfl, tb2 128 rfl rfl⟩
theorem gtX2_44 : GR lyX RX2 44 4 29 := ⟨2, 9, _, _, _, _, rfl, rfl, rfl, by decide, tbX2, tb1 145 rfl rfl⟩
theorem lkX2_51 : CLS RX2 51 yJ7_fill_53178 cJ7_fill_53178 4 none 2 := ⟨⟨tb2 112 rfl rfl, tb1 10 rfl rfl, tb2 110 rfl rfl, ⟨by decide +kernel, by decide +kernel, by decide +kernel⟩, by decide⟩, tb2 111 rfl rfl⟩
theorem lkX2_57 : CLV lyX RX2 57 yX2_falls cX2_falls 3 (some .boolean) 2 4 := ⟨⟨tb2 116 rfl rfl, tb1 5 rfl rfl, tb2 113 rfl rfl, ⟨by decide +kernel, by decide +kernel, by decide +kernel⟩, by decide⟩, tb2 115 rfl rfl, tb0 1 (n := 11) rfl, 2, _, _, _, rfl, rfl⟩
theorem lkX2_61 : CLV lyX RX2 61 yX2_raise cX2_raise 4 none 1 4 := ⟨⟨tb2 124 rfl rfl, tb1 5 rfl rfl, tb2 121 rfl rfl, ⟨by decide +kernel, by decide +kernel, by decide +kernel⟩, by decide⟩, tb2 123 rfl rfl, tb0 2 (n := 11) rfl, 2, _, _, _, rfl, rfl⟩
theorem gtX2_22 : GR lyX RX2 22 4 22 := ⟨2, 2, _, _, _, _, rfl, rfl, rfl, by decide, tbX2, tb1 132 rfl rfl⟩
theorem lkX2_79 : CLV lyX RX2 79 yX2_know cX2_know 4 none 1 4 := ⟨⟨tb2 109 rfl rfl, tb1 5 rfl rfl, tb2 221 rfl rfl, ⟨by decide +kernel, by decide +kernel, by decide +kernel⟩, by decide⟩, tb2 107 rfl rfl, tb2 108 rfl rfl, 2, _, _, _, rfl, rfl⟩
theorem gtX3_21 : GI lyX RX3 21 7 8 := ⟨3, 3, _, _, _, _, rfl, rfl, rfl, by decide, tbX3, tb1 228 rfl rfl⟩
theorem gpX3_21 : GP lyX RX3 21 7 8 .int := ⟨scX, 3, 3, _, _, _, _, tyX3, lyX_ok, rfl, rfl, rfl, by decide, tbX3, tb1 228 rfl rfl, rfl, by decide +kernel, tyX3_ok, nmX3⟩
theorem lkX3_34 : CLV lyX RX3 34 yX3_middleOf cX3_middleOf 5 (some .int) 1 7 := ⟨⟨tb3 83 rfl rfl, tb1 8 rfl rfl, tb3 96 rfl rfl, ⟨by decide +kernel, by decide +kernel, by decide +kernel⟩, by decide⟩, tb3 81 rfl rfl, tb3 82 rfl rfl, 3, _, _, _, rfl, rfl⟩
theorem gtX3_18 : GR lyX RX3 18 7 40 := ⟨3, 2, _, _, _, _, rfl, rfl, rfl, by decide, tbX3, tb1 227 rfl rfl⟩
theorem mkX3_38 : MK RX3 38 Lib.Math.abs.name Lib.Math.abs.code 1 := ⟨tb3 97 rfl rfl, tb3 98 rfl rfl, tb1 11 rfl rfl, tb3 99 rfl rfl⟩
theorem lkX3_41 : CLV lyX RX3 41 yX3_placeFor cX3_placeFor 4 (some .int) 2 7 := ⟨⟨tb3 66 rfl rfl, tb1 8 rfl rfl, tb3 108 rfl rfl, ⟨by decide +kernel, by decide +kernel, by decide +kernel⟩, by decide⟩, tb3 64 rfl rfl, tb3 65 rfl rfl, 3, _, _, _, rfl, rfl⟩
theorem lkX3_44 : CLV lyX RX3 44 yX3_isWhole cX3_isWhole 2 (some .boolean) 1 7 := ⟨⟨tb3 79 rfl rfl, tb1 8 rfl rfl, tb3 109 rfl rfl, ⟨by decide +kernel, by decide +kernel, by decide +kernel⟩, by decide⟩, tb3 77 rfl rfl, tb3 78 rfl rfl, 3, _, _, _, rfl, rfl⟩
theorem gtX3_9 : GR lyX RX3 9 7 38 := ⟨3, 0, _, _, _, _, rfl, rfl, rfl, by decide, tbX3, tb1 225 rfl rfl⟩
theorem lkX3_31 : CLV lyX RX3 31 yX3_upTo cX3_upTo 5 (some .int) 2 7 := ⟨⟨tb3 87 rfl rfl, tb1 8 rfl rfl, tb3 84 rfl rfl, ⟨by decide +kernel, by decide +kernel, by decide +kernel⟩, by decide⟩, tb3 86 rfl rfl, tb0 10 (n := 4) rfl, 3, _, _, _, rfl, rfl⟩
theorem gtX3_15 : GR lyX RX3 15 7 39 := ⟨3, 1, _, _, _, _, rfl, rfl, rfl, by decide, tbX3, tb1 226 rfl rfl⟩
theorem mkX3_25 : MK RX3 25 Lib.Math.max.name Lib.Math.max.code 2 := ⟨tb3 71 rfl rfl, tb2 127 rfl rfl, tb1 11 rfl rfl, tb2 128 rfl rfl⟩
theorem gtX4_27 : GI lyX RX4 27 2 1 := ⟨4, 5, _, _, _, _, rfl, rfl, rfl, by decide, tbX4, tb1 46 rfl rfl⟩
theorem gtX4_9 : GR lyX RX4 9 2 10 := ⟨4, 0, _, _, _, _, rfl, rfl, rfl, by decide, tbX4, tb1 33 rfl rfl⟩
theorem gtX4_15 : GR lyX RX4 15 2 11 := ⟨4, 1, _, _, _, _, rfl, rfl, rfl, by decide, tbX4, tb1 36 rfl rfl⟩
theorem gtX4_18 : GR lyX RX4 18 2 12 := ⟨4, 2, _, _, _, _, rfl, rfl, rfl, by decide, tbX4, tb1 38 rfl rfl⟩
theorem gtX4_21 : GR lyX RX4 21 2 13 := ⟨4, 3, _, _, _, _, rfl, rfl, rfl, by decide, tbX4, tb1 41 rfl rfl⟩
theorem gtX4_24 : GR lyX RX4 24 2 14 := ⟨4, 4, _, _, _, _, rfl, rfl, rfl, by decide, tbX4, tb1 44 rfl rfl⟩
theorem gtX4_31 : GI lyX RX4 31 2 2 := ⟨4, 6, _, _, _, _, rfl, rfl, rfl, by decide, tbX4, tb1 50 rfl rfl⟩
theorem gpX4_31 : GP lyX RX4 31 2 2 .int := ⟨scX, 4, 6, _, _, _, _, tyX4, lyX_ok, rfl, rfl, rfl, by decide, tbX4, tb1 50 rfl rfl, rfl, by decide +kernel, tyX4_ok, nmX4⟩
theorem gpX4_27 : GP lyX RX4 27 2 1 .int := ⟨scX, 4, 5, _, _, _, _, tyX4, lyX_ok, rfl, rfl, rfl, by decide, tbX4, tb1 46 rfl rfl, rfl, by decide +kernel, tyX4_ok, nmX4⟩
theorem gtX5_9 : GR lyX RX5 9 3 15 := ⟨5, 0, _, _, _, _, rfl, rfl, rfl, by decide, tbX5, tb1 73 rfl rfl⟩
theorem gtX5_30 : GI lyX RX5 30 3 3 := ⟨5, 6, _, _, _, _, rfl, rfl, rfl, by decide, tbX5, tb1 84 rfl rfl⟩
theorem gtX5_15 : GR lyX RX5 15 3 16 := ⟨5, 1, _, _, _, _, rfl, rfl, rfl, by decide, tbX5, tb1 74 rfl rfl⟩
theorem gtX5_18 : GR lyX RX5 18 3 17 := ⟨5, 2, _, _, _, _, rfl, rfl, rfl, by decide, tbX5, tb1 75 rfl rfl⟩
theorem gtX5_21 : GR lyX RX5 21 3 18 := ⟨5, 3, _, _, _, _, rfl, rfl, rfl, by decide, tbX5, tb1 77 rfl rfl⟩
theorem gtX5_24 : GR lyX RX5 24 3 19 := ⟨5, 4, _, _, _, _, rfl, rfl, rfl, by decide, tbX5, tb1 79 rfl rfl⟩
theorem gtX5_27 : GR lyX RX5 27 3 20 := ⟨5, 5, _, _, _, _, rfl, rfl, rfl, by decide, tbX5, tb1 81 rfl rfl⟩
theorem gpX5_30 : GP lyX RX5 30 3 3 .int := ⟨scX, 5, 6, _, _, _, _, tyX5, lyX_ok, rfl, rfl, rfl, by decide, tbX5, tb1 84 rfl rfl, rfl, by decide +kernel, tyX5_ok, nmX5⟩
theorem gtX6_9 : GR lyX RX6 9 5 30 := ⟨6, 0, _, _, _, _, rfl, rfl, rfl, by decide, tbX6, tb1 113 rfl rfl⟩
theorem gtX6_21 : GI lyX RX6 21 5 5 := ⟨6, 3, _, _, _, _, rfl, rfl, rfl, by decide, tbX6, tb1 116 rfl rfl⟩
theorem gtX6_15 : GR lyX RX6 15 5 31 := ⟨6, 1, _, _, _, _, rfl, rfl, rfl, by decide, tbX6, tb1 114 rfl rfl⟩
theorem gtX6_18 : GR lyX RX6 18 5 32 := ⟨6, 2, _, _, _, _, rfl, rfl, rfl, by decide, tbX6, tb1 115 rfl rfl⟩
theorem gpX6_21 : GP lyX RX6 21 5 5 .int := ⟨scX, 6, 3, _, _, _, _, tyX6, lyX_ok, rfl, rfl, rfl, by decide, tbX6, tb1 116 rfl rfl, rfl, by decide +kernel, tyX6_ok, nmX6⟩
theorem gtX7_26 : GR lyX RX7 26 0 7 := ⟨7, 2, _, _, _, _, rfl, rfl, rfl, by decide, tbX7, tb2 1 rfl rfl⟩
theorem lkX7_212 : CLV lyX RX7 212 yX3_holds cX3_holds 2 (some .boolean) 1 7 := ⟨⟨tb3 62 rfl rfl, tb1 8 rfl rfl, tb3 59 rfl rfl, ⟨by decide +kernel, by decide +kernel, by decide +kernel⟩, by decide⟩, tb3 60 rfl rfl, tb3 61 rfl rfl, 3, _, _, _, rfl, rfl⟩
theorem lkX7_44 : CLS RX7 44 yX7_isWithin cX7_isWithin 3 (some .boolean) 3 := ⟨⟨tb2 27 rfl rfl, tb1 1 rfl rfl, tb2 25 rfl rfl, ⟨by decide +kernel, by decide +kernel, by decide +kernel⟩, by decide⟩, tb2 26 rfl rfl⟩
theorem kwX7_48 : Cond.constant RX7 48 (-1000001) ∈ TB := tb2 31 rfl rfl
theorem lkX7_49 : CLV lyX RX7 49 yX7_finding cX7_finding 3 (some .int) 1 0 := ⟨⟨tb2 35 rfl rfl, tb1 1 rfl rfl, tb2 32 rfl rfl, ⟨by decide +kernel, by decide +kernel, by decide +kernel⟩, by decide⟩, tb2 34 rfl rfl, tb0 0 (n := 6) rfl, 7, _, _, _, rfl, rfl⟩
theorem lkX7_220 : CLV lyX RX7 220 yX3_isWhole cX3_isWhole 2 (some .boolean) 1 7 := ⟨⟨tb3 79 rfl rfl, tb1 8 rfl rfl, tb3 76 rfl rfl, ⟨by decide +kernel, by decide +kernel, by decide +kernel⟩, by decide⟩, tb3 77 rfl rfl, tb3 78 rfl rfl, 3, _, _, _, rfl, rfl⟩
theorem kwX7_151 : Cond.constant RX7 151 (-1000003) ∈ TB := tb2 195 rfl rfl
theorem lkX7_226 : CLV lyX RX7 226 yX3_awayFromMiddle cX3_awayFromMiddle 6 (some .int) 2 7 := ⟨⟨tb3 95 rfl rfl, tb1 8 rfl rfl, tb3 92 rfl rfl, ⟨by decide +kernel, by decide +kernel, by decide +kernel⟩, by decide⟩, tb3 93 rfl rfl, tb3 94 rfl rfl, 3, _, _, _, rfl, rfl⟩
theorem gtX7_12 : GR lyX RX7 12 0 1 := ⟨7, 0, _, _, _, _, rfl, rfl, rfl, by decide, tbX7, tb1 239 rfl rfl⟩
theorem gtX7_53 : GR lyX RX7 53 1 2 := ⟨0, 0, _, _, _, _, rfl, rfl, rfl, by decide, tbX0, tb1 173 rfl rfl⟩
theorem lkX7_67 : CLV lyX RX7 67 yX4_holds cX4_holds 2 (some .boolean) 1 2 := ⟨⟨tb2 53 rfl rfl, tb1 3 rfl rfl, tb2 50 rfl rfl, ⟨by decide +kernel, by decide +kernel, by decide +kernel⟩, by decide⟩, tb2 51 rfl rfl, tb2 52 rfl rfl, 4, _, _, _, rfl, rfl⟩
theorem lkX7_37 : CLS RX7 37 yX7_isKind cX7_isKind 1 (some .boolean) 1 := ⟨⟨tb2 24 rfl rfl, tb1 1 rfl rfl, tb2 22 rfl rfl, ⟨by decide +kernel, by decide +kernel, by decide +kernel⟩, by decide⟩, tb2 23 rfl rfl⟩
theorem gtX7_70 : GR lyX RX7 70 2 10 := ⟨4, 0, _, _, _, _, rfl, rfl, rfl, by decide, tbX4, tb1 35 rfl rfl⟩
theorem kwX7_73 : Cond.constant RX7 73 (-1000005) ∈ TB := tb2 54 rfl rfl
theorem gtX7_74 : GR lyX RX7 74 2 12 := ⟨4, 2, _, _, _, _, rfl, rfl, rfl, by decide, tbX4, tb1 39 rfl rfl⟩
theorem lkX7_83 : CLS RX7 83 yX7_isUnion cX7_isUnion 1 (some .boolean) 1 := ⟨⟨tb2 69 rfl rfl, tb1 1 rfl rfl, tb2 67 rfl rfl, ⟨by decide +kernel, by decide +kernel, by decide +kernel⟩, by decide⟩, tb2 68 rfl rfl⟩
theorem lkX7_41 : CLS RX7 41 yX7_isDay cX7_isDay 1 (some .boolean) 1 := ⟨⟨tb2 30 rfl rfl, tb1 1 rfl rfl, tb2 28 rfl rfl, ⟨by decide +kernel, by decide +kernel, by decide +kernel⟩, by decide⟩, tb2 29 rfl rfl⟩
theorem gtX7_89 : GR lyX RX7 89 1 4 := ⟨0, 2, _, _, _, _, rfl, rfl, rfl, by decide, tbX0, tb1 180 rfl rfl⟩
theorem lkX7_122 : CLV lyX RX7 122 yX2_know cX2_know 4 none 1 4 := ⟨⟨tb2 109 rfl rfl, tb1 5 rfl rfl, tb2 106 rfl rfl, ⟨by decide +kernel, by decide +kernel, by decide +kernel⟩, by decide⟩, tb2 107 rfl rfl, tb2 108 rfl rfl, 2, _, _, _, rfl, rfl⟩
theorem gtX7_19 : GR lyX RX7 19 0 6 := ⟨7, 1, _, _, _, _, rfl, rfl, rfl, by decide, tbX7, tb2 0 rfl rfl⟩
theorem lkX7_198 : CLV lyX RX7 198 yX1_seat cX1_seat 6 (some .int) 4 6 := ⟨⟨tb3 17 rfl rfl, tb1 7 rfl rfl, tb3 14 rfl rfl, ⟨by decide +kernel, by decide +kernel, by decide +kernel⟩, by decide⟩, tb3 15 rfl rfl, tb3 16 rfl rfl, 1, _, _, _, rfl, rfl⟩
theorem gtX7_232 : GI lyX RX7 232 0 0 := ⟨7, 5, _, _, _, _, rfl, rfl, rfl, by decide, tbX7, tb2 4 rfl rfl⟩
theorem gpX7_232 : GP lyX RX7 232 0 0 .int := ⟨scX, 7, 5, _, _, _, _, tyX7, lyX_ok, rfl, rfl, rfl, by decide, tbX7, tb2 4 rfl rfl, rfl, by decide +kernel, tyX7_ok, nmX7⟩
theorem gtX7_152 : GI lyX RX7 152 4 4 := ⟨2, 10, _, _, _, _, rfl, rfl, rfl, by decide, tbX2, tb1 147 rfl rfl⟩
theorem gtX7_171 : GR lyX RX7 171 4 28 := ⟨2, 8, _, _, _, _, rfl, rfl, rfl, by decide, tbX2, tb1 144 rfl rfl⟩
theorem gtX7_30 : GR lyX RX7 30 0 8 := ⟨7, 3, _, _, _, _, rfl, rfl, rfl, by decide, tbX7, tb2 2 rfl rfl⟩
theorem gtX7_235 : GI lyX RX7 235 2 1 := ⟨4, 5, _, _, _, _, rfl, rfl, rfl, by decide, tbX4, tb1 49 rfl rfl⟩
theorem gtX7_105 : GR lyX RX7 105 1 3 := ⟨0, 1, _, _, _, _, rfl, rfl, rfl, by decide, tbX0, tb1 177 rfl rfl⟩
theorem gtX7_109 : GI lyX RX7 109 3 3 := ⟨5, 6, _, _, _, _, rfl, rfl, rfl, by decide, tbX5, tb1 85 rfl rfl⟩
theorem gtX7_178 : GR lyX RX7 178 4 5 := ⟨2, 0, _, _, _, _, rfl, rfl, rfl, by decide, tbX2, tb1 129 rfl rfl⟩
theorem gtX7_182 : GI lyX RX7 182 5 5 := ⟨6, 3, _, _, _, _, rfl, rfl, rfl, by decide, tbX6, tb1 117 rfl rfl⟩
theorem gtX7_209 : GI lyX RX7 209 7 8 := ⟨3, 3, _, _, _, _, rfl, rfl, rfl, by decide, tbX3, tb1 229 rfl rfl⟩
theorem gtX7_192 : GI lyX RX7 192 6 6 := ⟨1, 5, _, _, _, _, rfl, rfl, rfl, by decide, tbX1, tb1 201 rfl rfl⟩
theorem lkX7_155 : CLV lyX RX7 155 yX2_holds cX2_holds 2 (some .boolean) 1 4 := ⟨⟨tb2 207 rfl rfl, tb1 5 rfl rfl, tb2 204 rfl rfl, ⟨by decide +kernel, by decide +kernel, by decide +kernel⟩, by decide⟩, tb2 205 rfl rfl, tb2 206 rfl rfl, 2, _, _, _, rfl, rfl⟩
theorem gtX7_156 : GR lyX RX7 156 4 23 := ⟨2, 3, _, _, _, _, rfl, rfl, rfl, by decide, tbX2, tb1 134 rfl rfl⟩
theorem gtX7_159 : GR lyX RX7 159 4 24 := ⟨2, 4, _, _, _, _, rfl, rfl, rfl, by decide, tbX2, tb1 136 rfl rfl⟩
theorem gtX7_162 : GR lyX RX7 162 4 25 := ⟨2, 5, _, _, _, _, rfl, rfl, rfl, by decide, tbX2, tb1 138 rfl rfl⟩
theorem gtX7_165 : GR lyX RX7 165 4 26 := ⟨2, 6, _, _, _, _, rfl, rfl, rfl, by decide, tbX2, tb1 140 rfl rfl⟩
theorem gtX7_168 : GR lyX RX7 168 4 27 := ⟨2, 7, _, _, _, _, rfl, rfl, rfl, by decide, tbX2, tb1 142 rfl rfl⟩
theorem kwX7_62 : Cond.constant RX7 62 (-1000004) ∈ TB := tb2 41 rfl rfl
theorem lkX7_210 : CLV lyX RX7 210 yX3_add cX3_add 2 (some .int) 0 7 := ⟨⟨tb3 54 rfl rfl, tb1 8 rfl rfl, tb3 51 rfl rfl, ⟨by decide +kernel, by decide +kernel, by decide +kernel⟩, by decide⟩, tb3 52 rfl rfl, tb3 53 rfl rfl, 3, _, _, _, rfl, rfl⟩
theorem kwX7_236 : Cond.constant RX7 236 (-1000000) ∈ TB := tb2 36 rfl rfl
theorem gtX7_34 : GR lyX RX7 34 0 9 := ⟨7, 4, _, _, _, _, rfl, rfl, rfl, by decide, tbX7, tb2 3 rfl rfl⟩
theorem lkX7_86 : CLS RX7 86 yX7_isGrade cX7_isGrade 1 (some .boolean) 1 := ⟨⟨tb2 72 rfl rfl, tb1 1 rfl rfl, tb2 70 rfl rfl, ⟨by decide +kernel, by decide +kernel, by decide +kernel⟩, by decide⟩, tb2 71 rfl rfl⟩
theorem lkX7_118 : CLV lyX RX7 118 yX5_inForce cX5_inForce 6 (some .int) 3 3 := ⟨⟨tb2 100 rfl rfl, tb1 4 rfl rfl, tb2 97 rfl rfl, ⟨by decide +kernel, by decide +kernel, by decide +kernel⟩, by decide⟩, tb2 98 rfl rfl, tb2 99 rfl rfl, 5, _, _, _, rfl, rfl⟩
theorem kwX7_121 : Cond.constant RX7 121 (-1000002) ∈ TB := tb2 101 rfl rfl
theorem lkX7_129 : CLV lyX RX7 129 yX7_isAsked cX7_isAsked 5 (some .boolean) 4 0 := ⟨⟨tb2 144 rfl rfl, tb1 1 rfl rfl, tb2 141 rfl rfl, ⟨by decide +kernel, by decide +kernel, by decide +kernel⟩, by decide⟩, tb2 143 rfl rfl, tb0 4 (n := 6) rfl, 7, _, _, _, rfl, rfl⟩
theorem lkX7_137 : CLV lyX RX7 137 yX4_areAll cX4_areAll 2 (some .boolean) 1 2 := ⟨⟨tb2 167 rfl rfl, tb1 3 rfl rfl, tb2 164 rfl rfl, ⟨by decide +kernel, by decide +kernel, by decide +kernel⟩, by decide⟩, tb2 165 rfl rfl, tb2 166 rfl rfl, 4, _, _, _, rfl, rfl⟩
theorem lkX7_147 : CLV lyX RX7 147 yX2_latestDay cX2_latestDay 1 (some .int) 0 4 := ⟨⟨tb2 194 rfl rfl, tb1 5 rfl rfl, tb2 191 rfl rfl, ⟨by decide +kernel, by decide +kernel, by decide +kernel⟩, by decide⟩, tb2 192 rfl rfl, tb2 193 rfl rfl, 2, _, _, _, rfl, rfl⟩
theorem lkX7_133 : CLV lyX RX7 133 yX0_whyNot cX0_whyNot 9 (some .int) 4 1 := ⟨⟨tb2 148 rfl rfl, tb1 2 rfl rfl, tb2 145 rfl rfl, ⟨by decide +kernel, by decide +kernel, by decide +kernel⟩, by decide⟩, tb2 146 rfl rfl, tb2 147 rfl rfl, 0, _, _, _, rfl, rfl⟩
theorem gtX7_140 : GR lyX RX7 140 3 20 := ⟨5, 5, _, _, _, _, rfl, rfl, rfl, by decide, tbX5, tb1 83 rfl rfl⟩
theorem lkX7_143 : CLV lyX RX7 143 yX0_whyNoPanel cX0_whyNoPanel 9 (some .int) 5 1 := ⟨⟨tb2 171 rfl rfl, tb1 2 rfl rfl, tb2 168 rfl rfl, ⟨by decide +kernel, by decide +kernel, by decide +kernel⟩, by decide⟩, tb2 169 rfl rfl, tb2 170 rfl rfl, 0, _, _, _, rfl, rfl⟩
theorem lkX7_153 : CLV lyX RX7 153 yX2_add cX2_add 7 (some .int) 5 4 := ⟨⟨tb2 199 rfl rfl, tb1 5 rfl rfl, tb2 196 rfl rfl, ⟨by decide +kernel, by decide +kernel, by decide +kernel⟩, by decide⟩, tb2 197 rfl rfl, tb2 198 rfl rfl, 2, _, _, _, rfl, rfl⟩
theorem gtX7_202 : GI lyX RX7 202 6 7 := ⟨1, 6, _, _, _, _, rfl, rfl, rfl, by decide, tbX1, tb1 203 rfl rfl⟩
theorem gtX7_206 : GR lyX RX7 206 6 36 := ⟨1, 3, _, _, _, _, rfl, rfl, rfl, by decide, tbX1, tb1 198 rfl rfl⟩
theorem lkX7_195 : CLV lyX RX7 195 yX1_clear cX1_clear 1 none 0 6 := ⟨⟨tb3 9 rfl rfl, tb1 7 rfl rfl, tb3 6 rfl rfl, ⟨by decide +kernel, by decide +kernel, by decide +kernel⟩, by decide⟩, tb3 7 rfl rfl, tb3 8 rfl rfl, 1, _, _, _, rfl, rfl⟩
theorem lkX7_175 : CLV lyX RX7 175 yX4_isExaminer cX4_isExaminer 2 (some .boolean) 1 2 := ⟨⟨tb2 185 rfl rfl, tb1 3 rfl rfl, tb2 216 rfl rfl, ⟨by decide +kernel, by decide +kernel, by decide +kernel⟩, by decide⟩, tb2 183 rfl rfl, tb2 184 rfl rfl, 4, _, _, _, rfl, rfl⟩
theorem lkX7_229 : CLV lyX RX7 229 yX3_hardness cX3_hardness 5 (some .int) 1 7 := ⟨⟨tb3 107 rfl rfl, tb1 8 rfl rfl, tb3 104 rfl rfl, ⟨by decide +kernel, by decide +kernel, by decide +kernel⟩, by decide⟩, tb3 105 rfl rfl, tb3 106 rfl rfl, 3, _, _, _, rfl, rfl⟩
theorem lkX7_126 : CLV lyX RX7 126 yX2_heldOn cX2_heldOn 6 (some .int) 3 4 := ⟨⟨tb2 132 rfl rfl, tb1 5 rfl rfl, tb2 129 rfl rfl, ⟨by decide +kernel, by decide +kernel, by decide +kernel⟩, by decide⟩, tb2 130 rfl rfl, tb2 131 rfl rfl, 2, _, _, _, rfl, rfl⟩
theorem gtX7_77 : GR lyX RX7 77 2 13 := ⟨4, 3, _, _, _, _, rfl, rfl, rfl, by decide, tbX4, tb1 43 rfl rfl⟩
theorem lkX7_213 : CLV lyX RX7 213 yX3_placeFor cX3_placeFor 4 (some .int) 2 7 := ⟨⟨tb3 66 rfl rfl, tb1 8 rfl rfl, tb3 63 rfl rfl, ⟨by decide +kernel, by decide +kernel, by decide +kernel⟩, by decide⟩, tb3 64 rfl rfl, tb3 65 rfl rfl, 3, _, _, _, rfl, rfl⟩
theorem lkX7_217 : CLV lyX RX7 217 yX3_put cX3_put 5 (some .int) 4 7 := ⟨⟨tb3 70 rfl rfl, tb1 8 rfl rfl, tb3 67 rfl rfl, ⟨by decide +kernel, by decide +kernel, by decide +kernel⟩, by decide⟩, tb3 68 rfl rfl, tb3 69 rfl rfl, 3, _, _, _, rfl, rfl⟩
theorem lkX7_223 : CLV lyX RX7 223 yX3_middleOf cX3_middleOf 5 (some .int) 1 7 := ⟨⟨tb3 83 rfl rfl, tb1 8 rfl rfl, tb3 80 rfl rfl, ⟨by decide +kernel, by decide +kernel, by decide +kernel⟩, by decide⟩, tb3 81 rfl rfl, tb3 82 rfl rfl, 3, _, _, _, rfl, rfl⟩
theorem gtX7_80 : GR lyX RX7 80 2 14 := ⟨4, 4, _, _, _, _, rfl, rfl, rfl, by decide, tbX4, tb1 45 rfl rfl⟩
theorem lkX7_57 : CLV lyX RX7 57 yX4_hasRoomFor cX4_hasRoomFor 2 (some .boolean) 1 2 := ⟨⟨tb2 40 rfl rfl, tb1 3 rfl rfl, tb2 37 rfl rfl, ⟨by decide +kernel, by decide +kernel, by decide +kernel⟩, by decide⟩, tb2 38 rfl rfl, tb2 39 rfl rfl, 4, _, _, _, rfl, rfl⟩
theorem lkX7_63 : CLV lyX RX7 63 yX4_add cX4_add 6 (some .int) 3 2 := ⟨⟨tb2 45 rfl rfl, tb1 3 rfl rfl, tb2 42 rfl rfl, ⟨by decide +kernel, by decide +kernel, by decide +kernel⟩, by decide⟩, tb2 43 rfl rfl, tb2 44 rfl rfl, 4, _, _, _, rfl, rfl⟩
theorem lkX7_115 : CLV lyX RX7 115 yX5_add cX5_add 6 none 5 3 := ⟨⟨tb2 92 rfl rfl, tb1 4 rfl rfl, tb2 89 rfl rfl, ⟨by decide +kernel, by decide +kernel, by decide +kernel⟩, by decide⟩, tb2 90 rfl rfl, tb2 91 rfl rfl, 5, _, _, _, rfl, rfl⟩
theorem lkX7_185 : CLV lyX RX7 185 yX2_standingAtLast cX2_standingAtLast 3 (some .int) 0 4 := ⟨⟨tb2 220 rfl rfl, tb1 5 rfl rfl, tb2 217 rfl rfl, ⟨by decide +kernel, by decide +kernel, by decide +kernel⟩, by decide⟩, tb2 218 rfl rfl, tb2 219 rfl rfl, 2, _, _, _, rfl, rfl⟩
theorem lkX7_188 : CLV lyX RX7 188 yX6_add cX6_add 4 none 3 5 := ⟨⟨tb2 225 rfl rfl, tb1 6 rfl rfl, tb2 222 rfl rfl, ⟨by decide +kernel, by decide +kernel, by decide +kernel⟩, by decide⟩, tb2 223 rfl rfl, tb2 224 rfl rfl, 6, _, _, _, rfl, rfl⟩
theorem gpX7_182 : GP lyX RX7 182 5 5 .int := ⟨scX, 6, 3, _, _, _, _, tyX6, lyX_ok, rfl, rfl, rfl, by decide, tbX6, tb1 117 rfl rfl, rfl, by decide +kernel, tyX6_ok, nmX6⟩
theorem lkX7_191 : CLV lyX RX7 191 yX1_holds cX1_holds 3 (some .boolean) 1 6 := ⟨⟨tb2 237 rfl rfl, tb1 7 rfl rfl, tb2 234 rfl rfl, ⟨by decide +kernel, by decide +kernel, by decide +kernel⟩, by decide⟩, tb2 235 rfl rfl, tb2 236 rfl rfl, 1, _, _, _, rfl, rfl⟩
theorem lkX7_193 : CLV lyX RX7 193 yX1_add cX1_add 2 none 1 6 := ⟨⟨tb3 1 rfl rfl, tb1 7 rfl rfl, tb2 238 rfl rfl, ⟨by decide +kernel, by decide +kernel, by decide +kernel⟩, by decide⟩, tb2 239 rfl rfl, tb3 0 rfl rfl, 1, _, _, _, rfl, rfl⟩
theorem gtX7_102 : GR lyX RX7 102 4 21 := ⟨2, 1, _, _, _, _, rfl, rfl, rfl, by decide, tbX2, tb1 131 rfl rfl⟩
theorem lkX7_93 : CLV lyX RX7 93 yX2_value cX2_value 4 (some .int) 3 4 := ⟨⟨tb2 76 rfl rfl, tb1 5 rfl rfl, tb2 73 rfl rfl, ⟨by decide +kernel, by decide +kernel, by decide +kernel⟩, by decide⟩, tb2 74 rfl rfl, tb2 75 rfl rfl, 2, _, _, _, rfl, rfl⟩
theorem lkX7_98 : CLV lyX RX7 98 yX2_setValue cX2_setValue 5 none 4 4 := ⟨⟨tb2 80 rfl rfl, tb1 5 rfl rfl, tb2 77 rfl rfl, ⟨by decide +kernel, by decide +kernel, by decide +kernel⟩, by decide⟩, tb2 78 rfl rfl, tb2 79 rfl rfl, 2, _, _, _, rfl, rfl⟩
theorem gtX8_16 : GR lyM RX8 16 0 3 := ⟨8, 4, _, _, _, _, rfl, rfl, rfl, by decide, tbX8, tb3 136 rfl rfl⟩
theorem gtX8_19 : GR lyM RX8 19 0 4 := ⟨8, 5, _, _, _, _, rfl, rfl, rfl, by decide, tbX8, tb3 137 rfl rfl⟩
theorem lkX8_156 : CLV lyM RX8 156 yX8_isStruck cX8_isStruck 6 (some .boolean) 3 0 := ⟨⟨tb4 109 rfl rfl, tb1 9 rfl rfl, tb4 106 rfl rfl, ⟨by decide +kernel, by decide +kernel, by decide +kernel⟩, by decide⟩, tb4 108 rfl rfl, tb0 17 (n := 44) rfl, 8, _, _, _, rfl, rfl⟩
theorem lkX8_179 : CLV lyM RX8 179 yX8_hasOf cX8_hasOf 6 (some .int) 3 0 := ⟨⟨tb4 113 rfl rfl, tb1 9 rfl rfl, tb4 110 rfl rfl, ⟨by decide +kernel, by decide +kernel, by decide +kernel⟩, by decide⟩, tb4 112 rfl rfl, tb0 18 (n := 44) rfl, 8, _, _, _, rfl, rfl⟩
theorem gtX8_46 : GR lyM RX8 46 0 13 := ⟨8, 15, _, _, _, _, rfl, rfl, rfl, by decide, tbX8, tb3 147 rfl rfl⟩
theorem lkX8_237 : CLV lyM RX8 237 yX8_isExam cX8_isExam 2 (some .boolean) 1 0 := ⟨⟨tb4 213 rfl rfl, tb1 9 rfl rfl, tb4 210 rfl rfl, ⟨by decide +kernel, by decide +kernel, by decide +kernel⟩, by decide⟩, tb4 212 rfl rfl, tb0 29 (n := 44) rfl, 8, _, _, _, rfl, rfl⟩
theorem lkX8_111 : CLS RX8 111 yX8_within cX8_within 3 (some .boolean) 3 := ⟨⟨tb4 31 rfl rfl, tb1 9 rfl rfl, tb4 29 rfl rfl, ⟨by decide +kernel, by decide +kernel, by decide +kernel⟩, by decide⟩, tb4 30 rfl rfl⟩
theorem kwX8_123 : Cond.constant RX8 123 (-1000001) ∈ TB := tb4 35 rfl rfl
theorem lkX8_124 : CLV lyM RX8 124 yX8_finding cX8_finding 2 (some .int) 1 0 := ⟨⟨tb4 39 rfl rfl, tb1 9 rfl rfl, tb4 36 rfl rfl, ⟨by decide +kernel, by decide +kernel, by decide +kernel⟩, by decide⟩, tb4 38 rfl rfl, tb0 11 (n := 44) rfl, 8, _, _, _, rfl, rfl⟩
theorem gtX8_79 : GR lyM RX8 79 0 24 := ⟨8, 31, _, _, _, _, rfl, rfl, rfl, by decide, tbX8, tb3 163 rfl rfl⟩
theorem kwX8_203 : Cond.constant RX8 203 (-1000003) ∈ TB := tb4 149 rfl rfl
theorem gtX8_85 : GR lyM RX8 85 0 26 := ⟨8, 33, _, _, _, _, rfl, rfl, rfl, by decide, tbX8, tb3 165 rfl rfl⟩
theorem lkX8_240 : CLV lyM RX8 240 yX8_middleOf cX8_middleOf 8 (some .int) 1 0 := ⟨⟨tb4 221 rfl rfl, tb1 9 rfl rfl, tb4 218 rfl rfl, ⟨by decide +kernel, by decide +kernel, by decide +kernel⟩, by decide⟩, tb4 220 rfl rfl, tb0 30 (n := 44) rfl, 8, _, _, _, rfl, rfl⟩
theorem mkX8_243 : MK RX8 243 Lib.Math.abs.name Lib.Math.abs.code 1 := ⟨tb4 226 rfl rfl, tb3 98 rfl rfl, tb1 11 rfl rfl, tb3 99 rfl rfl⟩
theorem lkX8_132 : CLV lyM RX8 132 yX8_isPerson cX8_isPerson 2 (some .boolean) 1 0 := ⟨⟨tb4 49 rfl rfl, tb1 9 rfl rfl, tb4 46 rfl rfl, ⟨by decide +kernel, by decide +kernel, by decide +kernel⟩, by decide⟩, tb4 48 rfl rfl, tb0 12 (n := 44) rfl, 8, _, _, _, rfl, rfl⟩
theorem gtX8_9 : GR lyM RX8 9 0 1 := ⟨8, 2, _, _, _, _, rfl, rfl, rfl, by decide, tbX8, tb3 134 rfl rfl⟩
theorem kwX8_135 : Cond.constant RX8 135 (-1000005) ∈ TB := tb4 50 rfl rfl
theorem lkX8_136 : CLS RX8 136 yX8_isUnion cX8_isUnion 1 (some .boolean) 1 := ⟨⟨tb4 65 rfl rfl, tb1 9 rfl rfl, tb4 63 rfl rfl, ⟨by decide +kernel, by decide +kernel, by decide +kernel⟩, by decide⟩, tb4 64 rfl rfl⟩
theorem lkX8_119 : CLS RX8 119 yX8_isDay cX8_isDay 1 (some .boolean) 1 := ⟨⟨tb4 34 rfl rfl, tb1 9 rfl rfl, tb4 32 rfl rfl, ⟨by decide +kernel, by decide +kernel, by decide +kernel⟩, by decide⟩, tb4 33 rfl rfl⟩
theorem lkX8_228 : CLV lyM RX8 228 yX8_findPanels cX8_findPanels 8 none 2 0 := ⟨⟨tb4 185 rfl rfl, tb1 9 rfl rfl, tb4 182 rfl rfl, ⟨by decide +kernel, by decide +kernel, by decide +kernel⟩, by decide⟩, tb4 184 rfl rfl, tb0 25 (n := 44) rfl, 8, _, _, _, rfl, rfl⟩
theorem lkX8_231 : CLV lyM RX8 231 yX8_tryAll cX8_tryAll 5 none 1 0 := ⟨⟨tb4 189 rfl rfl, tb1 9 rfl rfl, tb4 186 rfl rfl, ⟨by decide +kernel, by decide +kernel, by decide +kernel⟩, by decide⟩, tb4 188 rfl rfl, tb0 26 (n := 44) rfl, 8, _, _, _, rfl, rfl⟩
theorem gpX8_211 : GP lyM RX8 211 0 6 .boolean := ⟨scM, 8, 28, _, _, _, _, tyX8, lyM_ok, rfl, rfl, rfl, by decide, tbX8, tb3 160 rfl rfl, rfl, by decide +kernel, tyX8_ok, nmX8⟩
theorem gtX8_218 : GI lyM RX8 218 0 10 := ⟨8, 43, _, _, _, _, rfl, rfl, rfl, by decide, tbX8, tb3 175 rfl rfl⟩
theorem lkX8_139 : CLS RX8 139 yX8_isGrade cX8_isGrade 1 (some .boolean) 1 := ⟨⟨tb4 68 rfl rfl, tb1 9 rfl rfl, tb4 66 rfl rfl, ⟨by decide +kernel, by decide +kernel, by decide +kernel⟩, by decide⟩, tb4 67 rfl rfl⟩
theorem gtX8_246 : GI lyM RX8 246 0 8 := ⟨8, 34, _, _, _, _, rfl, rfl, rfl, by decide, tbX8, tb3 166 rfl rfl⟩
theorem gpX8_246 : GP lyM RX8 246 0 8 .int := ⟨scM, 8, 34, _, _, _, _, tyX8, lyM_ok, rfl, rfl, rfl, by decide, tbX8, tb3 166 rfl rfl, rfl, by decide +kernel, tyX8_ok, nmX8⟩
theorem lkX8_175 : CLV lyM RX8 175 yX8_findStanding cX8_findStanding 5 none 1 0 := ⟨⟨tb4 96 rfl rfl, tb1 9 rfl rfl, tb4 93 rfl rfl, ⟨by decide +kernel, by decide +kernel, by decide +kernel⟩, by decide⟩, tb4 95 rfl rfl, tb0 14 (n := 44) rfl, 8, _, _, _, rfl, rfl⟩
theorem gtX8_159 : GI lyM RX8 159 0 3 := ⟨8, 16, _, _, _, _, rfl, rfl, rfl, by decide, tbX8, tb3 148 rfl rfl⟩
theorem gtX8_94 : GR lyM RX8 94 0 29 := ⟨8, 37, _, _, _, _, rfl, rfl, rfl, by decide, tbX8, tb3 169 rfl rfl⟩
theorem gtX8_88 : GR lyM RX8 88 0 27 := ⟨8, 35, _, _, _, _, rfl, rfl, rfl, by decide, tbX8, tb3 167 rfl rfl⟩
theorem gtX8_115 : GI lyM RX8 115 0 0 := ⟨8, 0, _, _, _, _, rfl, rfl, rfl, by decide, tbX8, tb3 132 rfl rfl⟩
theorem gtX8_146 : GI lyM RX8 146 0 2 := ⟨8, 9, _, _, _, _, rfl, rfl, rfl, by decide, tbX8, tb3 141 rfl rfl⟩
theorem gtX8_153 : GI lyM RX8 153 0 4 := ⟨8, 22, _, _, _, _, rfl, rfl, rfl, by decide, tbX8, tb3 154 rfl rfl⟩
theorem gtX8_234 : GI lyM RX8 234 0 7 := ⟨8, 30, _, _, _, _, rfl, rfl, rfl, by decide, tbX8, tb3 162 rfl rfl⟩
theorem gtX8_208 : GI lyM RX8 208 0 5 := ⟨8, 26, _, _, _, _, rfl, rfl, rfl, by decide, tbX8, tb3 158 rfl rfl⟩
theorem gtX8_25 : GR lyM RX8 25 0 6 := ⟨8, 7, _, _, _, _, rfl, rfl, rfl, by decide, tbX8, tb3 139 rfl rfl⟩
theorem lkX8_142 : CLS RX8 142 yX8_worthAt cX8_worthAt 3 (some .int) 3 := ⟨⟨tb4 71 rfl rfl, tb1 9 rfl rfl, tb4 69 rfl rfl, ⟨by decide +kernel, by decide +kernel, by decide +kernel⟩, by decide⟩, tb4 70 rfl rfl⟩
theorem gtX8_49 : GR lyM RX8 49 0 14 := ⟨8, 17, _, _, _, _, rfl, rfl, rfl, by decide, tbX8, tb3 149 rfl rfl⟩
theorem gtX8_52 : GR lyM RX8 52 0 15 := ⟨8, 18, _, _, _, _, rfl, rfl, rfl, by decide, tbX8, tb3 150 rfl rfl⟩
theorem gtX8_55 : GR lyM RX8 55 0 16 := ⟨8, 19, _, _, _, _, rfl, rfl, rfl, by decide, tbX8, tb3 151 rfl rfl⟩
theorem gtX8_58 : GR lyM RX8 58 0 17 := ⟨8, 20, _, _, _, _, rfl, rfl, rfl, by decide, tbX8, tb3 152 rfl rfl⟩
theorem gtX8_61 : GR lyM RX8 61 0 18 := ⟨8, 21, _, _, _, _, rfl, rfl, rfl, by decide, tbX8, tb3 153 rfl rfl⟩
theorem kwX8_131 : Cond.constant RX8 131 (-1000004) ∈ TB := tb4 41 rfl rfl
theorem gpX8_234 : GP lyM RX8 234 0 7 .int := ⟨scM, 8, 30, _, _, _, _, tyX8, lyM_ok, rfl, rfl, rfl, by decide, tbX8, tb3 162 rfl rfl, rfl, by decide +kernel, tyX8_ok, nmX8⟩
theorem gtX8_28 : GR lyM RX8 28 0 7 := ⟨8, 8, _, _, _, _, rfl, rfl, rfl, by decide, tbX8, tb3 140 rfl rfl⟩
theorem gpX8_215 : GP lyM RX8 215 0 9 .int := ⟨scM, 8, 38, _, _, _, _, tyX8, lyM_ok, rfl, rfl, rfl, by decide, tbX8, tb3 170 rfl rfl, rfl, by decide +kernel, tyX8_ok, nmX8⟩
theorem gtX8_98 : GR lyM RX8 98 0 30 := ⟨8, 39, _, _, _, _, rfl, rfl, rfl, by decide, tbX8, tb3 171 rfl rfl⟩
theorem gtX8_215 : GI lyM RX8 215 0 9 := ⟨8, 38, _, _, _, _, rfl, rfl, rfl, by decide, tbX8, tb3 170 rfl rfl⟩
theorem gtX8_73 : GR lyM RX8 73 0 22 := ⟨8, 27, _, _, _, _, rfl, rfl, rfl, by decide, tbX8, tb3 159 rfl rfl⟩
theorem lkX8_186 : CLV lyM RX8 186 yX8_whyOf cX8_whyOf 9 (some .int) 4 0 := ⟨⟨tb4 125 rfl rfl, tb1 9 rfl rfl, tb4 122 rfl rfl, ⟨by decide +kernel, by decide +kernel, by decide +kernel⟩, by decide⟩, tb4 124 rfl rfl, tb0 20 (n := 44) rfl, 8, _, _, _, rfl, rfl⟩
theorem gtX8_101 : GR lyM RX8 101 0 31 := ⟨8, 40, _, _, _, _, rfl, rfl, rfl, by decide, tbX8, tb3 172 rfl rfl⟩
theorem lkX8_149 : CLV lyM RX8 149 yX8_ruleOf cX8_ruleOf 7 (some .int) 3 0 := ⟨⟨tb4 87 rfl rfl, tb1 9 rfl rfl, tb4 84 rfl rfl, ⟨by decide +kernel, by decide +kernel, by decide +kernel⟩, by decide⟩, tb4 86 rfl rfl, tb0 13 (n := 44) rfl, 8, _, _, _, rfl, rfl⟩
theorem lkX8_200 : CLV lyM RX8 200 yX8_panelOf cX8_panelOf 11 (some .int) 5 0 := ⟨⟨tb4 137 rfl rfl, tb1 9 rfl rfl, tb4 134 rfl rfl, ⟨by decide +kernel, by decide +kernel, by decide +kernel⟩, by decide⟩, tb4 136 rfl rfl, tb0 22 (n := 44) rfl, 8, _, _, _, rfl, rfl⟩
theorem lkX8_162 : CLV lyM RX8 162 yX8_counts cX8_counts 4 (some .int) 3 0 := ⟨⟨tb4 100 rfl rfl, tb1 9 rfl rfl, tb4 97 rfl rfl, ⟨by decide +kernel, by decide +kernel, by decide +kernel⟩, by decide⟩, tb4 99 rfl rfl, tb0 15 (n := 44) rfl, 8, _, _, _, rfl, rfl⟩
theorem mkX8_165 : MK RX8 165 Lib.Math.max.name Lib.Math.max.code 2 := ⟨tb4 101 rfl rfl, tb2 127 rfl rfl, tb1 11 rfl rfl, tb2 128 rfl rfl⟩
theorem lkX8_171 : CLV lyM RX8 171 yX8_falls cX8_falls 5 (some .boolean) 2 0 := ⟨⟨tb4 105 rfl rfl, tb1 9 rfl rfl, tb4 102 rfl rfl, ⟨by decide +kernel, by decide +kernel, by decide +kernel⟩, by decide⟩, tb4 104 rfl rfl, tb0 16 (n := 44) rfl, 8, _, _, _, rfl, rfl⟩
theorem gtX8_91 : GR lyM RX8 91 0 28 := ⟨8, 36, _, _, _, _, rfl, rfl, rfl, by decide, tbX8, tb3 168 rfl rfl⟩
theorem kwX8_110 : Cond.constant RX8 110 (-1000000) ∈ TB := tb4 40 rfl rfl
theorem kwX8_152 : Cond.constant RX8 152 (-1000002) ∈ TB := tb4 88 rfl rfl
theorem lkX8_182 : CLV lyM RX8 182 yX8_canAsk cX8_canAsk 5 (some .boolean) 4 0 := ⟨⟨tb4 121 rfl rfl, tb1 9 rfl rfl, tb4 118 rfl rfl, ⟨by decide +kernel, by decide +kernel, by decide +kernel⟩, by decide⟩, tb4 120 rfl rfl, tb0 19 (n := 44) rfl, 8, _, _, _, rfl, rfl⟩
theorem lkX8_197 : CLV lyM RX8 197 yX8_isPanel cX8_isPanel 2 (some .boolean) 1 0 := ⟨⟨tb4 133 rfl rfl, tb1 9 rfl rfl, tb4 130 rfl rfl, ⟨by decide +kernel, by decide +kernel, by decide +kernel⟩, by decide⟩, tb4 132 rfl rfl, tb0 21 (n := 44) rfl, 8, _, _, _, rfl, rfl⟩
theorem gpX8_159 : GP lyM RX8 159 0 3 .int := ⟨scM, 8, 16, _, _, _, _, tyX8, lyM_ok, rfl, rfl, rfl, by decide, tbX8, tb3 148 rfl rfl, rfl, by decide +kernel, tyX8_ok, nmX8⟩
theorem gtX8_211 : GI lyM RX8 211 0 6 := ⟨8, 28, _, _, _, _, rfl, rfl, rfl, by decide, tbX8, tb3 160 rfl rfl⟩
theorem gtX8_76 : GR lyM RX8 76 0 23 := ⟨8, 29, _, _, _, _, rfl, rfl, rfl, by decide, tbX8, tb3 161 rfl rfl⟩
theorem gpX8_208 : GP lyM RX8 208 0 5 .int := ⟨scM, 8, 26, _, _, _, _, tyX8, lyM_ok, rfl, rfl, rfl, by decide, tbX8, tb3 158 rfl rfl, rfl, by decide +kernel, tyX8_ok, nmX8⟩
theorem gtX8_82 : GR lyM RX8 82 0 25 := ⟨8, 32, _, _, _, _, rfl, rfl, rfl, by decide, tbX8, tb3 164 rfl rfl⟩
theorem gtX8_107 : GR lyM RX8 107 0 33 := ⟨8, 42, _, _, _, _, rfl, rfl, rfl, by decide, tbX8, tb3 174 rfl rfl⟩
theorem gtX8_64 : GR lyM RX8 64 0 19 := ⟨8, 23, _, _, _, _, rfl, rfl, rfl, by decide, tbX8, tb3 155 rfl rfl⟩
theorem gtX8_67 : GR lyM RX8 67 0 20 := ⟨8, 24, _, _, _, _, rfl, rfl, rfl, by decide, tbX8, tb3 156 rfl rfl⟩
theorem gtX8_70 : GR lyM RX8 70 0 21 := ⟨8, 25, _, _, _, _, rfl, rfl, rfl, by decide, tbX8, tb3 157 rfl rfl⟩
theorem lkX8_190 : CLV lyM RX8 190 yX8_against cX8_against 6 (some .int) 5 0 := ⟨⟨tb4 141 rfl rfl, tb1 9 rfl rfl, tb4 138 rfl rfl, ⟨by decide +kernel, by decide +kernel, by decide +kernel⟩, by decide⟩, tb4 140 rfl rfl, tb0 23 (n := 44) rfl, 8, _, _, _, rfl, rfl⟩
theorem mkX8_194 : MK RX8 194 Lib.Math.min.name Lib.Math.min.code 2 := ⟨tb4 142 rfl rfl, tb4 143 rfl rfl, tb1 11 rfl rfl, tb4 144 rfl rfl⟩
theorem gtX8_22 : GR lyM RX8 22 0 5 := ⟨8, 6, _, _, _, _, rfl, rfl, rfl, by decide, tbX8, tb3 138 rfl rfl⟩
theorem gtX8_128 : GI lyM RX8 128 0 1 := ⟨8, 1, _, _, _, _, rfl, rfl, rfl, by decide, tbX8, tb3 133 rfl rfl⟩
theorem gtX8_13 : GR lyM RX8 13 0 2 := ⟨8, 3, _, _, _, _, rfl, rfl, rfl, by decide, tbX8, tb3 135 rfl rfl⟩
theorem gpX8_128 : GP lyM RX8 128 0 1 .int := ⟨scM, 8, 1, _, _, _, _, tyX8, lyM_ok, rfl, rfl, rfl, by decide, tbX8, tb3 133 rfl rfl, rfl, by decide +kernel, tyX8_ok, nmX8⟩
theorem gpX8_115 : GP lyM RX8 115 0 0 .int := ⟨scM, 8, 0, _, _, _, _, tyX8, lyM_ok, rfl, rfl, rfl, by decide, tbX8, tb3 132 rfl rfl, rfl, by decide +kernel, tyX8_ok, nmX8⟩
theorem gtX8_31 : GR lyM RX8 31 0 8 := ⟨8, 10, _, _, _, _, rfl, rfl, rfl, by decide, tbX8, tb3 142 rfl rfl⟩
theorem gtX8_34 : GR lyM RX8 34 0 9 := ⟨8, 11, _, _, _, _, rfl, rfl, rfl, by decide, tbX8, tb3 143 rfl rfl⟩
theorem gtX8_37 : GR lyM RX8 37 0 10 := ⟨8, 12, _, _, _, _, rfl, rfl, rfl, by decide, tbX8, tb3 144 rfl rfl⟩
theorem gtX8_40 : GR lyM RX8 40 0 11 := ⟨8, 13, _, _, _, _, rfl, rfl, rfl, by decide, tbX8, tb3 145 rfl rfl⟩
theorem gtX8_43 : GR lyM RX8 43 0 12 := ⟨8, 14, _, _, _, _, rfl, rfl, rfl, by decide, tbX8, tb3 146 rfl rfl⟩
theorem gpX8_146 : GP lyM RX8 146 0 2 .int := ⟨scM, 8, 9, _, _, _, _, tyX8, lyM_ok, rfl, rfl, rfl, by decide, tbX8, tb3 141 rfl rfl, rfl, by decide +kernel, tyX8_ok, nmX8⟩
theorem lkX8_204 : CLV lyM RX8 204 yX8_standing cX8_standing 3 (some .int) 0 0 := ⟨⟨tb4 165 rfl rfl, tb1 9 rfl rfl, tb4 162 rfl rfl, ⟨by decide +kernel, by decide +kernel, by decide +kernel⟩, by decide⟩, tb4 164 rfl rfl, tb0 24 (n := 44) rfl, 8, _, _, _, rfl, rfl⟩
theorem gpX8_153 : GP lyM RX8 153 0 4 .int := ⟨scM, 8, 22, _, _, _, _, tyX8, lyM_ok, rfl, rfl, rfl, by decide, tbX8, tb3 154 rfl rfl, rfl, by decide +kernel, tyX8_ok, nmX8⟩
theorem gpX8_218 : GP lyM RX8 218 0 10 .int := ⟨scM, 8, 43, _, _, _, _, tyX8, lyM_ok, rfl, rfl, rfl, by decide, tbX8, tb3 175 rfl rfl, rfl, by decide +kernel, tyX8_ok, nmX8⟩
theorem gtX8_104 : GR lyM RX8 104 0 32 := ⟨8, 41, _, _, _, _, rfl, rfl, rfl, by decide, tbX8, tb3 173 rfl rfl⟩
theorem lkX8_221 : CLV lyM RX8 221 yX8_loads cX8_loads 4 none 2 0 := ⟨⟨tb4 193 rfl rfl, tb1 9 rfl rfl, tb4 190 rfl rfl, ⟨by decide +kernel, by decide +kernel, by decide +kernel⟩, by decide⟩, tb4 192 rfl rfl, tb0 27 (n := 44) rfl, 8, _, _, _, rfl, rfl⟩
theorem lkX8_225 : CLV lyM RX8 225 yX8_isLight cX8_isLight 5 (some .boolean) 2 0 := ⟨⟨tb4 197 rfl rfl, tb1 9 rfl rfl, tb4 194 rfl rfl, ⟨by decide +kernel, by decide +kernel, by decide +kernel⟩, by decide⟩, tb4 196 rfl rfl, tb0 28 (n := 44) rfl, 8, _, _, _, rfl, rfl⟩
