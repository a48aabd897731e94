/-! THE CLAIM OUT OF ONE WALK OF THE LAW'S BODY. Your part is whole_start (and what it stands on); all else here is the same for every law, but numbers. -/
def R_law : String := "BeltHallLaw"
def lw_P (b : Addr) (xs : List Int32) (args : Array Value) (s : State) : Prop := args = #[.ref b] ∧ s.IntsAt b xs ∧ xs.length ≤ 3072 ∧ (Jvm.Cond.and given_1 narrow_1).before args s = true
def lw_Q (_ : Array Value) (s : State) (o : Outcome) (t : State) : Prop := o = .returned (some (.int 1)) ∧ Framed s o t [] 600000 7302249
def lw_Z (below : List Frame) (a : Array Value) (s : State) : State → Prop := fun t => ∃ o, t.status = .running ∧ Ended t below o ∧ lw_Q a s o t
/-- the law's own end, with 1 on the stack, nothing written that was there before, its room as the claim has it -/
theorem lw_ret {p : Program} {l : Launch} {e : Env} {s : State} {m : MethodId} {below : List Frame} {meth : Method} {c : Code} {b : Nat} (hx : p.tables.exec = Jvm.exec) (hb : c.code = code) (hr : meth.sig.returnType = ret) (hlocks : meth.locks = false) {pc : Nat} {H : Heap} {ls : Array Slot} (hdg : decode code pc = .ok (.ireturn, 1)) : W p l e room_1 s m #[Value.ref b] below meth c H [] 600000 7302249 (lw_Z below #[Value.ref b] s) (F0 m pc ls [.int 1]) := by
  intro T hT X
  obtain ⟨fs, hret, hrun, hended, hW, hframe⟩ := X.leave (v := some (.int 1)) (hlocks := hlocks) (fun h => by rw [hr] at h; cases h)
  have hmeth' : T.vm.method? m = some meth := X.method'
  refine ⟨T.setFrames fs, ?_, .returned (some (.int 1)), hrun, hended, rfl, ⟨_, rfl⟩, hW, hframe⟩
  jvm_step X.here [X.here.top, hx, hb, hdg, hmeth', hr, ret, narrow_b1]
  (try refine ⟨rfl, ?_⟩); (try refine ⟨rfl, ?_⟩)
  first | (intro acts; rw [hret _ acts rfl rfl rfl]) | rw [hret _ _ rfl rfl rfl]
  exact Steps.refl _
/-- what holds at the law's entry: the machine, the code, the tables' words (any of lw_tbl by 'hts w (by decide +kernel)'), the script of L ints xs at the cell b, what the Statement gives of the start (any of its parts by flat_of_before) -/
def lw_At (p : Program) (s : State) (m : MethodId) (meth : Method) (c : Code) (b L : Nat) (xs : Nat → Int32) : Prop :=
  p.tables.exec = Jvm.exec ∧ c.code = code ∧ meth.sig.returnType = ret ∧ c.maxLocals = 4 ∧ s.vm.findClass R_law = some m.cls ∧ (∀ w ∈ lw_tbl, w.before #[Value.ref b] s = true) ∧ va_X b L xs s s.heap ∧ b < s.heap.size ∧ meth.locks = false ∧ (Jvm.Cond.and given_1 narrow_1).before #[Value.ref b] s = true

section YROWS
variable {p : Program} {l : Launch} {e : Env} {R : Room} {s : State} {m : MethodId} {args : Array Value} {below : List Frame} {meth : Method} {c : Code} {H : Heap} {locs : List Loc} {cells slots : Nat} {Q : State → Prop}
variable {cc : ByteArray} {nL pc : Nat} {own : String} {D : va_G} {cI cZ : ClassId} {A : Nat → Prop} {ret : Option FieldType} {ls : Array Slot} {rest : List Value} {ws wo : va_W}
theorem y_swap {wa wb : va_W} (h : WL D A s.heap (wa ++ wb) H locs) : WL D A s.heap (wb ++ wa) H locs := by
  have key : ∀ (k : Nat) (q : Nat × va_E), (wb ++ wa)[k]? = some q → (wa ++ wb)[if k < wb.length then wa.length + k else k - wb.length]? = some q := by
    intro k q hk
    by_cases c : k < wb.length
    · rw [List.getElem?_append_left c] at hk
      rw [if_pos c, List.getElem?_append_right (by omega)]
      rw [show wa.length + k - wa.length = k by omega]
      exact hk
    · rw [List.getElem?_append_right (Nat.le_of_not_lt c)] at hk
      rw [if_neg c, List.getElem?_append_left (List.getElem?_eq_some_iff.mp hk).1]
      exact hk
  refine ⟨fun k q hk => h.1 _ q (key k q hk), ⟨?_, fun k q hk => h.2.1.2 _ q (key k q hk)⟩, h.2.2⟩
  intro i j a b hi hj e
  have z := h.2.1.1 _ _ a b (key i a hi) (key j b hj) e
  have l1 : i < wb.length + wa.length := by
    have := (List.getElem?_eq_some_iff.mp hi).1
    simpa using this
  have l2 : j < wb.length + wa.length := by
    have := (List.getElem?_eq_some_iff.mp hj).1
    simpa using this
  split at z <;> split at z <;> omega
theorem y_join {wc u : va_W} {H1 : Heap} (hP : va_P D vwCl (ws ++ wc) H) (hD : va_D A (ws ++ wc)) (hk : ∀ q : Nat, q < H.size → ¬ va_A wc H.size q → H1[q]? = H[q]?) (hf : ∀ q, va_A wc H.size q → A q) (hP1 : va_P D vwCl u H1) (hD1 : va_D (va_A wc H.size) u) : va_P D vwCl (ws ++ u) H1 ∧ va_D A (ws ++ u) := by
  have hlt : ∀ (k : Nat) (q : Nat × va_E), ws[k]? = some q → (ws ++ wc)[k]? = some q := fun k q h => by
    rw [List.getElem?_append_left (List.getElem?_eq_some_iff.mp h).1]; exact h
  have hno : ∀ (k : Nat) (q : Nat × va_E), ws[k]? = some q → ¬ va_A wc H.size q.1 := by
    intro k q h z
    rcases z with ⟨j, e, hj⟩ | z
    · have hx : (ws ++ wc)[ws.length + j]? = some (q.1, e) := by
        rw [List.getElem?_append_right (by omega), show ws.length + j - ws.length = j by omega]
        exact hj
      have := hD.1 k (ws.length + j) q (q.1, e) (hlt k q h) hx rfl
      have hl := (List.getElem?_eq_some_iff.mp h).1
      omega
    · have := (hP k q (hlt k q h)).lt
      omega
  constructor
  · intro k q h
    by_cases c : k < ws.length
    · rw [List.getElem?_append_left c] at h
      exact (hP k q (hlt k q h)).kept (hk q.1 ((hP k q (hlt k q h)).lt) (hno k q h))
    · rw [List.getElem?_append_right (Nat.le_of_not_lt c)] at h
      exact hP1 _ q h
  · constructor
    · intro i j a b hi hj e
      by_cases c : i < ws.length
      · rw [List.getElem?_append_left c] at hi
        by_cases d : j < ws.length
        · rw [List.getElem?_append_left d] at hj
          exact hD.1 i j a b (hlt i a hi) (hlt j b hj) e
        · rw [List.getElem?_append_right (Nat.le_of_not_lt d)] at hj
          exact absurd (e ▸ hD1.2 _ b hj) (hno i a hi)
      · rw [List.getElem?_append_right (Nat.le_of_not_lt c)] at hi
        by_cases d : j < ws.length
        · rw [List.getElem?_append_left d] at hj
          exact absurd (e ▸ hD1.2 _ a hi) (hno j b hj)
        · rw [List.getElem?_append_right (Nat.le_of_not_lt d)] at hj
          have := hD1.1 _ _ a b hi hj e
          omega
    · intro k q h
      by_cases c : k < ws.length
      · rw [List.getElem?_append_left c] at h
        exact hD.2 k q (hlt k q h)
      · rw [List.getElem?_append_right (Nat.le_of_not_lt c)] at h
        exact hf _ (hD1.2 _ q h)
theorem y_right {wc : va_W} (h : WL D A s.heap (ws ++ wc) H locs) : WL D A s.heap wc H locs := by
  have key : ∀ (k : Nat) (q : Nat × va_E), wc[k]? = some q → (ws ++ wc)[ws.length + k]? = some q := fun k q hk => by
    rw [List.getElem?_append_right (by omega), show ws.length + k - ws.length = k by omega]
    exact hk
  refine ⟨fun k q hk => h.1 _ q (key k q hk), ⟨?_, fun k q hk => h.2.1.2 _ q (key k q hk)⟩, h.2.2⟩
  intro i j a b hi hj e
  have z := h.2.1.1 _ _ a b (key i a hi) (key j b hj) e
  omega
theorem y_callV {ly : LY} {ad : Nat → Nat} {S S1 : SS} {st As : List Value} {idx n i k maxL : Nat} {y : MethodName} {yc : ByteArray} {yret : Option FieldType} {r : Int32} (C : MC p s m args meth c cc nL own D cI cZ A ret) (h : WL D A s.heap (wo ++ wW ly ad cI cZ S) H locs) (hm : MI l D ly ad cI cZ y yc maxL yret k (.ref (ad i) :: As) S r S1) (cl : CLV ly own idx y yc maxL yret n i) (hn : As.length = n) (hk : k + 1 ≤ R.frames) (hk2 : 60 * k + 60 ≤ R.locals) (hls : ls.size = nL) (hst : st = As.reverse ++ .ref (ad i) :: rest) (hro : (rest.map fun v => v.category).sum ≤ 8) (hc1 : cells ≤ R.cells) (hc2 : slots ≤ R.slots) (hdg : decode cc pc = .ok (.invokevirtual idx, 3))
    (kk : ∀ (H1 : Heap) (locs1 : List Loc), WL D A s.heap (wo ++ wW ly ad cI cZ S1) H1 locs1 → W p l e R s m args below meth c H1 locs1 cells slots Q (F0 m (pc + 3) ls (.int r :: rest))) : W p l e R s m args below meth c H locs cells slots Q (F0 m pc ls st) := by
  have h2 : WH D A s.heap ly ad cI cZ S H locs := y_right h
  obtain ⟨hx, hb, hml, hown, hts, hK, hlk, hr, hA⟩ := C
  obtain ⟨cb, c1, c2, ci, fs, T, N, c3, c4⟩ := cl
  have hf := x_freeA h2 hA
  have hmx := cb.2.2.2.2
  subst hst
  refine va_calli (va_runV (As := As) (rest := rest) (C := y.cls) ⟨hx, hb, hml, hown, hts⟩ (hm H.size) ⟨x_cb hts cb ⟨hk, by show 8 + (maxL + 11) + 60 * k ≤ _; omega⟩, hts _ c1, hts _ c2⟩ ⟨blind0, x_recv h2 hK c3 c4, fun U hU hW => ⟨rfl, by rw [hU], by rw [hU]; exact h2.1, va_K.moved hW.alike hK, h2.2.1.weaken (fun _ _ _ _ => trivial)⟩⟩ rfl hn hls rfl (lv_room hro) hdg ⟨hc1, hc2⟩) h2.2.2 (fun q _ z => hf q z) hf (fun r1 u t H1 locs1 ht hvm hw hB hz1 hk1 hS => ?_)
  obtain ⟨rfl, rfl⟩ := hw
  obtain ⟨b1, b2, b3⟩ := hB
  rw [ht] at b1
  obtain ⟨j1, j2⟩ := y_join h.1 h.2.1 hk1 hf b1 b3
  exact kk H1 locs1 ⟨j1, j2, hS⟩
theorem y_sld {b L : Nat} {xs : Nat → Int32} {i v : Int32} (C : MC p s m args meth c cc nL own D cI cZ A ret) (hX : va_X b L xs s s.heap) (hbl : b < s.heap.size) (hbA : ¬ A b) (h : WL D A s.heap ws H locs) (hin : vp_in i L) (hv : xs i.toNatClampNeg = v) (hdg : decode cc pc = .ok (.iaload, 1))
    (kk : W p l e R s m args below meth c H locs cells slots Q (F0 m (pc + 1) ls (.int v :: rest))) : W p l e R s m args below meth c H locs cells slots Q (F0 m pc ls (.int i :: .ref b :: rest)) := by
  subst hv
  exact va_sld C.1 C.2.1 hX hbl hbA h.2.2 hin hdg kk
end YROWS
def NN : Nat := 1000000
def St0 (Rel : SS → SS → Prop) (fx fm : Nat → SS → Option (Int32 × SS)) : Prop := ∀ SX SM, Rel SX SM → ∃ r SX1 SM1, fx NN SX = some (r, SX1) ∧ fm NN SM = some (r, SM1) ∧ Rel SX1 SM1
def St1 (Rel : SS → SS → Prop) (fx fm : Nat → SS → Int32 → Option (Int32 × SS)) : Prop := ∀ SX SM, Rel SX SM → ∀ a, ∃ r SX1 SM1, fx NN SX a = some (r, SX1) ∧ fm NN SM a = some (r, SM1) ∧ Rel SX1 SM1
def St2 (Rel : SS → SS → Prop) (fx fm : Nat → SS → Int32 → Int32 → Option (Int32 × SS)) : Prop := ∀ SX SM, Rel SX SM → ∀ a b, ∃ r SX1 SM1, fx NN SX a b = some (r, SX1) ∧ fm NN SM a b = some (r, SM1) ∧ Rel SX1 SM1
def St3 (Rel : SS → SS → Prop) (fx fm : Nat → SS → Int32 → Int32 → Int32 → Option (Int32 × SS)) : Prop := ∀ SX SM, Rel SX SM → ∀ a b c, ∃ r SX1 SM1, fx NN SX a b c = some (r, SX1) ∧ fm NN SM a b c = some (r, SM1) ∧ Rel SX1 SM1
def St4 (Rel : SS → SS → Prop) (fx fm : Nat → SS → Int32 → Int32 → Int32 → Int32 → Option (Int32 × SS)) : Prop := ∀ SX SM, Rel SX SM → ∀ a b c d, ∃ r SX1 SM1, fx NN SX a b c d = some (r, SX1) ∧ fm NN SM a b c d = some (r, SM1) ∧ Rel SX1 SM1
def St5 (Rel : SS → SS → Prop) (fx fm : Nat → SS → Int32 → Int32 → Int32 → Int32 → Int32 → Option (Int32 × SS)) : Prop := ∀ SX SM, Rel SX SM → ∀ a b c d e, ∃ r SX1 SM1, fx NN SX a b c d e = some (r, SX1) ∧ fm NN SM a b c d e = some (r, SM1) ∧ Rel SX1 SM1
theorem lkL_13 : CLV lyX R_law 13 yX7_person cX7_person 4 (some .int) 3 0 := ⟨⟨tb2 21 rfl rfl, tb1 1 rfl rfl, tb2 18 rfl rfl, ⟨by decide +kernel, by decide +kernel, by decide +kernel⟩, by decide⟩, tb2 19 rfl rfl, tb2 20 rfl rfl, 7, _, _, _, rfl, rfl⟩
theorem lkL_17 : CLV lyM R_law 17 yX8_person cX8_person 5 (some .int) 3 0 := ⟨⟨tb4 28 rfl rfl, tb1 9 rfl rfl, tb4 25 rfl rfl, ⟨by decide +kernel, by decide +kernel, by decide +kernel⟩, by decide⟩, tb4 26 rfl rfl, tb4 27 rfl rfl, 8, _, _, _, rfl, rfl⟩
theorem lkL_18 : CLV lyX R_law 18 yX7_as cX7_as 3 (some .int) 2 0 := ⟨⟨tb2 49 rfl rfl, tb1 1 rfl rfl, tb2 46 rfl rfl, ⟨by decide +kernel, by decide +kernel, by decide +kernel⟩, by decide⟩, tb2 47 rfl rfl, tb2 48 rfl rfl, 7, _, _, _, rfl, rfl⟩
theorem lkL_22 : CLV lyM R_law 22 yX8_as cX8_as 3 (some .int) 2 0 := ⟨⟨tb4 45 rfl rfl, tb1 9 rfl rfl, tb4 42 rfl rfl, ⟨by decide +kernel, by decide +kernel, by decide +kernel⟩, by decide⟩, tb4 43 rfl rfl, tb4 44 rfl rfl, 8, _, _, _, rfl, rfl⟩
theorem lkL_23 : CLV lyX R_law 23 yX7_licence cX7_licence 4 (some .int) 2 0 := ⟨⟨tb2 58 rfl rfl, tb1 1 rfl rfl, tb2 55 rfl rfl, ⟨by decide +kernel, by decide +kernel, by decide +kernel⟩, by decide⟩, tb2 56 rfl rfl, tb2 57 rfl rfl, 7, _, _, _, rfl, rfl⟩
theorem lkL_26 : CLV lyM R_law 26 yX8_licence cX8_licence 4 (some .int) 2 0 := ⟨⟨tb4 54 rfl rfl, tb1 9 rfl rfl, tb4 51 rfl rfl, ⟨by decide +kernel, by decide +kernel, by decide +kernel⟩, by decide⟩, tb4 52 rfl rfl, tb4 53 rfl rfl, 8, _, _, _, rfl, rfl⟩
theorem lkL_27 : CLV lyX R_law 27 yX7_part cX7_part 6 (some .int) 3 0 := ⟨⟨tb2 62 rfl rfl, tb1 1 rfl rfl, tb2 59 rfl rfl, ⟨by decide +kernel, by decide +kernel, by decide +kernel⟩, by decide⟩, tb2 60 rfl rfl, tb2 61 rfl rfl, 7, _, _, _, rfl, rfl⟩
theorem lkL_30 : CLV lyM R_law 30 yX8_part cX8_part 5 (some .int) 3 0 := ⟨⟨tb4 58 rfl rfl, tb1 9 rfl rfl, tb4 55 rfl rfl, ⟨by decide +kernel, by decide +kernel, by decide +kernel⟩, by decide⟩, tb4 56 rfl rfl, tb4 57 rfl rfl, 8, _, _, _, rfl, rfl⟩
theorem lkL_31 : CLV lyX R_law 31 yX7_worth cX7_worth 6 (some .int) 4 0 := ⟨⟨tb2 66 rfl rfl, tb1 1 rfl rfl, tb2 63 rfl rfl, ⟨by decide +kernel, by decide +kernel, by decide +kernel⟩, by decide⟩, tb2 64 rfl rfl, tb2 65 rfl rfl, 7, _, _, _, rfl, rfl⟩
theorem lkL_35 : CLV lyM R_law 35 yX8_worth cX8_worth 6 (some .int) 4 0 := ⟨⟨tb4 62 rfl rfl, tb1 9 rfl rfl, tb4 59 rfl rfl, ⟨by decide +kernel, by decide +kernel, by decide +kernel⟩, by decide⟩, tb4 60 rfl rfl, tb4 61 rfl rfl, 8, _, _, _, rfl, rfl⟩
theorem lkL_36 : CLV lyX R_law 36 yX7_way cX7_way 4 (some .int) 2 0 := ⟨⟨tb2 84 rfl rfl, tb1 1 rfl rfl, tb2 81 rfl rfl, ⟨by decide +kernel, by decide +kernel, by decide +kernel⟩, by decide⟩, tb2 82 rfl rfl, tb2 83 rfl rfl, 7, _, _, _, rfl, rfl⟩
theorem lkL_39 : CLV lyM R_law 39 yX8_way cX8_way 4 (some .int) 2 0 := ⟨⟨tb4 75 rfl rfl, tb1 9 rfl rfl, tb4 72 rfl rfl, ⟨by decide +kernel, by decide +kernel, by decide +kernel⟩, by decide⟩, tb4 73 rfl rfl, tb4 74 rfl rfl, 8, _, _, _, rfl, rfl⟩
theorem lkL_40 : CLV lyX R_law 40 yX7_rule cX7_rule 6 (some .int) 5 0 := ⟨⟨tb2 88 rfl rfl, tb1 1 rfl rfl, tb2 85 rfl rfl, ⟨by decide +kernel, by decide +kernel, by decide +kernel⟩, by decide⟩, tb2 86 rfl rfl, tb2 87 rfl rfl, 7, _, _, _, rfl, rfl⟩
theorem lkL_44 : CLV lyM R_law 44 yX8_rule cX8_rule 7 (some .int) 5 0 := ⟨⟨tb4 79 rfl rfl, tb1 9 rfl rfl, tb4 76 rfl rfl, ⟨by decide +kernel, by decide +kernel, by decide +kernel⟩, by decide⟩, tb4 77 rfl rfl, tb4 78 rfl rfl, 8, _, _, _, rfl, rfl⟩
theorem lkL_45 : CLV lyX R_law 45 yX7_force cX7_force 5 (some .int) 3 0 := ⟨⟨tb2 96 rfl rfl, tb1 1 rfl rfl, tb2 93 rfl rfl, ⟨by decide +kernel, by decide +kernel, by decide +kernel⟩, by decide⟩, tb2 94 rfl rfl, tb2 95 rfl rfl, 7, _, _, _, rfl, rfl⟩
theorem lkL_48 : CLV lyM R_law 48 yX8_force cX8_force 5 (some .int) 3 0 := ⟨⟨tb4 83 rfl rfl, tb1 9 rfl rfl, tb4 80 rfl rfl, ⟨by decide +kernel, by decide +kernel, by decide +kernel⟩, by decide⟩, tb4 81 rfl rfl, tb4 82 rfl rfl, 8, _, _, _, rfl, rfl⟩
theorem lkL_49 : CLV lyX R_law 49 yX7_has cX7_has 5 (some .int) 4 0 := ⟨⟨tb2 105 rfl rfl, tb1 1 rfl rfl, tb2 102 rfl rfl, ⟨by decide +kernel, by decide +kernel, by decide +kernel⟩, by decide⟩, tb2 103 rfl rfl, tb2 104 rfl rfl, 7, _, _, _, rfl, rfl⟩
theorem lkL_52 : CLV lyM R_law 52 yX8_has cX8_has 5 (some .int) 4 0 := ⟨⟨tb4 92 rfl rfl, tb1 9 rfl rfl, tb4 89 rfl rfl, ⟨by decide +kernel, by decide +kernel, by decide +kernel⟩, by decide⟩, tb4 90 rfl rfl, tb4 91 rfl rfl, 8, _, _, _, rfl, rfl⟩
theorem lkL_53 : CLV lyX R_law 53 yX7_why cX7_why 5 (some .int) 4 0 := ⟨⟨tb2 140 rfl rfl, tb1 1 rfl rfl, tb2 137 rfl rfl, ⟨by decide +kernel, by decide +kernel, by decide +kernel⟩, by decide⟩, tb2 138 rfl rfl, tb2 139 rfl rfl, 7, _, _, _, rfl, rfl⟩
theorem lkL_56 : CLV lyM R_law 56 yX8_why cX8_why 5 (some .int) 4 0 := ⟨⟨tb4 117 rfl rfl, tb1 9 rfl rfl, tb4 114 rfl rfl, ⟨by decide +kernel, by decide +kernel, by decide +kernel⟩, by decide⟩, tb4 115 rfl rfl, tb4 116 rfl rfl, 8, _, _, _, rfl, rfl⟩
theorem lkL_57 : CLV lyX R_law 57 yX7_panel cX7_panel 7 (some .int) 5 0 := ⟨⟨tb2 163 rfl rfl, tb1 1 rfl rfl, tb2 160 rfl rfl, ⟨by decide +kernel, by decide +kernel, by decide +kernel⟩, by decide⟩, tb2 161 rfl rfl, tb2 162 rfl rfl, 7, _, _, _, rfl, rfl⟩
theorem lkL_60 : CLV lyM R_law 60 yX8_panel cX8_panel 7 (some .int) 5 0 := ⟨⟨tb4 129 rfl rfl, tb1 9 rfl rfl, tb4 126 rfl rfl, ⟨by decide +kernel, by decide +kernel, by decide +kernel⟩, by decide⟩, tb4 127 rfl rfl, tb4 128 rfl rfl, 8, _, _, _, rfl, rfl⟩
theorem lkL_61 : CLV lyX R_law 61 yX7_give cX7_give 7 (some .int) 5 0 := ⟨⟨tb2 190 rfl rfl, tb1 1 rfl rfl, tb2 187 rfl rfl, ⟨by decide +kernel, by decide +kernel, by decide +kernel⟩, by decide⟩, tb2 188 rfl rfl, tb2 189 rfl rfl, 7, _, _, _, rfl, rfl⟩
theorem lkL_64 : CLV lyM R_law 64 yX8_give cX8_give 6 (some .int) 5 0 := ⟨⟨tb4 148 rfl rfl, tb1 9 rfl rfl, tb4 145 rfl rfl, ⟨by decide +kernel, by decide +kernel, by decide +kernel⟩, by decide⟩, tb4 146 rfl rfl, tb4 147 rfl rfl, 8, _, _, _, rfl, rfl⟩
theorem lkL_65 : CLV lyX R_law 65 yX7_entry cX7_entry 3 (some .int) 2 0 := ⟨⟨tb2 203 rfl rfl, tb1 1 rfl rfl, tb2 200 rfl rfl, ⟨by decide +kernel, by decide +kernel, by decide +kernel⟩, by decide⟩, tb2 201 rfl rfl, tb2 202 rfl rfl, 7, _, _, _, rfl, rfl⟩
theorem lkL_68 : CLV lyM R_law 68 yX8_entry cX8_entry 3 (some .int) 2 0 := ⟨⟨tb4 153 rfl rfl, tb1 9 rfl rfl, tb4 150 rfl rfl, ⟨by decide +kernel, by decide +kernel, by decide +kernel⟩, by decide⟩, tb4 151 rfl rfl, tb4 152 rfl rfl, 8, _, _, _, rfl, rfl⟩
theorem lkL_69 : CLV lyX R_law 69 yX7_stands cX7_stands 3 (some .int) 2 0 := ⟨⟨tb2 211 rfl rfl, tb1 1 rfl rfl, tb2 208 rfl rfl, ⟨by decide +kernel, by decide +kernel, by decide +kernel⟩, by decide⟩, tb2 209 rfl rfl, tb2 210 rfl rfl, 7, _, _, _, rfl, rfl⟩
theorem lkL_72 : CLV lyM R_law 72 yX8_stands cX8_stands 3 (some .int) 2 0 := ⟨⟨tb4 157 rfl rfl, tb1 9 rfl rfl, tb4 154 rfl rfl, ⟨by decide +kernel, by decide +kernel, by decide +kernel⟩, by decide⟩, tb4 155 rfl rfl, tb4 156 rfl rfl, 8, _, _, _, rfl, rfl⟩
theorem lkL_73 : CLV lyX R_law 73 yX7_strike cX7_strike 5 (some .int) 3 0 := ⟨⟨tb2 215 rfl rfl, tb1 1 rfl rfl, tb2 212 rfl rfl, ⟨by decide +kernel, by decide +kernel, by decide +kernel⟩, by decide⟩, tb2 213 rfl rfl, tb2 214 rfl rfl, 7, _, _, _, rfl, rfl⟩
theorem lkL_76 : CLV lyM R_law 76 yX8_strike cX8_strike 5 (some .int) 3 0 := ⟨⟨tb4 161 rfl rfl, tb1 9 rfl rfl, tb4 158 rfl rfl, ⟨by decide +kernel, by decide +kernel, by decide +kernel⟩, by decide⟩, tb4 159 rfl rfl, tb4 160 rfl rfl, 8, _, _, _, rfl, rfl⟩
theorem lkL_77 : CLV lyX R_law 77 yX7_unstrike cX7_unstrike 1 (some .int) 0 0 := ⟨⟨tb2 229 rfl rfl, tb1 1 rfl rfl, tb2 226 rfl rfl, ⟨by decide +kernel, by decide +kernel, by decide +kernel⟩, by decide⟩, tb2 227 rfl rfl, tb2 228 rfl rfl, 7, _, _, _, rfl, rfl⟩
theorem lkL_81 : CLV lyM R_law 81 yX8_unstrike cX8_unstrike 1 (some .int) 0 0 := ⟨⟨tb4 169 rfl rfl, tb1 9 rfl rfl, tb4 166 rfl rfl, ⟨by decide +kernel, by decide +kernel, by decide +kernel⟩, by decide⟩, tb4 167 rfl rfl, tb4 168 rfl rfl, 8, _, _, _, rfl, rfl⟩
theorem lkL_82 : CLV lyX R_law 82 yX7_wait cX7_wait 2 (some .int) 1 0 := ⟨⟨tb2 233 rfl rfl, tb1 1 rfl rfl, tb2 230 rfl rfl, ⟨by decide +kernel, by decide +kernel, by decide +kernel⟩, by decide⟩, tb2 231 rfl rfl, tb2 232 rfl rfl, 7, _, _, _, rfl, rfl⟩
theorem lkL_86 : CLV lyM R_law 86 yX8_wait cX8_wait 3 (some .int) 1 0 := ⟨⟨tb4 173 rfl rfl, tb1 9 rfl rfl, tb4 170 rfl rfl, ⟨by decide +kernel, by decide +kernel, by decide +kernel⟩, by decide⟩, tb4 171 rfl rfl, tb4 172 rfl rfl, 8, _, _, _, rfl, rfl⟩
theorem lkL_87 : CLV lyX R_law 87 yX7_go cX7_go 2 (some .int) 0 0 := ⟨⟨tb3 5 rfl rfl, tb1 1 rfl rfl, tb3 2 rfl rfl, ⟨by decide +kernel, by decide +kernel, by decide +kernel⟩, by decide⟩, tb3 3 rfl rfl, tb3 4 rfl rfl, 7, _, _, _, rfl, rfl⟩
theorem lkL_90 : CLV lyM R_law 90 yX8_go cX8_go 2 (some .int) 0 0 := ⟨⟨tb4 177 rfl rfl, tb1 9 rfl rfl, tb4 174 rfl rfl, ⟨by decide +kernel, by decide +kernel, by decide +kernel⟩, by decide⟩, tb4 175 rfl rfl, tb4 176 rfl rfl, 8, _, _, _, rfl, rfl⟩
theorem lkL_91 : CLV lyX R_law 91 yX7_best cX7_best 4 (some .int) 3 0 := ⟨⟨tb3 13 rfl rfl, tb1 1 rfl rfl, tb3 10 rfl rfl, ⟨by decide +kernel, by decide +kernel, by decide +kernel⟩, by decide⟩, tb3 11 rfl rfl, tb3 12 rfl rfl, 7, _, _, _, rfl, rfl⟩
theorem lkL_94 : CLV lyM R_law 94 yX8_best cX8_best 4 (some .int) 3 0 := ⟨⟨tb4 181 rfl rfl, tb1 9 rfl rfl, tb4 178 rfl rfl, ⟨by decide +kernel, by decide +kernel, by decide +kernel⟩, by decide⟩, tb4 179 rfl rfl, tb4 180 rfl rfl, 8, _, _, _, rfl, rfl⟩
theorem lkL_95 : CLV lyX R_law 95 yX7_given cX7_given 2 (some .int) 1 0 := ⟨⟨tb3 46 rfl rfl, tb1 1 rfl rfl, tb3 43 rfl rfl, ⟨by decide +kernel, by decide +kernel, by decide +kernel⟩, by decide⟩, tb3 44 rfl rfl, tb3 45 rfl rfl, 7, _, _, _, rfl, rfl⟩
theorem lkL_98 : CLV lyM R_law 98 yX8_given cX8_given 2 (some .int) 1 0 := ⟨⟨tb4 201 rfl rfl, tb1 9 rfl rfl, tb4 198 rfl rfl, ⟨by decide +kernel, by decide +kernel, by decide +kernel⟩, by decide⟩, tb4 199 rfl rfl, tb4 200 rfl rfl, 8, _, _, _, rfl, rfl⟩
theorem lkL_99 : CLV lyX R_law 99 yX7_exam cX7_exam 1 (some .int) 0 0 := ⟨⟨tb3 50 rfl rfl, tb1 1 rfl rfl, tb3 47 rfl rfl, ⟨by decide +kernel, by decide +kernel, by decide +kernel⟩, by decide⟩, tb3 48 rfl rfl, tb3 49 rfl rfl, 7, _, _, _, rfl, rfl⟩
theorem lkL_102 : CLV lyM R_law 102 yX8_exam cX8_exam 1 (some .int) 0 0 := ⟨⟨tb4 205 rfl rfl, tb1 9 rfl rfl, tb4 202 rfl rfl, ⟨by decide +kernel, by decide +kernel, by decide +kernel⟩, by decide⟩, tb4 203 rfl rfl, tb4 204 rfl rfl, 8, _, _, _, rfl, rfl⟩
theorem lkL_103 : CLV lyX R_law 103 yX7_mark cX7_mark 5 (some .int) 3 0 := ⟨⟨tb3 58 rfl rfl, tb1 1 rfl rfl, tb3 55 rfl rfl, ⟨by decide +kernel, by decide +kernel, by decide +kernel⟩, by decide⟩, tb3 56 rfl rfl, tb3 57 rfl rfl, 7, _, _, _, rfl, rfl⟩
theorem lkL_106 : CLV lyM R_law 106 yX8_mark cX8_mark 5 (some .int) 3 0 := ⟨⟨tb4 209 rfl rfl, tb1 9 rfl rfl, tb4 206 rfl rfl, ⟨by decide +kernel, by decide +kernel, by decide +kernel⟩, by decide⟩, tb4 207 rfl rfl, tb4 208 rfl rfl, 8, _, _, _, rfl, rfl⟩
theorem lkL_107 : CLV lyX R_law 107 yX7_middle cX7_middle 2 (some .int) 1 0 := ⟨⟨tb3 75 rfl rfl, tb1 1 rfl rfl, tb3 72 rfl rfl, ⟨by decide +kernel, by decide +kernel, by decide +kernel⟩, by decide⟩, tb3 73 rfl rfl, tb3 74 rfl rfl, 7, _, _, _, rfl, rfl⟩
theorem lkL_110 : CLV lyM R_law 110 yX8_middle cX8_middle 2 (some .int) 1 0 := ⟨⟨tb4 217 rfl rfl, tb1 9 rfl rfl, tb4 214 rfl rfl, ⟨by decide +kernel, by decide +kernel, by decide +kernel⟩, by decide⟩, tb4 215 rfl rfl, tb4 216 rfl rfl, 8, _, _, _, rfl, rfl⟩
theorem lkL_111 : CLV lyX R_law 111 yX7_apart cX7_apart 3 (some .int) 2 0 := ⟨⟨tb3 91 rfl rfl, tb1 1 rfl rfl, tb3 88 rfl rfl, ⟨by decide +kernel, by decide +kernel, by decide +kernel⟩, by decide⟩, tb3 89 rfl rfl, tb3 90 rfl rfl, 7, _, _, _, rfl, rfl⟩
theorem lkL_114 : CLV lyM R_law 114 yX8_apart cX8_apart 5 (some .int) 2 0 := ⟨⟨tb4 225 rfl rfl, tb1 9 rfl rfl, tb4 222 rfl rfl, ⟨by decide +kernel, by decide +kernel, by decide +kernel⟩, by decide⟩, tb4 223 rfl rfl, tb4 224 rfl rfl, 8, _, _, _, rfl, rfl⟩
theorem lkL_115 : CLV lyX R_law 115 yX7_hard cX7_hard 2 (some .int) 1 0 := ⟨⟨tb3 103 rfl rfl, tb1 1 rfl rfl, tb3 100 rfl rfl, ⟨by decide +kernel, by decide +kernel, by decide +kernel⟩, by decide⟩, tb3 101 rfl rfl, tb3 102 rfl rfl, 7, _, _, _, rfl, rfl⟩
theorem lkL_118 : CLV lyM R_law 118 yX8_hard cX8_hard 5 (some .int) 1 0 := ⟨⟨tb4 230 rfl rfl, tb1 9 rfl rfl, tb4 227 rfl rfl, ⟨by decide +kernel, by decide +kernel, by decide +kernel⟩, by decide⟩, tb4 228 rfl rfl, tb4 229 rfl rfl, 8, _, _, _, rfl, rfl⟩
theorem lkL_119 : CLV lyX R_law 119 yX7_tell cX7_tell 2 (some .int) 1 0 := ⟨⟨tb3 113 rfl rfl, tb1 1 rfl rfl, tb3 110 rfl rfl, ⟨by decide +kernel, by decide +kernel, by decide +kernel⟩, by decide⟩, tb3 111 rfl rfl, tb3 112 rfl rfl, 7, _, _, _, rfl, rfl⟩
theorem lkL_122 : CLV lyM R_law 122 yX8_tell cX8_tell 2 (some .int) 1 0 := ⟨⟨tb4 234 rfl rfl, tb1 9 rfl rfl, tb4 231 rfl rfl, ⟨by decide +kernel, by decide +kernel, by decide +kernel⟩, by decide⟩, tb4 232 rfl rfl, tb4 233 rfl rfl, 8, _, _, _, rfl, rfl⟩
theorem lkL_123 : CLV lyX R_law 123 yX7_check cX7_check 5 (some .int) 1 0 := ⟨⟨tb3 117 rfl rfl, tb1 1 rfl rfl, tb3 114 rfl rfl, ⟨by decide +kernel, by decide +kernel, by decide +kernel⟩, by decide⟩, tb3 115 rfl rfl, tb3 116 rfl rfl, 7, _, _, _, rfl, rfl⟩
theorem lkL_126 : CLV lyM R_law 126 yX8_check cX8_check 5 (some .int) 1 0 := ⟨⟨tb4 238 rfl rfl, tb1 9 rfl rfl, tb4 235 rfl rfl, ⟨by decide +kernel, by decide +kernel, by decide +kernel⟩, by decide⟩, tb4 236 rfl rfl, tb4 237 rfl rfl, 8, _, _, _, rfl, rfl⟩
theorem lkL_127 : CLV lyX R_law 127 yX7_count cX7_count 2 (some .int) 1 0 := ⟨⟨tb3 121 rfl rfl, tb1 1 rfl rfl, tb3 118 rfl rfl, ⟨by decide +kernel, by decide +kernel, by decide +kernel⟩, by decide⟩, tb3 119 rfl rfl, tb3 120 rfl rfl, 7, _, _, _, rfl, rfl⟩
theorem lkL_130 : CLV lyM R_law 130 yX8_count cX8_count 2 (some .int) 1 0 := ⟨⟨tb5 2 rfl rfl, tb1 9 rfl rfl, tb4 239 rfl rfl, ⟨by decide +kernel, by decide +kernel, by decide +kernel⟩, by decide⟩, tb5 0 rfl rfl, tb5 1 rfl rfl, 8, _, _, _, rfl, rfl⟩
theorem lkL_131 : CLV lyX R_law 131 yX7_found cX7_found 2 (some .int) 1 0 := ⟨⟨tb3 125 rfl rfl, tb1 1 rfl rfl, tb3 122 rfl rfl, ⟨by decide +kernel, by decide +kernel, by decide +kernel⟩, by decide⟩, tb3 123 rfl rfl, tb3 124 rfl rfl, 7, _, _, _, rfl, rfl⟩
theorem lkL_134 : CLV lyM R_law 134 yX8_found cX8_found 2 (some .int) 1 0 := ⟨⟨tb5 6 rfl rfl, tb1 9 rfl rfl, tb5 3 rfl rfl, ⟨by decide +kernel, by decide +kernel, by decide +kernel⟩, by decide⟩, tb5 4 rfl rfl, tb5 5 rfl rfl, 8, _, _, _, rfl, rfl⟩
