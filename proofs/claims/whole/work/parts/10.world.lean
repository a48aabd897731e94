/-- the tables' words that go with a call -/
def TB : List Cond := lw_tbl.filter goodWord
theorem TB_m {w : Cond} (h : w ∈ lw_tbl) (g : goodWord w = true) : w ∈ TB := List.mem_filter.mpr ⟨h, g⟩
theorem TB_l {w : Cond} (h : w ∈ TB) : w ∈ lw_tbl := (List.mem_filter.mp h).1
theorem tb1 {w : Cond} (i : Nat) (h : tables_1_1[i]? = some w) (g : goodWord w = true) : w ∈ TB := TB_m (List.mem_append_right _ (List.mem_append_left _ (List.mem_of_getElem? h))) g
theorem tb2 {w : Cond} (i : Nat) (h : tables_1_2[i]? = some w) (g : goodWord w = true) : w ∈ TB := TB_m (List.mem_append_right _ (List.mem_append_right _ (List.mem_append_left _ (List.mem_of_getElem? h)))) g
theorem tb3 {w : Cond} (i : Nat) (h : tables_1_3[i]? = some w) (g : goodWord w = true) : w ∈ TB := TB_m (List.mem_append_right _ (List.mem_append_right _ (List.mem_append_right _ (List.mem_append_left _ (List.mem_of_getElem? h))))) g
theorem tb4 {w : Cond} (i : Nat) (h : tables_1_4[i]? = some w) (g : goodWord w = true) : w ∈ TB := TB_m (List.mem_append_right _ (List.mem_append_right _ (List.mem_append_right _ (List.mem_append_right _ (List.mem_append_left _ (List.mem_of_getElem? h)))))) g
theorem tb5 {w : Cond} (i : Nat) (h : tables_1_5[i]? = some w) (g : goodWord w = true) : w ∈ TB := TB_m (List.mem_append_right _ (List.mem_append_right _ (List.mem_append_right _ (List.mem_append_right _ (List.mem_append_right _ (List.mem_of_getElem? h)))))) g
theorem tb0 {y : MethodName} (i : Nat) {n : Nat} (h : lw_privs[i]? = some (y, n)) : Cond.selects y.cls y y ∈ TB := TB_m (List.mem_append_left _ (List.mem_map.mpr ⟨(y, n), List.mem_of_getElem? h, rfl⟩)) rfl
theorem tbX {ws : List Cond} (h : ∀ w ∈ ws, w ∈ lw_tbl) (g : ws.all goodWord = true) : ∀ w ∈ ws, w ∈ TB := fun w hw => TB_m (h w hw) (List.all_eq_true.mp g w hw)
theorem tbX0 : ∀ w ∈ wsX00, w ∈ TB := tbX inX0 (by decide +kernel)
theorem tbX1 : ∀ w ∈ wsX10, w ∈ TB := tbX inX1 (by decide +kernel)
theorem tbX2 : ∀ w ∈ wsX20, w ∈ TB := tbX inX2 (by decide +kernel)
theorem tbX3 : ∀ w ∈ wsX30, w ∈ TB := tbX inX3 (by decide +kernel)
theorem tbX4 : ∀ w ∈ wsX40, w ∈ TB := tbX inX4 (by decide +kernel)
theorem tbX5 : ∀ w ∈ wsX50, w ∈ TB := tbX inX5 (by decide +kernel)
theorem tbX6 : ∀ w ∈ wsX60, w ∈ TB := tbX inX6 (by decide +kernel)
theorem tbX7 : ∀ w ∈ wsX70, w ∈ TB := tbX inX7 (by decide +kernel)
theorem tbX8 : ∀ w ∈ wsX80, w ∈ TB := tbX inX8 (by decide +kernel)
/-! SCALARS AND ROWS OF ONE SYSTEM: every cell has a number; the world of a system is a list made of its layout. -/
abbrev SS : Type := (Nat → Int32) × (Nat → Nat → Int32)
abbrev LY : Type := List (Nat × List (Nat ⊕ Nat)) × List (Nat × Bool)
def gA (S : SS) (q n : Nat) (i : Int32) : Option Int32 := if i < 0 ∨ n ≤ i.toNatClampNeg then none else some (S.2 q i.toNatClampNeg)
def pA (S : SS) (q n : Nat) (i v : Int32) : Option SS := if i < 0 ∨ n ≤ i.toNatClampNeg then none else some (S.1, fun j => if j = q then upd (S.2 q) i.toNatClampNeg v else S.2 j)
def pI (S : SS) (k : Nat) (v : Int32) : SS := (upd S.1 k v, S.2)
def bb {α β : Type} (o : Option β) (f : β → Option α) : Option α := match o with
  | some x => f x
  | none => none
def b2 {α : Type} (o : Option (Int32 × SS)) (f : Int32 → SS → Option α) : Option α := match o with
  | some (r, S) => f r S
  | none => none
def rZ (v : Int32) (S : SS) : Option (Int32 × SS) := if v = 0 ∨ v = 1 then some (v, S) else none
def dv (x y : Int32) : Option Int32 := if y = 0 then none else some (x / y)
def rm (x y : Int32) : Option Int32 := if y = 0 then none else some (x - x / y * y)
theorem bb_some {α β : Type} {o : Option β} {f : β → Option α} {b : α} (h : bb o f = some b) : ∃ a, o = some a ∧ f a = some b := by
  cases o with
  | none => cases h
  | some a => exact ⟨a, rfl, h⟩
theorem b2_some {α : Type} {o : Option (Int32 × SS)} {f : Int32 → SS → Option α} {b : α} (h : b2 o f = some b) : ∃ r S, o = some (r, S) ∧ f r S = some b := by
  cases o with
  | none => cases h
  | some a => exact ⟨a.1, a.2, rfl, h⟩
theorem rZ_some {v r : Int32} {S S1 : SS} (h : rZ v S = some (r, S1)) : (v = 0 ∨ v = 1) ∧ v = r ∧ S = S1 := by
  unfold rZ at h
  by_cases c : v = 0 ∨ v = 1
  · rw [if_pos c] at h
    cases h
    exact ⟨c, rfl, rfl⟩
  · rw [if_neg c] at h
    cases h
theorem dv_some {x y v : Int32} (h : dv x y = some v) : ¬ y = 0 ∧ v = x / y := by
  unfold dv at h
  by_cases c : y = 0
  · rw [if_pos c] at h
    cases h
  · rw [if_neg c] at h
    cases h
    exact ⟨c, rfl⟩
theorem rm_some {x y v : Int32} (h : rm x y = some v) : ¬ y = 0 ∧ v = x - x / y * y := by
  unfold rm at h
  by_cases c : y = 0
  · rw [if_pos c] at h
    cases h
  · rw [if_neg c] at h
    cases h
    exact ⟨c, rfl⟩
theorem it_d {α : Type} {c : Prop} [Decidable c] {a b x : α} (h : (if c then a else b) = x) : (c → a = x) ∧ (¬ c → b = x) := by
  by_cases hc : c
  · rw [if_pos hc] at h
    exact ⟨fun _ => h, fun n => absurd hc n⟩
  · rw [if_neg hc] at h
    exact ⟨fun n => absurd n hc, fun _ => h⟩
theorem gA_some {S : SS} {q n : Nat} {i v : Int32} (h : gA S q n i = some v) : vp_in i n ∧ v = S.2 q i.toNatClampNeg := by
  unfold gA at h
  by_cases c : i < 0 ∨ n ≤ i.toNatClampNeg
  · rw [if_pos c] at h
    cases h
  · rw [if_neg c] at h
    cases h
    exact ⟨c, rfl⟩
theorem pA_some {S S1 : SS} {q n : Nat} {i v : Int32} (h : pA S q n i v = some S1) : vp_in i n ∧ S1 = (S.1, fun j => if j = q then upd (S.2 q) i.toNatClampNeg v else S.2 j) := by
  unfold pA at h
  by_cases c : i < 0 ∨ n ≤ i.toNatClampNeg
  · rw [if_pos c] at h
    cases h
  · rw [if_neg c] at h
    cases h
    exact ⟨c, rfl⟩
theorem some_pr {r r1 : Int32} {S S1 : SS} (h : some (r, S) = some (r1, S1)) : r = r1 ∧ S = S1 := by
  cases h
  exact ⟨rfl, rfl⟩
/-! THE WORLD OF A LAYOUT -/
def wF (ad : Nat → Nat) (S : SS) (d : Nat ⊕ Nat) : Value := match d with
  | .inl r => .ref (ad r)
  | .inr k => .int (S.1 k)
def wO (ad : Nat → Nat) (S : SS) (q : (Nat × List (Nat ⊕ Nat)) × Nat) : Nat × va_E := (ad q.2, .inr (q.1.1, q.1.2.map (wF ad S)))
def wA (ad : Nat → Nat) (cI cZ : ClassId) (S : SS) (n0 : Nat) (q : (Nat × Bool) × Nat) : Nat × va_E := (ad (n0 + q.2), .inl (if q.1.2 then cZ else cI, q.1.1, .inl (S.2 (n0 + q.2))))
def wW (ly : LY) (ad : Nat → Nat) (cI cZ : ClassId) (S : SS) : va_W := ly.1.zipIdx.map (wO ad S) ++ ly.2.zipIdx.map (wA ad cI cZ S ly.1.length)
theorem wW_len (ly : LY) (ad : Nat → Nat) (cI cZ : ClassId) (S : SS) : (wW ly ad cI cZ S).length = ly.1.length + ly.2.length := by simp [wW]
theorem wW_get (ly : LY) (ad : Nat → Nat) (cI cZ : ClassId) (S : SS) (k : Nat) : (wW ly ad cI cZ S)[k]? = if k < ly.1.length then (ly.1[k]?).map (fun o => ((ad k, .inr (o.1, o.2.map (wF ad S))) : Nat × va_E)) else (ly.2[k - ly.1.length]?).map (fun a => ((ad k, .inl (if a.2 then cZ else cI, a.1, .inl (S.2 k))) : Nat × va_E)) := by
  unfold wW
  by_cases h : k < ly.1.length
  · rw [if_pos h, List.getElem?_append_left (by simpa using h), List.getElem?_map, List.getElem?_zipIdx]
    cases ly.1[k]? <;> simp [wO]
  · have h' : ly.1.length ≤ k := Nat.le_of_not_lt h
    have e : ly.1.length + (k - ly.1.length) = k := by omega
    rw [if_neg h, List.getElem?_append_right (by simpa using h'), List.getElem?_map, List.getElem?_zipIdx, List.length_map, List.length_zipIdx]
    cases ly.2[k - ly.1.length]? with
    | none => rfl
    | some a =>
      show some (wA ad cI cZ S ly.1.length (a, 0 + (k - ly.1.length))) = some _
      rw [Nat.zero_add]
      unfold wA
      dsimp only
      rw [e]
theorem wW_obj {ly : LY} {ad : Nat → Nat} {cI cZ : ClassId} {S : SS} {i : Nat} {o : Nat × List (Nat ⊕ Nat)} (h : ly.1[i]? = some o) : (wW ly ad cI cZ S)[i]? = some (ad i, .inr (o.1, o.2.map (wF ad S))) := by
  rw [wW_get, if_pos (List.getElem?_eq_some_iff.mp h).1, h]
  rfl
theorem wW_arr {ly : LY} {ad : Nat → Nat} {cI cZ : ClassId} {S : SS} {q : Nat} {a : Nat × Bool} (hq : ly.1.length ≤ q) (h : ly.2[q - ly.1.length]? = some a) : (wW ly ad cI cZ S)[q]? = some (ad q, .inl (if a.2 then cZ else cI, a.1, .inl (S.2 q))) := by
  rw [wW_get, if_neg (Nat.not_lt.mpr hq), h]
  rfl
theorem wF_arr (ad : Nat → Nat) (S : SS) (g : Nat → Nat → Int32) : wF ad (S.1, g) = wF ad S := by
  funext d
  cases d <;> rfl
theorem wW_setA {ly : LY} {ad : Nat → Nat} {cI cZ : ClassId} {S : SS} {q : Nat} {a : Nat × Bool} {f : Nat → Int32} (hq : ly.1.length ≤ q) (h : ly.2[q - ly.1.length]? = some a) : (wW ly ad cI cZ S).set q (ad q, .inl (if a.2 then cZ else cI, a.1, .inl f)) = wW ly ad cI cZ (S.1, fun j => if j = q then f else S.2 j) := by
  apply List.ext_getElem?
  intro k
  rw [List.getElem?_set, wW_get, wW_get]
  have hl := (List.getElem?_eq_some_iff.mp h).1
  by_cases c : q = k
  · subst c
    rw [if_pos rfl, if_pos (by rw [wW_len]; omega), if_neg (Nat.not_lt.mpr hq), h]
    simp
  · rw [if_neg c]
    by_cases d : k < ly.1.length
    · rw [if_pos d, if_pos d, show wF ad (S.1, fun j => if j = q then f else S.2 j) = wF ad S from wF_arr ad S _]
    · rw [if_neg d, if_neg d]
      have c2 : ¬ k = q := fun e => c e.symm
      dsimp only
      rw [if_neg c2]
def lyOk (ly : LY) (sc : List (Nat × Nat)) : Prop := ∀ (i : Nat) (o : Nat × List (Nat ⊕ Nat)) (k κ : Nat), ly.1[i]? = some o → o.2[k]? = some (.inr κ) → sc[κ]? = some (i, k)
def lyB (ly : LY) (sc : List (Nat × Nat)) : Bool := ly.1.zipIdx.all fun q => q.1.2.zipIdx.all fun d => match d.1 with
  | .inl _ => true
  | .inr κ => decide (sc[κ]? = some (q.2, d.2))
theorem lyOk_of {ly : LY} {sc : List (Nat × Nat)} (h : lyB ly sc = true) : lyOk ly sc := by
  intro i o k κ hi hk
  have h1 := List.all_eq_true.mp h (o, i) (List.mem_of_getElem? (i := i) (by rw [List.getElem?_zipIdx, hi]; simp))
  have h2 := List.all_eq_true.mp h1 (.inr κ, k) (List.mem_of_getElem? (i := k) (by rw [List.getElem?_zipIdx, hk]; simp))
  simpa using h2
theorem wF_upd {ad : Nat → Nat} {S : SS} {κ : Nat} {v : Int32} {d : Nat ⊕ Nat} (h : d ≠ .inr κ) : wF ad (pI S κ v) d = wF ad S d := by
  cases d with
  | inl r => rfl
  | inr k =>
    have : k ≠ κ := fun e => h (by rw [e])
    show Value.int (upd S.1 κ v k) = _
    simp [upd, this, wF]
theorem wW_setI {ly : LY} {sc : List (Nat × Nat)} {ad : Nat → Nat} {cI cZ : ClassId} {S : SS} {i k κ : Nat} {o : Nat × List (Nat ⊕ Nat)} {v : Int32} (hu : lyOk ly sc) (h : ly.1[i]? = some o) (hk : o.2[k]? = some (.inr κ)) : (wW ly ad cI cZ S).set i (ad i, .inr (o.1, (o.2.map (wF ad S)).set k (.int v))) = wW ly ad cI cZ (pI S κ v) := by
  apply List.ext_getElem?
  intro q
  have hs := hu i o k κ h hk
  have hl := (List.getElem?_eq_some_iff.mp h).1
  rw [List.getElem?_set, wW_get, wW_get]
  by_cases c : i = q
  · subst c
    rw [if_pos rfl, if_pos (by rw [wW_len]; omega), if_pos hl, h]
    have key : (o.2.map (wF ad S)).set k (.int v) = o.2.map (wF ad (pI S κ v)) := ?_
    · rw [key]; rfl
    apply List.ext_getElem?
    intro j
    rw [List.getElem?_set, List.getElem?_map, List.getElem?_map]
    by_cases d : k = j
    · subst d
      have hkl : k < (o.2.map (wF ad S)).length := by rw [List.length_map]; exact (List.getElem?_eq_some_iff.mp hk).1
      rw [if_pos rfl, if_pos hkl, hk]
      show some (Value.int v) = some (Value.int (upd S.1 κ v κ))
      simp [upd]
    · rw [if_neg d]
      cases hj : o.2[j]? with
      | none => rfl
      | some x =>
        show some _ = some _
        rw [wF_upd]
        intro e
        subst e
        have := hu i o j κ h hj
        rw [hs] at this
        cases this
        exact d rfl
  · rw [if_neg c]
    by_cases d : q < ly.1.length
    · rw [if_pos d, if_pos d]
      cases hq : ly.1[q]? with
      | none => rfl
      | some o2 =>
        have key : o2.2.map (wF ad S) = o2.2.map (wF ad (pI S κ v)) := ?_
        · show some (ad q, Sum.inr (o2.1, o2.2.map (wF ad S))) = some (ad q, Sum.inr (o2.1, o2.2.map (wF ad (pI S κ v))))
          rw [key]
        apply List.map_congr_left
        intro x hx
        rw [wF_upd]
        intro e
        subst e
        obtain ⟨j, hj⟩ := List.getElem?_of_mem hx
        have := hu q o2 j κ hq hj
        rw [hs] at this
        cases this
        exact c rfl
    · rw [if_neg d, if_neg d]
      rfl
/-! THE CONTEXT OF A METHOD, THE WORLD AT A HEAP, THE ROOM BY LEVELS -/
def rmK (k : Nat) : Room := { frames := k, cells := 0, slots := 0, locals := 60 * k }
abbrev tyL (cI cZ : ClassId) : List (ClassId × FieldType) := [(cI, .int), (cZ, .boolean)]
def MC (p : Program) (s : State) (m : MethodId) (args : Array Value) (meth : Method) (c : Code) (cc : ByteArray) (nL : Nat) (own : String) (D : va_G) (cI cZ : ClassId) (A : Nat → Prop) (ret : Option FieldType) : Prop :=
  p.tables.exec = Jvm.exec ∧ c.code = cc ∧ c.maxLocals = nL ∧ s.vm.findClass own = some m.cls ∧ (∀ w ∈ TB, w.before args s = true) ∧ va_K D vwCl (tyL cI cZ) s ∧ meth.locks = false ∧ meth.sig.returnType = ret ∧ ∀ q, s.heap.size ≤ q → A q
def WH (D : va_G) (A : Nat → Prop) (H0 : Heap) (ly : LY) (ad : Nat → Nat) (cI cZ : ClassId) (S : SS) (H : Heap) (locs : List Loc) : Prop :=
  va_P D vwCl (wW ly ad cI cZ S) H ∧ va_D A (wW ly ad cI cZ S) ∧ va_S A H0 H locs
def GI (ly : LY) (own : String) (idx i κ : Nat) : Prop := ∃ (ci k : Nat) (fs : List (Nat ⊕ Nat)) (C : String) (T : u_T) (N : Nat), ly.1[i]? = some (ci, fs) ∧ fs[k]? = some (.inr κ) ∧ vwCl[ci]? = some (C, T, N) ∧ k < N ∧ (∀ w ∈ u_ws C T N, w ∈ TB) ∧ Cond.fieldLink own idx (T k).1 (T k).2.1 (T k).2.2.1 ∈ TB
def GR (ly : LY) (own : String) (idx i r : Nat) : Prop := ∃ (ci k : Nat) (fs : List (Nat ⊕ Nat)) (C : String) (T : u_T) (N : Nat), ly.1[i]? = some (ci, fs) ∧ fs[k]? = some (.inl r) ∧ vwCl[ci]? = some (C, T, N) ∧ k < N ∧ (∀ w ∈ u_ws C T N, w ∈ TB) ∧ Cond.fieldLink own idx (T k).1 (T k).2.1 (T k).2.2.1 ∈ TB
def GP (ly : LY) (own : String) (idx i κ : Nat) (ty : FieldType) : Prop := ∃ (sc : List (Nat × Nat)) (ci k : Nat) (fs : List (Nat ⊕ Nat)) (C : String) (T : u_T) (N : Nat) (ty0 : Nat → FieldType), lyOk ly sc ∧ ly.1[i]? = some (ci, fs) ∧ fs[k]? = some (.inr κ) ∧ vwCl[ci]? = some (C, T, N) ∧ k < N ∧ (∀ w ∈ u_ws C T N, w ∈ TB) ∧ Cond.fieldLink own idx (T k).1 (T k).2.1 (T k).2.2.1 ∈ TB ∧ (T k).2.2.2 = false ∧ parseFieldDescriptor (T k).2.2.1 = some ty ∧ (∀ k, k < N → parseFieldDescriptor (T k).2.2.1 = some (ty0 k)) ∧ (∀ a, a < N → ∀ b, b < N → a ≠ b → (T a).2.1 ≠ (T b).2.1)
def AL (ly : LY) (q n : Nat) (b : Bool) : Prop := ly.1.length ≤ q ∧ ly.2[q - ly.1.length]? = some (n, b)
section ROWS
variable {p : Program} {l : Launch} {e : Env} {R : Room} {s : State} {m : MethodId} {args : Array Value} {below : List Frame} {meth : Method} {c : Code} {H : Heap} {locs : List Loc} {cells slots : Nat} {Q : State → Prop}
variable {cc : ByteArray} {nL pc : Nat} {own : String} {D : va_G} {cI cZ : ClassId} {A : Nat → Prop} {ret : Option FieldType} {ly : LY} {ad : Nat → Nat} {S : SS} {ls : Array Slot} {rest : List Value}
theorem x_getI {idx i κ : Nat} (C : MC p s m args meth c cc nL own D cI cZ A ret) (h : WH D A s.heap ly ad cI cZ S H locs) (g : GI ly own idx i κ) (hdg : decode cc pc = .ok (.getfield idx, 3))
    (kk : W p l e R s m args below meth c H locs cells slots Q (F0 m (pc + 3) ls (.int (S.1 κ) :: rest))) : W p l e R s m args below meth c H locs cells slots Q (F0 m pc ls (.ref (ad i) :: rest)) := by
  obtain ⟨hx, hb, hml, hown, hts, hK, hlk, hr, hA⟩ := C
  obtain ⟨ci, k, fs, Cn, T, N, h1, h2, h3, h4, h5, h6⟩ := g
  exact va_get (v := .int (S.1 κ)) hx hb hts h5 hown hK h.1 i (wW_obj h1) h3 k h4 (hts _ h6) (fun _ h9 => h9) (by rw [List.getElem?_map, h2]; rfl) hdg kk
theorem x_getR {idx i r : Nat} (C : MC p s m args meth c cc nL own D cI cZ A ret) (h : WH D A s.heap ly ad cI cZ S H locs) (g : GR ly own idx i r) (hdg : decode cc pc = .ok (.getfield idx, 3))
    (kk : W p l e R s m args below meth c H locs cells slots Q (F0 m (pc + 3) ls (.ref (ad r) :: rest))) : W p l e R s m args below meth c H locs cells slots Q (F0 m pc ls (.ref (ad i) :: rest)) := by
  obtain ⟨hx, hb, hml, hown, hts, hK, hlk, hr, hA⟩ := C
  obtain ⟨ci, k, fs, Cn, T, N, h1, h2, h3, h4, h5, h6⟩ := g
  exact va_get (v := .ref (ad r)) hx hb hts h5 hown hK h.1 i (wW_obj h1) h3 k h4 (hts _ h6) (fun _ h9 => h9) (by rw [List.getElem?_map, h2]; rfl) hdg kk
theorem x_putI {idx i κ : Nat} {ty : FieldType} {v : Int32} (C : MC p s m args meth c cc nL own D cI cZ A ret) (h : WH D A s.heap ly ad cI cZ S H locs) (g : GP ly own idx i κ ty) (hn : narrow ty (.int v) = .int v) (hf : fits ty (.int v) = true) (hdg : decode cc pc = .ok (.putfield idx, 3))
    (kk : ∀ (H1 : Heap) (locs1 : List Loc), WH D A s.heap ly ad cI cZ (pI S κ v) H1 locs1 → W p l e R s m args below meth c H1 locs1 cells slots Q (F0 m (pc + 3) ls rest)) : W p l e R s m args below meth c H locs cells slots Q (F0 m pc ls (.int v :: .ref (ad i) :: rest)) := by
  obtain ⟨hx, hb, hml, hown, hts, hK, hlk, hr, hA⟩ := C
  obtain ⟨sc, ci, k, fs, Cn, T, N, ty0, h0, h1, h2, h3, h4, h5, h6, h7, h8, h9, h10⟩ := g
  refine va_put hx hb hts h5 ty0 h9 h10 hown hK h.1 h.2.1 h.2.2 i (wW_obj h1) h3 k h4 (hts _ h6) (fun _ z => z) h7 h8 hn hf (by rw [List.length_map]; exact (List.getElem?_eq_some_iff.mp h2).1) hdg (fun H1 locs1 a1 a2 a3 => kk H1 locs1 ⟨?_, ?_, a3⟩)
  · rw [wW_setI h0 h1 h2] at a1; exact a1
  · rw [wW_setI h0 h1 h2] at a2; exact a2
theorem x_ald {q n : Nat} {i v : Int32} (C : MC p s m args meth c cc nL own D cI cZ A ret) (h : WH D A s.heap ly ad cI cZ S H locs) (a : AL ly q n false) (hv : gA S q n i = some v) (hdg : decode cc pc = .ok (.iaload, 1))
    (kk : W p l e R s m args below meth c H locs cells slots Q (F0 m (pc + 1) ls (.int v :: rest))) : W p l e R s m args below meth c H locs cells slots Q (F0 m pc ls (.int i :: .ref (ad q) :: rest)) := by
  obtain ⟨hx, hb, hml, hown, hts, hK, hlk, hr, hA⟩ := C
  obtain ⟨h1, h2⟩ := gA_some hv
  subst h2
  exact va_iald hx hb hK h.1 q 0 (wW_arr a.1 a.2) rfl h1 hdg kk
theorem x_zald {q n : Nat} {i v : Int32} (C : MC p s m args meth c cc nL own D cI cZ A ret) (h : WH D A s.heap ly ad cI cZ S H locs) (a : AL ly q n true) (hv : gA S q n i = some v) (hdg : decode cc pc = .ok (.baload, 1))
    (kk : W p l e R s m args below meth c H locs cells slots Q (F0 m (pc + 1) ls (.int v :: rest))) : W p l e R s m args below meth c H locs cells slots Q (F0 m pc ls (.int i :: .ref (ad q) :: rest)) := by
  obtain ⟨hx, hb, hml, hown, hts, hK, hlk, hr, hA⟩ := C
  obtain ⟨h1, h2⟩ := gA_some hv
  subst h2
  exact va_zald hx hb hK h.1 q 1 (wW_arr a.1 a.2) rfl h1 hdg kk
theorem x_ast {q n : Nat} {i v : Int32} {S1 : SS} (C : MC p s m args meth c cc nL own D cI cZ A ret) (h : WH D A s.heap ly ad cI cZ S H locs) (a : AL ly q n false) (hv : pA S q n i v = some S1) (hdg : decode cc pc = .ok (.iastore, 1))
    (kk : ∀ (H1 : Heap) (locs1 : List Loc), WH D A s.heap ly ad cI cZ S1 H1 locs1 → W p l e R s m args below meth c H1 locs1 cells slots Q (F0 m (pc + 1) ls rest)) : W p l e R s m args below meth c H locs cells slots Q (F0 m pc ls (.int v :: .int i :: .ref (ad q) :: rest)) := by
  obtain ⟨hx, hb, hml, hown, hts, hK, hlk, hr, hA⟩ := C
  obtain ⟨h1, h2⟩ := pA_some hv
  subst h2
  refine va_iast hx hb hK h.1 h.2.1 h.2.2 q 0 (wW_arr a.1 a.2) rfl h1 hdg (fun H1 locs1 a1 a2 a3 => kk H1 locs1 ⟨?_, ?_, a3⟩)
  · have e := wW_setA (ad := ad) (cI := cI) (cZ := cZ) (S := S) (f := upd (S.2 q) i.toNatClampNeg v) a.1 a.2
    rw [← e]; exact a1
  · have e := wW_setA (ad := ad) (cI := cI) (cZ := cZ) (S := S) (f := upd (S.2 q) i.toNatClampNeg v) a.1 a.2
    rw [← e]; exact a2
theorem x_zast {q n : Nat} {i v : Int32} {S1 : SS} (C : MC p s m args meth c cc nL own D cI cZ A ret) (h : WH D A s.heap ly ad cI cZ S H locs) (a : AL ly q n true) (hv : pA S q n i (vp_nar .boolean v) = some S1) (hdg : decode cc pc = .ok (.bastore, 1))
    (kk : ∀ (H1 : Heap) (locs1 : List Loc), WH D A s.heap ly ad cI cZ S1 H1 locs1 → W p l e R s m args below meth c H1 locs1 cells slots Q (F0 m (pc + 1) ls rest)) : W p l e R s m args below meth c H locs cells slots Q (F0 m pc ls (.int v :: .int i :: .ref (ad q) :: rest)) := by
  obtain ⟨hx, hb, hml, hown, hts, hK, hlk, hr, hA⟩ := C
  obtain ⟨h1, h2⟩ := pA_some hv
  subst h2
  refine va_zast hx hb hK h.1 h.2.1 h.2.2 q 1 (wW_arr a.1 a.2) rfl h1 hdg (fun H1 locs1 a1 a2 a3 => kk H1 locs1 ⟨?_, ?_, a3⟩)
  · have e := wW_setA (ad := ad) (cI := cI) (cZ := cZ) (S := S) (f := upd (S.2 q) i.toNatClampNeg (vp_nar .boolean v)) a.1 a.2
    rw [← e]; exact a1
  · have e := wW_setA (ad := ad) (cI := cI) (cZ := cZ) (S := S) (f := upd (S.2 q) i.toNatClampNeg (vp_nar .boolean v)) a.1 a.2
    rw [← e]; exact a2
theorem x_alen {q n : Nat} {v : Int32} (C : MC p s m args meth c cc nL own D cI cZ A ret) (h : WH D A s.heap ly ad cI cZ S H locs) (a : AL ly q n false) (hv : Int32.ofNat n = v) (hdg : decode cc pc = .ok (.arraylength, 1))
    (kk : W p l e R s m args below meth c H locs cells slots Q (F0 m (pc + 1) ls (.int v :: rest))) : W p l e R s m args below meth c H locs cells slots Q (F0 m pc ls (.ref (ad q) :: rest)) := by
  obtain ⟨hx, hb, hml, hown, hts, hK, hlk, hr, hA⟩ := C
  exact va_alen hx hb hK h.1 q 0 (wW_arr a.1 a.2) rfl hv hdg kk
end ROWS
/-! CONTRACTS -/
def Pre0 (D : va_G) (ly : LY) (ad : Nat → Nat) (cI cZ : ClassId) (S : SS) (sz : Nat) (U : State) : Prop := U.heap.size = sz ∧ va_P D vwCl (wW ly ad cI cZ S) U.heap ∧ va_K D vwCl (tyL cI cZ) U ∧ va_D (fun _ => True) (wW ly ad cI cZ S)
def Bf (D : va_G) (ly : LY) (ad : Nat → Nat) (cI cZ : ClassId) (A : Nat → Prop) (S : SS) (t : State) : Prop := va_P D vwCl (wW ly ad cI cZ S) t.heap ∧ va_K D vwCl (tyL cI cZ) t ∧ va_D A (wW ly ad cI cZ S)
def Qi (D : va_G) (ly : LY) (ad : Nat → Nat) (cI cZ : ClassId) (A : Nat → Prop) (r : Int32) (S : SS) : Array Value → State → Outcome → State → Prop := va_Qi (fun r1 S1 => r1 = r ∧ S1 = S) (Bf D ly ad cI cZ A) A
def Qv (D : va_G) (ly : LY) (ad : Nat → Nat) (cI cZ : ClassId) (A : Nat → Prop) (S : SS) : Array Value → State → Outcome → State → Prop := va_Qv (fun S1 => S1 = S) (Bf D ly ad cI cZ A) A
def MI (l : Launch) (D : va_G) (ly : LY) (ad : Nat → Nat) (cI cZ : ClassId) (y : MethodName) (cc : ByteArray) (maxL : Nat) (ret : Option FieldType) (k : Nat) (av : List Value) (S : SS) (r : Int32) (S1 : SS) : Prop :=
  ∀ sz, Met l y (.code y cc maxL ret :: TB) (rmK k) (va_Pc av (Pre0 D ly ad cI cZ S sz)) (Qi D ly ad cI cZ (va_A (wW ly ad cI cZ S) sz) r S1) 0 0 (va_A (wW ly ad cI cZ S) sz)
def MV (l : Launch) (D : va_G) (ly : LY) (ad : Nat → Nat) (cI cZ : ClassId) (y : MethodName) (cc : ByteArray) (maxL : Nat) (k : Nat) (av : List Value) (S : SS) (S1 : SS) : Prop :=
  ∀ sz, Met l y (.code y cc maxL none :: TB) (rmK k) (va_Pc av (Pre0 D ly ad cI cZ S sz)) (Qv D ly ad cI cZ (va_A (wW ly ad cI cZ S) sz) S1) 0 0 (va_A (wW ly ad cI cZ S) sz)
theorem blind0 {D : va_G} {ly : LY} {ad : Nat → Nat} {cI cZ : ClassId} {S : SS} {sz : Nat} {av : List Value} : FrameBlind (va_Pc av (Pre0 D ly ad cI cZ S sz)) := fun a U g mk q => by
  obtain ⟨q0, q1, qP, qK, qD⟩ := q
  exact ⟨q0, q1, qP, va_K.moved (u := U) (U := U.calling g mk a) (Vm.Alike.refl U.vm) qK, qD⟩
section STARTS
variable {l : Launch} {D : va_G} {ly : LY} {ad : Nat → Nat} {cI cZ : ClassId} {y : MethodName} {cc : ByteArray} {maxL k : Nat} {ret : Option FieldType} {av : List Value} {S S1 : SS} {r : Int32}
theorem x_startI (own : String) (hy : plainName y.cls = true) (hown : y.cls = own) (hle : (lg_sl av).length ≤ maxL)
    (body : ∀ (p : Program) (e : Env) (s : State) (m : MethodId) (args : Array Value) (below : List Frame) (meth : Method) (c : Code) (A : Nat → Prop), MC p s m args meth c cc maxL own D cI cZ A ret → WH D A s.heap ly ad cI cZ S s.heap [] → ∀ ls : Array Slot, lv_has ls maxL (lv_args 0 av) → W p l e (rmK k) s m args below meth c s.heap [] 0 0 (MQ below (Qi D ly ad cI cZ A r S1) args s 0 0 A) (F0 m 0 ls [])) : MI l D ly ad cI cZ y cc maxL ret k av S r S1 := by
  intro sz
  subst hown
  refine Met.ofW (cc := cc) (maxL := maxL) (ret := ret) hy rfl ?_
  intro p e s m args below meth c s₁ B hml hv
  obtain ⟨rfl, hsz, hP, hK, hD0⟩ := hv
  subst hsz
  have hts := atoms_spec (ws := .code y cc maxL ret :: TB) B.pre
  have hown : s.vm.findClass y.cls = some m.cls := findClass_of_methodNamed B.named
  have hl := lv_entry av (n := maxL) hle
  rw [lg_entry_eq]
  exact body p e s m _ below meth c _ ⟨B.exec, B.bytes, hml, hown, fun w hw => hts w (List.mem_cons_of_mem _ hw), hK, B.notSynchronized, B.returns, fun q h => Or.inr h⟩ ⟨hP, hD0.self (sz := s.heap.size), va_S.rf⟩ _ hl
theorem x_startV (own : String) (hy : plainName y.cls = true) (hown : y.cls = own) (hle : (lg_sl av).length ≤ maxL)
    (body : ∀ (p : Program) (e : Env) (s : State) (m : MethodId) (args : Array Value) (below : List Frame) (meth : Method) (c : Code) (A : Nat → Prop), MC p s m args meth c cc maxL own D cI cZ A none → WH D A s.heap ly ad cI cZ S s.heap [] → ∀ ls : Array Slot, lv_has ls maxL (lv_args 0 av) → W p l e (rmK k) s m args below meth c s.heap [] 0 0 (MQ below (Qv D ly ad cI cZ A S1) args s 0 0 A) (F0 m 0 ls [])) : MV l D ly ad cI cZ y cc maxL k av S S1 := by
  intro sz
  subst hown
  refine Met.ofW (cc := cc) (maxL := maxL) (ret := none) hy rfl ?_
  intro p e s m args below meth c s₁ B hml hv
  obtain ⟨rfl, hsz, hP, hK, hD0⟩ := hv
  subst hsz
  have hts := atoms_spec (ws := .code y cc maxL none :: TB) B.pre
  have hown : s.vm.findClass y.cls = some m.cls := findClass_of_methodNamed B.named
  have hl := lv_entry av (n := maxL) hle
  rw [lg_entry_eq]
  exact body p e s m _ below meth c _ ⟨B.exec, B.bytes, hml, hown, fun w hw => hts w (List.mem_cons_of_mem _ hw), hK, B.notSynchronized, B.returns, fun q h => Or.inr h⟩ ⟨hP, hD0.self (sz := s.heap.size), va_S.rf⟩ _ hl
end STARTS
section ENDS
variable {p : Program} {l : Launch} {e : Env} {R : Room} {s : State} {m : MethodId} {args : Array Value} {below : List Frame} {meth : Method} {c : Code} {H : Heap} {locs : List Loc}
variable {cc : ByteArray} {nL pc : Nat} {own : String} {D : va_G} {cI cZ : ClassId} {A : Nat → Prop} {ly : LY} {ad : Nat → Nat} {S S1 : SS} {ls : Array Slot} {v r : Int32}
theorem x_iret (C : MC p s m args meth c cc nL own D cI cZ A (some .int)) (h : WH D A s.heap ly ad cI cZ S H locs) (hv : some (v, S) = some (r, S1)) (hdg : decode cc pc = .ok (.ireturn, 1)) : W p l e R s m args below meth c H locs 0 0 (MQ below (Qi D ly ad cI cZ A r S1) args s 0 0 A) (F0 m pc ls [.int v]) := by
  obtain ⟨hx, hb, hml, hown, hts, hK, hlk, hr, hA⟩ := C
  obtain ⟨rfl, rfl⟩ := some_pr hv
  exact W.iret hx hb hr (fun t ht hW => ⟨⟨v, S, rfl, ⟨rfl, rfl⟩, by rw [ht]; exact h.1, va_K.moved hW.alike hK, h.2.1⟩, h.2.2.F ht⟩) h.2.2.2.2 hdg hlk
theorem x_zret (C : MC p s m args meth c cc nL own D cI cZ A (some .boolean)) (h : WH D A s.heap ly ad cI cZ S H locs) (hv : rZ v S = some (r, S1)) (hdg : decode cc pc = .ok (.ireturn, 1)) : W p l e R s m args below meth c H locs 0 0 (MQ below (Qi D ly ad cI cZ A r S1) args s 0 0 A) (F0 m pc ls [.int v]) := by
  obtain ⟨hx, hb, hml, hown, hts, hK, hlk, hr, hA⟩ := C
  obtain ⟨h01, rfl, rfl⟩ := rZ_some hv
  exact W.zret hx hb hr (by rcases h01 with rfl | rfl <;> rfl) (fun t ht hW => ⟨⟨v, S, rfl, ⟨rfl, rfl⟩, by rw [ht]; exact h.1, va_K.moved hW.alike hK, h.2.1⟩, h.2.2.F ht⟩) h.2.2.2.2 hdg hlk
theorem x_vret (C : MC p s m args meth c cc nL own D cI cZ A none) (h : WH D A s.heap ly ad cI cZ S H locs) (hv : some S = some S1) (hdg : decode cc pc = .ok (.return_, 1)) : W p l e R s m args below meth c H locs 0 0 (MQ below (Qv D ly ad cI cZ A S1) args s 0 0 A) (F0 m pc ls []) := by
  obtain ⟨hx, hb, hml, hown, hts, hK, hlk, hr, hA⟩ := C
  cases hv
  exact W.vret hx hb hr (fun t ht hW => ⟨⟨S, rfl, rfl, by rw [ht]; exact h.1, va_K.moved hW.alike hK, h.2.1⟩, h.2.2.F ht⟩) h.2.2.2.2 hdg hlk
end ENDS
/-! CALLS -/
theorem tbl_in (y : MethodName) (cc : ByteArray) (maxL : Nat) (ret : Option FieldType) (h : Cond.code y cc maxL ret ∈ TB) : GoodIn TB (.code y cc maxL ret :: TB) := by
  intro w hw
  have hm : w ∈ TB := (List.mem_cons.mp hw).elim (fun e => e ▸ h) id
  exact ⟨hm, good_of_word (List.mem_filter.mp hm).2⟩
def plainM (y : MethodName) (n : Nat) : Prop := y.cls ≠ "java/lang/invoke/MethodHandle" ∧ y.cls ≠ "java/lang/invoke/VarHandle" ∧ (parseMethodDescriptor y.desc).map (fun d => d.parameters.length) = some n
def CLB (own : String) (idx : Nat) (y : MethodName) (cc : ByteArray) (maxL : Nat) (ret : Option FieldType) (n : Nat) : Prop :=
  Cond.code y cc maxL ret ∈ TB ∧ Cond.initialized y.cls ∈ TB ∧ Cond.methodLink own idx y ∈ TB ∧ plainM y n ∧ maxL ≤ 40
def CLS (own : String) (idx : Nat) (y : MethodName) (cc : ByteArray) (maxL : Nat) (ret : Option FieldType) (n : Nat) : Prop := CLB own idx y cc maxL ret n ∧ Cond.static y ∈ TB
def CLV (ly : LY) (own : String) (idx : Nat) (y : MethodName) (cc : ByteArray) (maxL : Nat) (ret : Option FieldType) (n i : Nat) : Prop := CLB own idx y cc maxL ret n ∧ Cond.instanceMethod y ∈ TB ∧ Cond.selects y.cls y y ∈ TB ∧ ∃ (ci : Nat) (fs : List (Nat ⊕ Nat)) (T : u_T) (N : Nat), ly.1[i]? = some (ci, fs) ∧ vwCl[ci]? = some (y.cls, T, N)
section CALLS
variable {p : Program} {l : Launch} {e : Env} {s : State} {m : MethodId} {args : Array Value} {below : List Frame} {meth : Method} {c : Code} {H : Heap} {locs : List Loc} {Q : State → Prop}
variable {cc : ByteArray} {nL pc : Nat} {own : String} {D : va_G} {cI cZ : ClassId} {A : Nat → Prop} {ret : Option FieldType} {ly : LY} {ad : Nat → Nat} {S S1 : SS} {ls : Array Slot} {rest st As : List Value} {idx n i k K maxL : Nat} {y : MethodName} {yc : ByteArray} {yret : Option FieldType} {r : Int32}
theorem x_freeA (h : WH D A s.heap ly ad cI cZ S H locs) (hA : ∀ q, s.heap.size ≤ q → A q) : ∀ q, va_A (wW ly ad cI cZ S) H.size q → A q := by
  intro q hq
  rcases hq with ⟨k, e, hk⟩ | hq
  · exact h.2.1.2 k _ hk
  · exact hA q (Nat.le_trans h.2.2.1 hq)
theorem x_cb {R : Room} (hts : ∀ w ∈ TB, w.before args s = true) (cl : CLB own idx y yc maxL yret n) (hR : k + 1 ≤ R.frames ∧ 8 + (maxL + 11) + (rmK k).locals ≤ R.locals) : CallB R s args own idx y yc maxL yret (.code y yc maxL yret :: TB) (rmK k) 0 0 n := by
  obtain ⟨h1, h2, h3, h4, h5⟩ := cl
  exact callB_of n hts (tbl_in y yc maxL yret h1) rfl rfl rfl (hts _ h2) (hts _ h3) h4 hR
theorem x_room (hk : k + 1 ≤ K) (hm : maxL ≤ 40) : k + 1 ≤ (rmK K).frames ∧ 8 + (maxL + 11) + (rmK k).locals ≤ (rmK K).locals := ⟨hk, by show 8 + (maxL + 11) + 60 * k ≤ 60 * K; omega⟩
theorem x_recv (h : WH D A s.heap ly ad cI cZ S H locs) (hK : va_K D vwCl (tyL cI cZ) s) {Cn : String} {ci : Nat} {fs : List (Nat ⊕ Nat)} {T : u_T} {N : Nat} (h1 : ly.1[i]? = some (ci, fs)) (h2 : vwCl[ci]? = some (Cn, T, N)) : ∃ cell : Cell, H[ad i]? = some cell ∧ cell.vm.isStatics = false ∧ s.vm.findClass Cn = some cell.cls :=
  va_recv (q0 := i) hK h.1 h2 (wW_obj h1)
theorem x_back {A1 : Nat → Prop} {t : State} {H1 : Heap} {locs1 : List Loc} (hB : Bf D ly ad cI cZ A1 S1 t) (ht : t.heap = H1) (hf : ∀ q, A1 q → A q) (hS : va_S A s.heap H1 locs1) : WH D A s.heap ly ad cI cZ S1 H1 locs1 := by
  subst ht
  exact ⟨hB.1, ⟨hB.2.2.1, fun k q hk => hf _ (hB.2.2.2 k q hk)⟩, hS⟩
theorem x_callVI (C : MC p s m args meth c cc nL own D cI cZ A ret) (h : WH D A s.heap ly ad cI cZ S H locs) (hm : MI l D ly ad cI cZ y yc maxL yret k (.ref (ad i) :: As) S r S1) (cl : CLV ly own idx y yc maxL yret n i) (hn : As.length = n) (hk : k + 1 ≤ K) (hls : ls.size = nL) (hst : st = As.reverse ++ .ref (ad i) :: rest) (hro : (rest.map fun v => v.category).sum ≤ 8) (hdg : decode cc pc = .ok (.invokevirtual idx, 3))
    (kk : ∀ (H1 : Heap) (locs1 : List Loc), WH D A s.heap ly ad cI cZ S1 H1 locs1 → W p l e (rmK K) s m args below meth c H1 locs1 0 0 Q (F0 m (pc + 3) ls (.int r :: rest))) : W p l e (rmK K) s m args below meth c H locs 0 0 Q (F0 m pc ls st) := by
  obtain ⟨hx, hb, hml, hown, hts, hK, hlk, hr, hA⟩ := C
  obtain ⟨cb, c1, c2, ci, fs, T, N, c3, c4⟩ := cl
  have hf := x_freeA h hA
  subst hst
  refine va_calli (va_runV (As := As) (rest := rest) (C := y.cls) ⟨hx, hb, hml, hown, hts⟩ (hm H.size) ⟨x_cb hts cb (x_room hk cb.2.2.2.2), hts _ c1, hts _ c2⟩ ⟨blind0, x_recv h hK c3 c4, fun U hU hW => ⟨rfl, by rw [hU], by rw [hU]; exact h.1, va_K.moved hW.alike hK, h.2.1.weaken (fun _ _ _ _ => trivial)⟩⟩ rfl hn hls rfl (lv_room hro) hdg ⟨Nat.zero_le _, Nat.zero_le _⟩) h.2.2 (fun q _ z => hf q z) hf (fun r1 u t H1 locs1 ht hvm hw hB hz1 hk1 hS => ?_)
  obtain ⟨rfl, rfl⟩ := hw
  exact kk H1 locs1 (x_back hB ht hf hS)
theorem x_callVV (C : MC p s m args meth c cc nL own D cI cZ A ret) (h : WH D A s.heap ly ad cI cZ S H locs) (hm : MV l D ly ad cI cZ y yc maxL k (.ref (ad i) :: As) S S1) (cl : CLV ly own idx y yc maxL none n i) (hn : As.length = n) (hk : k + 1 ≤ K) (hls : ls.size = nL) (hst : st = As.reverse ++ .ref (ad i) :: rest) (hro : (rest.map fun v => v.category).sum ≤ 8) (hdg : decode cc pc = .ok (.invokevirtual idx, 3))
    (kk : ∀ (H1 : Heap) (locs1 : List Loc), WH D A s.heap ly ad cI cZ S1 H1 locs1 → W p l e (rmK K) s m args below meth c H1 locs1 0 0 Q (F0 m (pc + 3) ls rest)) : W p l e (rmK K) s m args below meth c H locs 0 0 Q (F0 m pc ls st) := by
  obtain ⟨hx, hb, hml, hown, hts, hK, hlk, hr, hA⟩ := C
  obtain ⟨cb, c1, c2, ci, fs, T, N, c3, c4⟩ := cl
  have hf := x_freeA h hA
  subst hst
  refine va_callv (va_runV (As := As) (rest := rest) (C := y.cls) ⟨hx, hb, hml, hown, hts⟩ (hm H.size) ⟨x_cb hts cb (x_room hk cb.2.2.2.2), hts _ c1, hts _ c2⟩ ⟨blind0, x_recv h hK c3 c4, fun U hU hW => ⟨rfl, by rw [hU], by rw [hU]; exact h.1, va_K.moved hW.alike hK, h.2.1.weaken (fun _ _ _ _ => trivial)⟩⟩ rfl hn hls rfl (lv_room hro) hdg ⟨Nat.zero_le _, Nat.zero_le _⟩) h.2.2 (fun q _ z => hf q z) hf (fun u t H1 locs1 ht hvm hw hB hz1 hk1 hS => ?_)
  obtain rfl := hw
  exact kk H1 locs1 (x_back hB ht hf hS)
theorem x_callSI (C : MC p s m args meth c cc nL own D cI cZ A ret) (h : WH D A s.heap ly ad cI cZ S H locs) (hm : MI l D ly ad cI cZ y yc maxL yret k As S r S1) (cl : CLS own idx y yc maxL yret n) (hn : As.length = n) (hk : k + 1 ≤ K) (hls : ls.size = nL) (hst : st = As.reverse ++ rest) (hro : (rest.map fun v => v.category).sum ≤ 8) (hdg : decode cc pc = .ok (.invokestatic idx, 3))
    (kk : ∀ (H1 : Heap) (locs1 : List Loc), WH D A s.heap ly ad cI cZ S1 H1 locs1 → W p l e (rmK K) s m args below meth c H1 locs1 0 0 Q (F0 m (pc + 3) ls (.int r :: rest))) : W p l e (rmK K) s m args below meth c H locs 0 0 Q (F0 m pc ls st) := by
  obtain ⟨hx, hb, hml, hown, hts, hK, hlk, hr, hA⟩ := C
  obtain ⟨cb, c1⟩ := cl
  have hf := x_freeA h hA
  subst hst
  refine va_calli (va_runS (As := As) (rest := rest) ⟨hx, hb, hml, hown, hts⟩ (hm H.size) ⟨x_cb hts cb (x_room hk cb.2.2.2.2), hts _ c1⟩ ⟨blind0, fun U hU hW => ⟨rfl, by rw [hU], by rw [hU]; exact h.1, va_K.moved hW.alike hK, h.2.1.weaken (fun _ _ _ _ => trivial)⟩⟩ rfl hn hls rfl (lv_room hro) hdg ⟨Nat.zero_le _, Nat.zero_le _⟩) h.2.2 (fun q _ z => hf q z) hf (fun r1 u t H1 locs1 ht hvm hw hB hz1 hk1 hS => ?_)
  obtain ⟨rfl, rfl⟩ := hw
  exact kk H1 locs1 (x_back hB ht hf hS)
theorem x_callSV (C : MC p s m args meth c cc nL own D cI cZ A ret) (h : WH D A s.heap ly ad cI cZ S H locs) (hm : MV l D ly ad cI cZ y yc maxL k As S S1) (cl : CLS own idx y yc maxL none n) (hn : As.length = n) (hk : k + 1 ≤ K) (hls : ls.size = nL) (hst : st = As.reverse ++ rest) (hro : (rest.map fun v => v.category).sum ≤ 8) (hdg : decode cc pc = .ok (.invokestatic idx, 3))
    (kk : ∀ (H1 : Heap) (locs1 : List Loc), WH D A s.heap ly ad cI cZ S1 H1 locs1 → W p l e (rmK K) s m args below meth c H1 locs1 0 0 Q (F0 m (pc + 3) ls rest)) : W p l e (rmK K) s m args below meth c H locs 0 0 Q (F0 m pc ls st) := by
  obtain ⟨hx, hb, hml, hown, hts, hK, hlk, hr, hA⟩ := C
  obtain ⟨cb, c1⟩ := cl
  have hf := x_freeA h hA
  subst hst
  refine va_callv (va_runS (As := As) (rest := rest) ⟨hx, hb, hml, hown, hts⟩ (hm H.size) ⟨x_cb hts cb (x_room hk cb.2.2.2.2), hts _ c1⟩ ⟨blind0, fun U hU hW => ⟨rfl, by rw [hU], by rw [hU]; exact h.1, va_K.moved hW.alike hK, h.2.1.weaken (fun _ _ _ _ => trivial)⟩⟩ rfl hn hls rfl (lv_room hro) hdg ⟨Nat.zero_le _, Nat.zero_le _⟩) h.2.2 (fun q _ z => hf q z) hf (fun u t H1 locs1 ht hvm hw hB hz1 hk1 hS => ?_)
  obtain rfl := hw
  exact kk H1 locs1 (x_back hB ht hf hS)
end CALLS
