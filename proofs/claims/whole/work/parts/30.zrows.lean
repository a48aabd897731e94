/-! CONSTRUCTORS: the world is a list that grows -/
def NA (U : State) : Prop := va_Nw (.methodLinkNest RX7 11 yX0_init RX7) U ∧ va_Nw (.methodLinkNest RX0 11 yX4_init RX7) U ∧ va_Nw (.methodLinkNest RX0 20 yX5_init RX7) U ∧ va_Nw (.methodLinkNest RX2 11 yX6_init RX7) U ∧ va_Nw (.methodLinkNest RX7 18 yX1_init RX7) U ∧ va_Nw (.methodLinkNest RX7 25 yX3_init RX7) U
theorem NA_warm {s U : State} (hW : s.WarmedH U.vm) (h : NA s) : NA U := ⟨va_Nw.warmM hW h.1, va_Nw.warmM hW h.2.1, va_Nw.warmM hW h.2.2.1, va_Nw.warmM hW h.2.2.2.1, va_Nw.warmM hW h.2.2.2.2.1, va_Nw.warmM hW h.2.2.2.2.2⟩
theorem NA_same {u U : State} (e : u.vm = U.vm) (h : NA u) : NA U := ⟨va_Nw.same rfl e h.1, va_Nw.same rfl e h.2.1, va_Nw.same rfl e h.2.2.1, va_Nw.same rfl e h.2.2.2.1, va_Nw.same rfl e h.2.2.2.2.1, va_Nw.same rfl e h.2.2.2.2.2⟩
def WL (D : va_G) (A : Nat → Prop) (H0 : Heap) (ws : va_W) (H : Heap) (locs : List Loc) : Prop := va_P D vwCl ws H ∧ va_D A ws ∧ va_S A H0 H locs
def rmC (k mc ms : Nat) : Room := { frames := k, cells := mc, slots := ms, locals := 60 * k }
def PreT (D : va_G) (cI cZ : ClassId) (ws : va_W) (sz : Nat) (U : State) : Prop := U.heap.size = sz ∧ va_P D vwCl ws U.heap ∧ va_K D vwCl (tyL cI cZ) U ∧ va_D (fun _ => True) ws ∧ NA U
def BT (D : va_G) (cI cZ : ClassId) (A : Nat → Prop) (u : va_W) (t : State) : Prop := va_P D vwCl u t.heap ∧ va_K D vwCl (tyL cI cZ) t ∧ va_D A u
def MT (l : Launch) (D : va_G) (cI cZ : ClassId) (y : MethodName) (cc : ByteArray) (maxL k mc ms ci : Nat) (fs : List Value) (post : Nat → va_W → Prop) : Prop :=
  ∀ h sz, Met l y (.code y cc maxL none :: TB) (rmC k mc ms) (va_Pc [.ref h] (PreT D cI cZ [(h, .inr (ci, fs))] sz)) (va_Qv (post h) (BT D cI cZ (va_A [(h, .inr (ci, fs))] sz)) (va_A [(h, .inr (ci, fs))] sz)) mc ms (va_A [(h, .inr (ci, fs))] sz)
theorem blindT {D : va_G} {cI cZ : ClassId} {ws : va_W} {sz : Nat} {av : List Value} : FrameBlind (va_Pc av (PreT D cI cZ ws sz)) := fun a U g mk q => by
  obtain ⟨q0, q1, qP, qK, qD, qN⟩ := q
  exact ⟨q0, q1, qP, va_K.moved (u := U) (U := U.calling g mk a) (Vm.Alike.refl U.vm) qK, qD, NA_same rfl qN⟩
theorem z_start {l : Launch} {D : va_G} {cI cZ : ClassId} {y : MethodName} {cc : ByteArray} {maxL k mc ms ci : Nat} {fs : List Value} {post : Nat → va_W → Prop} (own : String) (hy : plainName y.cls = true) (hown : y.cls = own) (hnm : y.name = "<init>") (hle : 1 ≤ maxL)
    (body : ∀ (h : Nat) (p : Program) (e : Env) (s : State) (m : MethodId) (args : Array Value) (below : List Frame) (meth : Method) (c : Code) (A : Nat → Prop), MC p s m args meth c cc maxL own D cI cZ A none → NA s → meth.name = "<init>" → WL D A s.heap [(h, .inr (ci, fs))] s.heap [] → ∀ ls : Array Slot, lv_has ls maxL [(0, .ref h)] → W p l e (rmC k mc ms) s m args below meth c s.heap [] 0 0 (MQ below (va_Qv (post h) (BT D cI cZ A) A) args s mc ms A) (F0 m 0 ls [])) : MT l D cI cZ y cc maxL k mc ms ci fs post := by
  intro h sz
  subst hown
  refine Met.ofW (cc := cc) (maxL := maxL) (ret := none) hy rfl ?_
  intro p e s m args below meth c s₁ B hml hv
  obtain ⟨rfl, hsz, hP, hK, hD0, hN⟩ := hv
  subst hsz
  have hts := atoms_spec (ws := .code y cc maxL none :: TB) B.pre
  have hown : s.vm.findClass y.cls = some m.cls := findClass_of_methodNamed B.named
  have hin : meth.name = "<init>" := (name_of_methodNamed B.named B.method).1.trans hnm
  have hl := lv_entry ([.ref h] : List Value) (n := maxL) hle
  rw [lg_entry_eq]
  exact body h p e s m _ below meth c _ ⟨B.exec, B.bytes, hml, hown, fun w hw => hts w (List.mem_cons_of_mem _ hw), hK, B.notSynchronized, B.returns, fun q h => Or.inr h⟩ hN hin ⟨hP, hD0.self (sz := s.heap.size), va_S.rf⟩ _ hl
theorem z_sameint {s : State} {cA cB : ClassId} (h1 : va_RA s cA .int) (h2 : va_RA s cB .int) : cA = cB := by
  unfold va_RA at h1 h2
  exact Option.some.inj (h1.symm.trans h2)
theorem z_sameboolean {s : State} {cA cB : ClassId} (h1 : va_RA s cA .boolean) (h2 : va_RA s cB .boolean) : cA = cB := by
  unfold va_RA at h1 h2
  exact Option.some.inj (h1.symm.trans h2)
theorem z_a0int {N : Nat} (cA : ClassId) : vp_cell cA (N, .inl (fun _ => 0)) = arrV cA N (fun _ => defaultValue .int) := by
  rw [vp_cell_i]; rfl
theorem z_a0boolean {N : Nat} (cA : ClassId) : vp_cell cA (N, .inl (fun _ => 0)) = arrV cA N (fun _ => defaultValue .boolean) := by
  rw [vp_cell_i]; rfl
section ZROWS
variable {p : Program} {l : Launch} {e : Env} {R : Room} {s : State} {m : MethodId} {args : Array Value} {below : List Frame} {meth : Method} {c : Code} {H : Heap} {locs : List Loc} {cells slots : Nat} {Q : State → Prop}
variable {cc : ByteArray} {nL pc : Nat} {own : String} {D : va_G} {cI cZ : ClassId} {A : Nat → Prop} {ret : Option FieldType} {ls : Array Slot} {rest : List Value} {ws : va_W}
theorem z_obj {idx a : Nat} (C : MC p s m args meth c cc nL own D cI cZ A ret) (h1 : Cond.methodLink own idx objectInit ∈ TB) (h2 : Cond.instanceMethod objectInit ∈ TB) (h3 : Cond.code objectInit ⟨#[0xb1]⟩ 1 none ∈ TB) (hls : ls.size = nL) (hR : 1 ≤ R.frames) (hR2 : 12 ≤ R.locals) (hdg : decode cc pc = .ok (.invokespecial idx, 3))
    (kk : W p l e R s m args below meth c H locs cells slots Q (F0 m (pc + 3) ls [])) : W p l e R s m args below meth c H locs cells slots Q (F0 m pc ls [.ref a]) := by
  obtain ⟨hx, hb, hml, hown, hts, hK, hlk, hr, hA⟩ := C
  exact W.objInit hx hb hown (hts _ h1) (hts _ h2) (hts _ h3) rfl (by rw [hml]; exact hls) rfl hdg hR (by show 2 * 0 + 0 + 12 ≤ _; omega) kk
theorem z_new {ci idx N : Nat} {Cn : String} {T : u_T} {tyf : Nat → FieldType} {fs : List Value} (C : MC p s m args meth c cc nL own D cI cZ A ret) (h : WL D A s.heap ws H locs) (hin : ∀ w ∈ u_ws Cn T N, w ∈ TB) (hty : ∀ k, k < N → parseFieldDescriptor (T k).2.2.1 = some (tyf k)) (h1 : Cond.classLink own idx Cn ∈ TB) (h2 : Cond.instantiable Cn N ∈ TB) (h3 : Cond.initialized Cn ∈ TB) (hc : vwCl[ci]? = some (Cn, T, N)) (hfs : ∀ j, j < N → defaultValue (tyf j) = vp_V fs j) (hcells : cells + 1 ≤ R.cells) (hslots : slots + N ≤ R.slots) (hdg : decode cc pc = .ok (.new idx, 3))
    (kk : ∀ (q : Nat) (H1 : Heap), WL D A s.heap (ws ++ [(q, .inr (ci, fs))]) H1 locs → W p l e R s m args below meth c H1 locs (cells + 1) (slots + N) Q (F0 m (pc + 3) ls (.ref q :: rest))) : W p l e R s m args below meth c H locs cells slots Q (F0 m pc ls rest) := by
  obtain ⟨hx, hb, hml, hown, hts, hK, hlk, hr, hA⟩ := C
  exact va_new hx hb hts hin tyf hty hown (hts _ h1) (hts _ h2) (hts _ h3) hK h.1 h.2.1 h.2.2 hA hc hfs hcells hslots hdg (fun q H1 a1 a2 a3 => kk q H1 ⟨a1, a2, a3⟩)
theorem z_arrI {n : Int32} {N : Nat} (C : MC p s m args meth c cc nL own D cI cZ A ret) (h : WL D A s.heap ws H locs) (hw : Cond.arrayClass .int ∈ TB) (hn : ¬ n < 0) (hN : n.toNatClampNeg = N) (hb1 : N * componentBytes .int ≤ 536870912) (hcells : cells + 1 ≤ R.cells) (hslots : slots + N ≤ R.slots) (hdg : decode cc pc = .ok (.newarray .int, 2))
    (kk : ∀ (q : Nat) (H1 : Heap), WL D A s.heap (ws ++ [(q, .inl (cI, N, .inl (fun _ => 0)))]) H1 locs → W p l e R s m args below meth c H1 locs (cells + 1) (slots + N) Q (F0 m (pc + 2) ls (.ref q :: rest))) : W p l e R s m args below meth c H locs cells slots Q (F0 m pc ls (.int n :: rest)) := by
  obtain ⟨hx, hb, hml, hown, hts, hK, hlk, hr, hA⟩ := C
  refine va_newa hx hb (atype := .int) (hts (Cond.arrayClass .int) hw) (ty := .int) rfl hK h.1 h.2.1 h.2.2 hA (N' := N) (a0 := (N, .inl (fun _ => 0))) z_a0int hn hN hb1 hcells hslots hdg (fun q cA H1 k1 a1 a2 a3 => ?_)
  have e : cA = cI := z_sameint (k1.2 2 (cA, .int) rfl).2 (hK.2 0 (cI, .int) rfl).2
  subst e
  exact kk q H1 ⟨a1, a2, a3⟩
theorem z_arrZ {n : Int32} {N : Nat} (C : MC p s m args meth c cc nL own D cI cZ A ret) (h : WL D A s.heap ws H locs) (hw : Cond.arrayClass .boolean ∈ TB) (hn : ¬ n < 0) (hN : n.toNatClampNeg = N) (hb1 : N * componentBytes .boolean ≤ 536870912) (hcells : cells + 1 ≤ R.cells) (hslots : slots + N ≤ R.slots) (hdg : decode cc pc = .ok (.newarray .boolean, 2))
    (kk : ∀ (q : Nat) (H1 : Heap), WL D A s.heap (ws ++ [(q, .inl (cZ, N, .inl (fun _ => 0)))]) H1 locs → W p l e R s m args below meth c H1 locs (cells + 1) (slots + N) Q (F0 m (pc + 2) ls (.ref q :: rest))) : W p l e R s m args below meth c H locs cells slots Q (F0 m pc ls (.int n :: rest)) := by
  obtain ⟨hx, hb, hml, hown, hts, hK, hlk, hr, hA⟩ := C
  refine va_newa hx hb (atype := .boolean) (hts (Cond.arrayClass .boolean) hw) (ty := .boolean) rfl hK h.1 h.2.1 h.2.2 hA (N' := N) (a0 := (N, .inl (fun _ => 0))) z_a0boolean hn hN hb1 hcells hslots hdg (fun q cA H1 k1 a1 a2 a3 => ?_)
  have e : cA = cZ := z_sameboolean (k1.2 2 (cA, .boolean) rfl).2 (hK.2 1 (cZ, .boolean) rfl).2
  subst e
  exact kk q H1 ⟨a1, a2, a3⟩
theorem z_put {ci idx k N a : Nat} {Cn : String} {T : u_T} {ty0 : Nat → FieldType} {fs : List Value} {ty : FieldType} {v : Value} {w : va_W} (C : MC p s m args meth c cc nL own D cI cZ A ret) (h : WL D A s.heap ((a, .inr (ci, fs)) :: w) H locs) (hi : meth.name = "<init>") (hc : vwCl[ci]? = some (Cn, T, N)) (hk : k < N) (hin : ∀ w ∈ u_ws Cn T N, w ∈ TB) (hty : ∀ k, k < N → parseFieldDescriptor (T k).2.2.1 = some (ty0 k)) (hnm : ∀ a, a < N → ∀ b, b < N → a ≠ b → (T a).2.1 ≠ (T b).2.1) (hl : Cond.fieldLink own idx (T k).1 (T k).2.1 (T k).2.2.1 ∈ TB) (hfin : (T k).2.2.2 = true) (hdc : (T k).1 = own) (hd : parseFieldDescriptor (T k).2.2.1 = some ty) (hn : narrow ty v = v) (hf : fits ty v = true) (hkl : k < fs.length) (hdg : decode cc pc = .ok (.putfield idx, 3))
    (kk : ∀ (H1 : Heap) (locs1 : List Loc), WL D A s.heap ((a, .inr (ci, fs.set k v)) :: w) H1 locs1 → W p l e R s m args below meth c H1 locs1 cells slots Q (F0 m (pc + 3) ls rest)) : W p l e R s m args below meth c H locs cells slots Q (F0 m pc ls (v :: .ref a :: rest)) := by
  obtain ⟨hx, hb, hml, hown, hts, hK, hlk, hr, hA⟩ := C
  exact va_putF hx hb hts hin ty0 hty hnm hown hK h.1 h.2.1 h.2.2 0 rfl hc k hk (hts _ hl) (fun _ z => z) hfin hi hdc hd hn hf hkl hdg (fun H1 locs1 a1 a2 a3 => kk H1 locs1 ⟨a1, a2, a3⟩)
theorem z_join {x : Nat × va_E} {u : va_W} {H1 : Heap} (hP : va_P D vwCl (ws ++ [x]) H) (hD : va_D A (ws ++ [x])) (hk : ∀ q : Nat, q < H.size → ¬ va_A [x] H.size q → H1[q]? = H[q]?) (hf : ∀ q, va_A [x] H.size q → A q) (hP1 : va_P D vwCl u H1) (hD1 : va_D (va_A [x] H.size) u) : va_P D vwCl (ws ++ u) H1 ∧ va_D A (ws ++ u) := by
  have hx : (ws ++ [x])[ws.length]? = some x := by simp
  have hlt : ∀ (k : Nat) (q : Nat × va_E), ws[k]? = some q → (ws ++ [x])[k]? = some q := fun k q h => by
    rw [List.getElem?_append_left (List.getElem?_eq_some_iff.mp h).1]; exact h
  have hno : ∀ (k : Nat) (q : Nat × va_E), ws[k]? = some q → ¬ va_A [x] H.size q.1 := by
    intro k q h z
    rcases z with ⟨j, e, hj⟩ | z
    · have hj0 : j = 0 := by
        have := (List.getElem?_eq_some_iff.mp hj).1
        simp at this
        exact this
      subst hj0
      have hj' : x = (q.1, e) := Option.some.inj hj
      have := hD.1 k ws.length q x (hlt k q h) hx (by rw [hj'])
      have hl := (List.getElem?_eq_some_iff.mp h).1
      omega
    · have := (hP k q (hlt k q h)).lt
      omega
  constructor
  · intro k q h
    by_cases c : k < ws.length
    · rw [List.getElem?_append_left c] at h
      exact (hP k q (hlt k q h)).kept (hk q.1 ((hP k q (hlt k q h)).lt) (hno k q h))
    · rw [List.getElem?_append_right (Nat.le_of_not_lt c)] at h
      exact hP1 _ q h
  · constructor
    · intro i j a b hi hj e
      by_cases c : i < ws.length
      · rw [List.getElem?_append_left c] at hi
        by_cases d : j < ws.length
        · rw [List.getElem?_append_left d] at hj
          exact hD.1 i j a b (hlt i a hi) (hlt j b hj) e
        · rw [List.getElem?_append_right (Nat.le_of_not_lt d)] at hj
          exact absurd (e ▸ hD1.2 _ b hj) (hno i a hi)
      · rw [List.getElem?_append_right (Nat.le_of_not_lt c)] at hi
        by_cases d : j < ws.length
        · rw [List.getElem?_append_left d] at hj
          exact absurd (e ▸ hD1.2 _ a hi) (hno j b hj)
        · rw [List.getElem?_append_right (Nat.le_of_not_lt d)] at hj
          have := hD1.1 _ _ a b hi hj e
          omega
    · intro k q h
      by_cases c : k < ws.length
      · rw [List.getElem?_append_left c] at h
        exact hD.2 k q (hlt k q h)
      · rw [List.getElem?_append_right (Nat.le_of_not_lt c)] at h
        exact hf _ (hD1.2 _ q h)
theorem z_free {x : Nat × va_E} (h : WL D A s.heap (ws ++ [x]) H locs) (hA : ∀ q, s.heap.size ≤ q → A q) : ∀ q, va_A [x] H.size q → A q := by
  intro q z
  rcases z with ⟨j, e, hj⟩ | z
  · have hj0 : j = 0 := by
      have := (List.getElem?_eq_some_iff.mp hj).1
      simp at this
      exact this
    subst hj0
    have hj' : x = (q, e) := Option.some.inj hj
    have := h.2.1.2 ws.length x (by simp)
    rw [hj'] at this
    exact this
  · exact hA q (Nat.le_trans h.2.2.1 z)
theorem z_subD {x : Nat × va_E} (h : va_D A (ws ++ [x])) : va_D (fun _ => True) [x] := by
  constructor
  · intro i j a b hi hj _
    have h1 := (List.getElem?_eq_some_iff.mp hi).1
    have h2 := (List.getElem?_eq_some_iff.mp hj).1
    simp at h1 h2
    omega
  · intro k q _
    trivial
theorem z_subP {x : Nat × va_E} (h : va_P D vwCl (ws ++ [x]) H) : va_P D vwCl [x] H := by
  intro k q hk
  have h1 := (List.getElem?_eq_some_iff.mp hk).1
  have h0 : k = 0 := by
    simp at h1
    exact h1
  subst h0
  exact h ws.length q (by simpa using hk)
theorem z_ctorN {y : MethodName} {yc : ByteArray} {maxL k mc ms K MCC MSS ci idx q : Nat} {fs : List Value} {post : Nat → va_W → Prop} {host : String} (C : MC p s m args meth c cc nL own D cI cZ A ret) (hNA : NA s) (h : WL D A s.heap (ws ++ [(q, .inr (ci, fs))]) H locs) (hm : MT l D cI cZ y yc maxL k mc ms ci fs post) (h1 : Cond.code y yc maxL none ∈ TB) (h2 : Cond.initialized y.cls ∈ TB) (h3 : va_Nw (.methodLinkNest own idx y host) s) (h4 : plainM y 0) (h5 : y.name = "<init>") (h6 : Cond.instanceMethod y ∈ TB) (hmx : maxL ≤ 40) (hk : k + 1 ≤ K) (hls : ls.size = nL) (hro : (rest.map fun v => v.category).sum ≤ 8) (hf1 : cells + mc ≤ MCC) (hf2 : slots + ms ≤ MSS) (hdg : decode cc pc = .ok (.invokespecial idx, 3))
    (kk : ∀ (u : va_W) (H1 : Heap) (locs1 : List Loc), post q u → WL D A s.heap (ws ++ u) H1 locs1 → W p l e (rmC K MCC MSS) s m args below meth c H1 locs1 (cells + mc) (slots + ms) Q (F0 m (pc + 3) ls rest)) : W p l e (rmC K MCC MSS) s m args below meth c H locs cells slots Q (F0 m pc ls (.ref q :: rest)) := by
  obtain ⟨hx, hb, hml, hown, hts, hK, hlk, hr, hA⟩ := C
  have hf := z_free h hA
  refine va_callv (va_runIN (As := []) (rest := rest) ⟨hx, hb, hml, hown, hts⟩ (hm q H.size) ⟨va_cnB 0 hts (tbl_in y yc maxL none h1) rfl rfl rfl h3 (hts _ h2) h4 ⟨hk, by show 8 + (maxL + 11) + 60 * k ≤ 60 * K; omega⟩, h5, hts _ h6⟩ ⟨blindT, fun U hU hW => ⟨rfl, by rw [hU], by rw [hU]; exact z_subP h.1, va_K.moved hW.alike hK, z_subD h.2.1, NA_warm hW hNA⟩⟩ rfl rfl hls rfl (lv_room hro) hdg ⟨hf1, hf2⟩) h.2.2 (fun q _ z => hf q z) hf (fun u t H1 locs1 ht hvm hw hB hz1 hk1 hS => ?_)
  obtain ⟨b1, b2, b3⟩ := hB
  rw [ht] at b1
  obtain ⟨j1, j2⟩ := z_join h.1 h.2.1 hk1 hf b1 b3
  exact kk u H1 locs1 hw ⟨j1, j2, hS⟩
theorem z_ctor {y : MethodName} {yc : ByteArray} {maxL k mc ms ci idx q : Nat} {fs : List Value} {post : Nat → va_W → Prop} (C : MC p s m args meth c cc nL own D cI cZ A ret) (hNA : NA s) (h : WL D A s.heap (ws ++ [(q, .inr (ci, fs))]) H locs) (hm : MT l D cI cZ y yc maxL k mc ms ci fs post) (h1 : Cond.code y yc maxL none ∈ TB) (h2 : Cond.initialized y.cls ∈ TB) (h3 : Cond.methodLink own idx y ∈ TB) (h4 : plainM y 0) (h5 : y.name = "<init>") (h6 : Cond.instanceMethod y ∈ TB) (hmx : maxL ≤ 40) (hR : k + 1 ≤ R.frames) (hR2 : 60 * k + 60 ≤ R.locals) (hls : ls.size = nL) (hro : (rest.map fun v => v.category).sum ≤ 8) (hf1 : cells + mc ≤ R.cells) (hf2 : slots + ms ≤ R.slots) (hdg : decode cc pc = .ok (.invokespecial idx, 3))
    (kk : ∀ (u : va_W) (H1 : Heap) (locs1 : List Loc), post q u → WL D A s.heap (ws ++ u) H1 locs1 → W p l e R s m args below meth c H1 locs1 (cells + mc) (slots + ms) Q (F0 m (pc + 3) ls rest)) : W p l e R s m args below meth c H locs cells slots Q (F0 m pc ls (.ref q :: rest)) := by
  obtain ⟨hx, hb, hml, hown, hts, hK, hlk, hr, hA⟩ := C
  have hf := z_free h hA
  refine va_callv (va_runI (As := []) (rest := rest) ⟨hx, hb, hml, hown, hts⟩ (hm q H.size) ⟨callB_of 0 hts (tbl_in y yc maxL none h1) rfl rfl rfl (hts _ h2) (hts _ h3) h4 ⟨hR, by show 8 + (maxL + 11) + 60 * k ≤ _; omega⟩, h5, hts _ h6⟩ ⟨blindT, fun U hU hW => ⟨rfl, by rw [hU], by rw [hU]; exact z_subP h.1, va_K.moved hW.alike hK, z_subD h.2.1, NA_warm hW hNA⟩⟩ rfl rfl hls rfl (lv_room hro) hdg ⟨hf1, hf2⟩) h.2.2 (fun q _ z => hf q z) hf (fun u t H1 locs1 ht hvm hw hB hz1 hk1 hS => ?_)
  obtain ⟨b1, b2, b3⟩ := hB
  rw [ht] at b1
  obtain ⟨j1, j2⟩ := z_join h.1 h.2.1 hk1 hf b1 b3
  exact kk u H1 locs1 hw ⟨j1, j2, hS⟩
theorem z_ret {post : va_W → Prop} (C : MC p s m args meth c cc nL own D cI cZ A none) (h : WL D A s.heap ws H locs) (hp : post ws) (hdg : decode cc pc = .ok (.return_, 1)) : W p l e R s m args below meth c H locs cells slots (MQ below (va_Qv post (BT D cI cZ A) A) args s cells slots A) (F0 m pc ls []) := by
  obtain ⟨hx, hb, hml, hown, hts, hK, hlk, hr, hA⟩ := C
  exact W.vret hx hb hr (fun t ht hW => ⟨⟨ws, rfl, hp, by rw [ht]; exact h.1, va_K.moved hW.alike hK, h.2.1⟩, h.2.2.F ht⟩) h.2.2.2.2 hdg hlk
end ZROWS
theorem ob1 : Cond.instanceMethod objectInit ∈ TB := tb1 19 rfl rfl
theorem ob2 : Cond.code objectInit ⟨#[0xb1]⟩ 1 none ∈ TB := tb1 20 rfl rfl
theorem arI : Cond.arrayClass .int ∈ TB := tb1 66 rfl rfl
theorem arZ : Cond.arrayClass .boolean ∈ TB := tb1 171 rfl rfl
