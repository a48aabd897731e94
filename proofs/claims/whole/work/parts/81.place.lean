/-! BEST, 2: the class's search -/
theorem fa_or (a b : Nat) : nI a ||| nI b = nI (a ||| b) := by
  apply Int32.toBitVec_inj.1
  show BitVec.ofNat 32 a ||| BitVec.ofNat 32 b = BitVec.ofNat 32 (a ||| b)
  apply BitVec.eq_of_getLsbD_eq
  intro i hi
  simp [hi]
def gl (l : List Nat) (j : Nat) : Nat := l[j]?.getD 0
theorem gl_at (A : List Nat) (p : Nat) (B : List Nat) : gl (A ++ p :: B) A.length = p := by
  unfold gl
  simp
theorem gl_pre {A B : List Nat} {j : Nat} (h : j < A.length) : gl (A ++ B) j = gl A j := by
  unfold gl
  rw [List.getElem?_append_left h]
theorem gl_mem {A : List Nat} {j : Nat} (h : j < A.length) : gl A j ∈ A := by
  unfold gl
  rw [List.getElem?_eq_getElem h]
  exact List.getElem_mem h
theorem ldc_1 (p x : Nat) : ldc [p] x = if p.testBit x then 1 else 0 := by
  rw [ldc, ldc]
  omega
theorem ldc_le : ∀ (l : List Nat) (x : Nat), ldc l x ≤ l.length
  | [], _ => Nat.le_refl _
  | p :: r, x => by
    have := ldc_le r x
    rw [ldc, List.length_cons]
    split <;> omega
def mInv (A : List Nat) (o t h : Nat) : Prop := ∀ x, o.testBit x = decide (1 ≤ ldc A x) ∧ t.testBit x = decide (2 ≤ ldc A x) ∧ h.testBit x = decide (3 ≤ ldc A x)
theorem mInv_s {A : List Nat} {o t h p : Nat} (H : mInv A o t h) : mInv (A ++ [p]) (o ||| p) (t ||| (o &&& p)) (h ||| (t &&& p)) := by
  intro x
  obtain ⟨h1, h2, h3⟩ := H x
  rw [Nat.testBit_or, Nat.testBit_or, Nat.testBit_or, Nat.testBit_and, Nat.testBit_and, h1, h2, h3, ldc_app, ldc_1]
  cases p.testBit x
  · simp
  · refine ⟨?_, ?_, ?_⟩
    · simp
    · rw [Bool.eq_iff_iff]; simp; omega
    · rw [Bool.eq_iff_iff]; simp; omega
theorem fa_loop {N : Nat} {S : SS} {pre : List Nat} {L : Int32} (h4 : pre.length ≤ 4) (hp : ∀ j, j < pre.length → S.2 36 j = nI (gl pre j)) : ∀ (B A : List Nat) (o t h n : Nat), pre = A ++ B → mInv A o t h → B.length < n → ∃ o' t' h', mInv pre o' t' h' ∧ fX1_fullAhead_b11 N n S (nI pre.length) L (nI o) (nI t) (nI h) (nI A.length) = fX1_fullAhead_b62 N S L (nI o') (nI t') (nI h') := by
  intro B
  induction B with
  | nil =>
    intro A o t h n e H hn
    obtain ⟨n, rfl⟩ : ∃ m, n = m + 1 := ⟨n - 1, by omega⟩
    rw [List.append_nil] at e
    subst e
    rw [fX1_fullAhead_b11, if_pos (nI_le (Nat.le_refl _) (by omega))]
    exact ⟨o, t, h, H, rfl⟩
  | cons p B ih =>
    intro A o t h n e H hn
    obtain ⟨n, rfl⟩ : ∃ m, n = m + 1 := ⟨n - 1, by omega⟩
    have hl : A.length < pre.length := by rw [e]; simp
    rw [fX1_fullAhead_b11, if_neg (n_nle hl (by omega)), gA_n (by omega) (by decide), bb_s, bb_s, bb_s, hp _ hl]
    have hg : gl pre A.length = p := by rw [e]; exact gl_at A p B
    rw [hg, fa_or, fa_and, fa_or, fa_and, fa_or, n1]
    have := ih (A ++ [p]) (o ||| p) (t ||| (o &&& p)) (h ||| (t &&& p)) n (by rw [e]; simp) (mInv_s H) (by rw [List.length_cons] at hn; omega)
    rw [List.length_append] at this
    exact this
theorem and0_iff {p f : Nat} (hp : p < 2 ^ 20) : (nI p &&& nI f = 0) ↔ ∀ x, x < 20 → p.testBit x = true → f.testBit x = false := by
  rw [fa_and, show (0 : Int32) = nI 0 from rfl, nI_eq (by have := Nat.and_le_left (n := p) (m := f); omega) (by decide)]
  constructor
  · intro h x hx hb
    have := congrArg (fun z => z.testBit x) h
    simp only [Nat.testBit_and, Nat.zero_testBit, hb, Bool.true_and] at this
    exact this
  · intro h
    apply Nat.eq_of_testBit_eq
    intro x
    rw [Nat.testBit_and, Nat.zero_testBit]
    by_cases c : p.testBit x = true
    · by_cases c2 : x < 20
      · rw [h x c2 c, Bool.and_false]
      · rw [Nat.testBit_lt_two_pow (Nat.lt_of_lt_of_le hp (Nat.pow_le_pow_right (by decide) (by omega)))] at c
        exact absurd c (by decide)
    · rw [Bool.not_eq_true] at c
      rw [c, Bool.false_and]
theorem full_ok {S : SS} {pre : List Nat} {L : Nat} (h4 : pre.length ≤ 3) (hL : 1 ≤ L) (hL4 : L ≤ 4) (hp : ∀ j, j < pre.length → S.2 36 j = nI (gl pre j)) : ∃ f, fX1_fullAhead NN S (nI pre.length) (nI L) = some (nI f, S) ∧ ∀ p, p < 2 ^ 20 → ((nI p &&& nI f = 0) ↔ feas L pre p = true) := by
  obtain ⟨o, t, h, H, e⟩ := fa_loop (N := NN) (S := S) (L := nI L) (by omega) hp pre [] 0 0 0 NN rfl (fun x => by simp [ldc]) (by unfold NN; omega)
  have e2 : fX1_fullAhead NN S (nI pre.length) (nI L) = fX1_fullAhead_b62 NN S (nI L) (nI o) (nI t) (nI h) := e
  rw [e2]
  have hc : L = 1 ∨ L = 2 ∨ L = 3 ∨ L = 4 := by omega
  rcases hc with rfl | rfl | rfl | rfl
  · refine ⟨o, rfl, fun p hp => ?_⟩
    rw [and0_iff hp, feas_iff]
    constructor
    · intro z x hx hb
      have := z x hx hb
      rw [(H x).1] at this
      simp at this
      omega
    · intro z x hx hb
      have := z x hx hb
      rw [(H x).1]
      simp
      omega
  · refine ⟨t, rfl, fun p hp => ?_⟩
    rw [and0_iff hp, feas_iff]
    constructor
    · intro z x hx hb
      have := z x hx hb
      rw [(H x).2.1] at this
      simp at this
      omega
    · intro z x hx hb
      have := z x hx hb
      rw [(H x).2.1]
      simp
      omega
  · refine ⟨h, rfl, fun p hp => ?_⟩
    rw [and0_iff hp, feas_iff]
    constructor
    · intro z x hx hb
      have := z x hx hb
      rw [(H x).2.2] at this
      simp at this
      omega
    · intro z x hx hb
      have := z x hx hb
      rw [(H x).2.2]
      simp
      omega
  · refine ⟨0, rfl, fun p hp => ?_⟩
    rw [and0_iff hp, feas_iff]
    constructor
    · intro z x hx hb
      have := ldc_le pre x
      omega
    · intro z x hx hb
      exact Nat.zero_testBit x
/-- what the class's search reads -/
def okO (S : SS) (w : Nat) (O : Nat → List Nat) : Prop := (S.1 6 = nI w ∧ w ≤ 4) ∧ (∀ i, i < w → S.2 35 i = nI (O i).length ∧ (O i).length ≤ 20) ∧ (∀ i j, i < w → j < (O i).length → S.2 34 (i * 20 + j) = nI (gl (O i) j)) ∧ ∀ i p, i < w → p ∈ O i → p < 2 ^ 20
def sm36 (S T : SS) : Prop := T.1 = S.1 ∧ ∀ q, q ≠ 36 → T.2 q = S.2 q
theorem sm36_r (S : SS) : sm36 S S := ⟨rfl, fun _ _ => rfl⟩
theorem sm36_t {S T U : SS} (h : sm36 S T) (k : sm36 T U) : sm36 S U := ⟨k.1.trans h.1, fun q hq => (k.2 q hq).trans (h.2 q hq)⟩
theorem sm36_s (S : SS) (k : Nat) (v : Int32) : sm36 S (setA S 36 k v) := ⟨rfl, fun _ hq => setA_o hq⟩
theorem okO_s {S T : SS} {w : Nat} {O : Nat → List Nat} (h : okO S w O) (k : sm36 S T) : okO T w O := by
  unfold okO at *
  rw [k.1, k.2 35 (by decide), k.2 34 (by decide)]
  exact h
theorem able_ok {S : SS} {w : Nat} {O : Nat → List Nat} (h : okO S w O) : ∀ d i a n, i + d = w → d < n → fX1_ableFrom_b4 NN n S (nI a) (nI i) = some (nI (a + able O d i), S) := by
  obtain ⟨⟨h6, h6b⟩, h35, h34, hb⟩ := h
  intro d
  induction d with
  | zero =>
    intro i a n hi hn
    obtain ⟨n, rfl⟩ : ∃ m, n = m + 1 := ⟨n - 1, by omega⟩
    rw [fX1_ableFrom_b4, h6, if_pos (nI_le (by omega) (by omega))]
    rfl
  | succ d ih =>
    intro i a n hi hn
    obtain ⟨n, rfl⟩ : ∃ m, n = m + 1 := ⟨n - 1, by omega⟩
    obtain ⟨k1, k2⟩ := h35 i (by omega)
    rw [fX1_ableFrom_b4, h6, if_neg (n_nle (by omega) (by omega)), gA_n (by omega) (by decide), bb_s, k1, n1, n1, able]
    by_cases c : O i = []
    · rw [if_pos c, if_pos (by rw [c]; decide), ih (i + 1) a n (by omega) (by omega), Nat.zero_add]
    · have : 0 < (O i).length := List.length_pos_iff.mpr c
      rw [if_neg c, if_neg (nI_nle this (by omega)), ih (i + 1) (a + 1) n (by omega) (by omega), Nat.add_assoc]
def fnd1 (now : Nat) (need : Int32) (e : List Nat × Nat) : Bool := decide ((now : Int) + need.toInt ≤ (e.2 : Int))
theorem fnd1_s {now : Nat} {need : Int32} (h : -10 ≤ need.toInt) (h2 : need.toInt ≤ 10) : fnd1 (now + 1) (need - 1) = fnd1 now need := by
  funext e
  unfold fnd1
  have h1 : (1 : Int32).toInt = 1 := by decide
  rw [i_sub (by omega) (by omega), h1]
  apply decide_eq_decide.mpr
  omega
def plR (S : SS) (w i : Nat) (E : List (List Nat × Nat)) (now : Nat) (need : Int32) (r : Option (Int32 × SS)) : Prop := (∃ e T, E.find? (fnd1 now need) = some e ∧ r = some (1, T) ∧ sm36 S T ∧ ∀ j, j < w → T.2 36 j = nI (gl e.1 j)) ∨ (∃ T, E.find? (fnd1 now need) = none ∧ r = some (0, T) ∧ sm36 S T ∧ ∀ j, j < i → T.2 36 j = S.2 36 j)
theorem place_ok {w L : Nat} {O : Nat → List Nat} (hL : 1 ≤ L) (hL4 : L ≤ 4) : ∀ d i pre now need n S, okO S w O → i + d = w → d < n → pre.length = i → (∀ j, j < i → S.2 36 j = nI (gl pre j)) → -10 + (d : Int) ≤ need.toInt → need.toInt ≤ 10 → plR S w i (en O (feas L) d i pre now) now need (fX1_place NN n S (nI i) need (nI L)) := by
  intro d
  induction d with
  | zero =>
    intro i pre now need n S hO hi hn hl hp hd1 hd2
    obtain ⟨n, rfl⟩ : ∃ m, n = m + 1 := ⟨n - 1, by omega⟩
    have ha := able_ok hO 0 i 0 NN hi (by unfold NN; omega)
    obtain ⟨⟨h6, h6b⟩, h35, h34, hb⟩ := hO
    rw [fX1_place]
    unfold fX1_ableFrom
    rw [show (0 : Int32) = nI 0 from rfl, ha, b2_s, able, h6, if_neg (nI_nlt (by omega) (by omega)), en]
    have z : (nI (0 + 0)).toInt = 0 := by decide
    by_cases c : need.toInt ≤ 0
    · rw [if_pos (by rw [i_le, z]; exact c)]
      refine Or.inl ⟨(pre, now), S, ?_, rfl, sm36_r S, fun j hj => hp j (by omega)⟩
      rw [List.find?_cons_of_pos]
      unfold fnd1
      simp
      omega
    · rw [if_neg (by rw [i_le, z]; exact c)]
      refine Or.inr ⟨S, ?_, rfl, sm36_r S, fun j hj => rfl⟩
      rw [List.find?_cons_of_neg, List.find?_nil]
      unfold fnd1
      simp
      omega
  | succ d ih =>
    intro i pre now need n S hO hi hn hl hp hd1 hd2
    obtain ⟨n, rfl⟩ : ∃ m, n = m + 1 := ⟨n - 1, by omega⟩
    have ha := able_ok hO (d + 1) i 0 NN hi (by have := hO.1.2; unfold NN; omega)
    have hal := able_le O (d + 1) i
    have hw := hO.1.2
    rw [fX1_place]
    unfold fX1_ableFrom
    rw [show (0 : Int32) = nI 0 from rfl, ha, b2_s, Nat.zero_add, hO.1.1, if_pos (nI_lt (show i < w by omega) (by omega))]
    by_cases c : need.toInt ≤ (able O (d + 1) i : Int)
    · rw [if_pos (by rw [i_le, nI_toInt (by omega)]; exact c)]
      obtain ⟨f, f1, f2⟩ := full_ok (S := S) (pre := pre) (by omega) hL hL4 (fun j hj => hp j (by omega))
      rw [hl] at f1
      rw [f1, b2_s]
      -- the loop over the options
      have key : ∀ (B A : List Nat) (m : Nat) (T : SS), O i = A ++ B → B.length < m → sm36 S T → (∀ j, j < i → T.2 36 j = S.2 36 j) → plR S w i ((B.filter (feas L pre)).flatMap (fun p => en O (feas L) d (i + 1) (pre ++ [p]) (now + 1)) ++ en O (feas L) d (i + 1) (pre ++ [0]) now) now need (fX1_place_b32 NN (fun S x1 x2 x3 => fX1_place NN n S x1 x2 x3) m T (nI i) need (nI L) (nI f) (nI A.length)) := by
        intro B
        induction B with
        | nil =>
          intro A m T hA hm hT hTj
          obtain ⟨m, rfl⟩ : ∃ k, m = k + 1 := ⟨m - 1, by omega⟩
          rw [List.append_nil] at hA
          have hOT := okO_s hO hT
          rw [fX1_place_b32, gA_n (by omega) (by decide), bb_s, (hOT.2.1 i (by omega)).1, hA, if_pos (nI_le (Nat.le_refl _) (by have := (hOT.2.1 i (by omega)).2; rw [hA] at this; omega))]
          unfold fX1_place_b95
          rw [pA_n (by omega) (by decide), bb_s, n1]
          have hz := ih (i + 1) (pre ++ [0]) now need n (setA T 36 i 0) (okO_s hOT (sm36_s T i 0)) (by omega) (by omega) (by simp; omega) (fun j hj => by
            rw [setA_s]
            by_cases cj : j = i
            · subst cj
              rw [pk_us]
              have := gl_at pre 0 []
              rw [hl] at this
              rw [this]
              rfl
            · rw [pk_un cj, hTj j (by omega), hp j (by omega), gl_pre (by omega)]) (by omega) hd2
          have hS1 : sm36 S (setA T 36 i 0) := sm36_t hT (sm36_s T i 0)
          show plR S w i ([] ++ en O (feas L) d (i + 1) (pre ++ [0]) now) now need _
          rw [List.nil_append]
          show plR S w i _ now need (b2 (fX1_place NN n (setA T 36 i 0) (nI (i + 1)) need (nI L)) fun r1 S2 => rZ r1 S2)
          rcases hz with ⟨e, U, z1, z2, z3, z4⟩ | ⟨U, z1, z2, z3, z4⟩
          · rw [z2, b2_s]
            exact Or.inl ⟨e, U, z1, rfl, sm36_t hS1 z3, z4⟩
          · rw [z2, b2_s]
            refine Or.inr ⟨U, z1, rfl, sm36_t hS1 z3, fun j hj => ?_⟩
            rw [z4 j (by omega), setA_s, pk_un (by omega), hTj j hj]
        | cons p B ihB =>
          intro A m T hA hm hT hTj
          obtain ⟨m, rfl⟩ : ∃ k, m = k + 1 := ⟨m - 1, by omega⟩
          have hOT := okO_s hO hT
          have hlen : A.length < (O i).length := by rw [hA]; simp
          have h20 := (hOT.2.1 i (by omega)).2
          have hg : gl (O i) A.length = p := by rw [hA]; exact gl_at A p B
          have hpm : p < 2 ^ 20 := hO.2.2.2 i p (by omega) (by rw [hA]; simp)
          rw [fX1_place_b32, gA_n (by omega) (by decide), bb_s, (hOT.2.1 i (by omega)).1, if_neg (n_nle hlen (by omega)), show nI i * 20 + nI A.length = nI (i * 20 + A.length) by rw [show (20 : Int32) = nI 20 from rfl, pk_mul, nI_add], gA_n (by omega) (by decide), bb_s, hOT.2.2.1 i A.length (by omega) hlen, hg, n1 i, n1 A.length]
          have hnext : ∀ U : SS, sm36 S U → (∀ j, j < i → U.2 36 j = S.2 36 j) → plR S w i ((B.filter (feas L pre)).flatMap (fun p => en O (feas L) d (i + 1) (pre ++ [p]) (now + 1)) ++ en O (feas L) d (i + 1) (pre ++ [0]) now) now need (fX1_place_b32 NN (fun S x1 x2 x3 => fX1_place NN n S x1 x2 x3) m U (nI i) need (nI L) (nI f) (nI (A.length + 1))) := by
            intro U hU hUj
            have := ihB (A ++ [p]) m U (by rw [hA]; simp) (by rw [List.length_cons] at hm; omega) hU hUj
            rw [List.length_append] at this
            exact this
          by_cases cf : feas L pre p = true
          · rw [if_pos ((f2 p hpm).mpr cf), List.filter_cons_of_pos cf, List.flatMap_cons, List.append_assoc, pA_n (by omega) (by decide), bb_s]
            have h1 : (1 : Int32).toInt = 1 := by decide
            have hs1 : (need - 1).toInt = need.toInt - 1 := by rw [i_sub (by omega) (by omega), h1]
            have hz := ih (i + 1) (pre ++ [p]) (now + 1) (need - 1) n (setA T 36 i (nI p)) (okO_s hOT (sm36_s T i (nI p))) (by omega) (by omega) (by simp; omega) (fun j hj => by
              rw [setA_s]
              by_cases cj : j = i
              · subst cj
                rw [pk_us]
                have := gl_at pre p []
                rw [hl] at this
                rw [this]
              · rw [pk_un cj, hTj j (by omega), hp j (by omega), gl_pre (by omega)]) (by omega) (by omega)
            have hS1 : sm36 S (setA T 36 i (nI p)) := sm36_t hT (sm36_s T i (nI p))
            unfold plR at hz
            rw [fnd1_s (by omega) hd2] at hz
            rcases hz with ⟨e, U, z1, z2, z3, z4⟩ | ⟨U, z1, z2, z3, z4⟩
            · rw [z2, b2_s, if_neg (by decide)]
              refine Or.inl ⟨e, U, ?_, rfl, sm36_t hS1 z3, z4⟩
              rw [List.find?_append, z1]
              rfl
            · rw [z2, b2_s, if_pos (by rfl)]
              have hn := hnext U (sm36_t hS1 z3) (fun j hj => by rw [z4 j (by omega), setA_s, pk_un (by omega), hTj j hj])
              unfold plR at hn ⊢
              rw [List.find?_append, z1]
              exact hn
          · rw [if_neg (fun z => cf ((f2 p hpm).mp z)), List.filter_cons_of_neg cf]
            exact hnext T hT hTj
      have := key (O i) [] NN S rfl (by have := (hO.2.1 i (by omega)).2; unfold NN; omega) (sm36_r S) (fun _ _ => rfl)
      rw [en]
      exact this
    · rw [if_neg (by rw [i_le, nI_toInt (by omega)]; exact c)]
      refine Or.inr ⟨S, ?_, rfl, sm36_r S, fun j hj => rfl⟩
      rw [List.find?_eq_none]
      intro e he
      have := en_able (d + 1) i pre now e he
      unfold fnd1
      simp
      omega
