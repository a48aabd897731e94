/-! BEST, 8: what is asked of a candidate, on both sides -/
def gv (o : Option (Int32 × SS)) : Int32 := match o with
  | some (a, _) => a
  | none => 0
theorem gv_s (a : Int32) (S : SS) : gv (some (a, S)) = a := rfl
def hv (X : SS) (u : Nat) (day : Int32) (i : Nat) : Int32 := gv (fX2_heldOn NN X (X.2 33 i) (nI u) day)
def rv (X : SS) (u : Nat) (day : Int32) (i : Nat) : Int32 := rI X (nI u) (hv X u day i + 1) day
def cv (X : SS) (u : Nat) (day : Int32) (i : Nat) : Bool := decide (gv (fX0_whyNot NN X (X.2 33 i) (nI u) (hv X u day i + 1) day) = 0)
def fv (X : SS) (u : Nat) (day : Int32) (i x : Nat) : Bool := decide (gv (fX0_whyNoJudge NN X (X.2 33 i) (nI u) day (nI x) (X.2 20 (rv X u day i).toNatClampNeg)) = 0)
def pv (X : SS) (u : Nat) (day : Int32) (i q : Nat) : Bool := decide (gv (fX0_whyNoPanel NN X (X.2 33 i) (nI u) day (nI q) (X.2 20 (rv X u day i).toNatClampNeg)) = 0)
def ov (X : SS) (u : Nat) (day : Int32) (i : Nat) : List Nat := if cv X u day i = true then lq3 (fv X u day i) (sz X 1) else []
theorem some_1 {a b : Int32} {S T : SS} (h : (some (a, S) : Option (Int32 × SS)) = some (b, T)) : a = b := by
  have := Option.some.inj h
  exact congrArg Prod.fst this
theorem cand {X M : SS} {u i : Nat} {day : Int32} (h : Rel X M) (hs : Sd X M) (hu : u < 3) (hd : 0 ≤ day ∧ day ≤ 30000) (hi : i < sz X 6) : ∃ p v, p < sz X 1 ∧ X.2 33 i = nI p ∧ v ≤ 10 ∧ hv X u day i = nI v ∧ (v = 10 → cv X u day i = false) ∧ (cv X u day i = true → ∃ r, r < 40 ∧ rv X u day i = nI r) ∧ (∀ S, sX X S → fX2_heldOn NN S (nI p) (nI u) day = some (nI v, S) ∧ fX5_inForce NN S (nI u) (nI v + 1) day = some (rv X u day i, S) ∧ ∃ q, fX0_whyNot NN S (nI p) (nI u) (nI v + 1) day = some (q, S) ∧ (q = 0 ↔ cv X u day i = true)) ∧ (∀ T, sM M T → fX8_hasOf NN T (nI p) (nI u) day = some (nI v, T) ∧ fX8_ruleOf NN T (nI u) (nI v + 1) day = some (rv X u day i, T) ∧ ∃ q, fX8_whyOf NN T (nI p) (nI u) (nI v + 1) day = some (q, T) ∧ (q = 0 ↔ cv X u day i = true)) := by
  have h3 := r3 h
  obtain ⟨p, hp, e33⟩ := h.2.2.2.2.2.2.2.2.2.2.1 i hi
  obtain ⟨v, v1, v2, v3⟩ := held h hs (nI p) day hu
  have ehv : hv X u day i = nI v := by
    unfold hv
    rw [e33, v2, gv_s]
  obtain ⟨r, w1, w2, w3⟩ := why_both (g := nI v + 1) h hs hp hu hd
  have erv : rv X u day i = rI X (nI u) (nI v + 1) day := by
    unfold rv
    rw [ehv]
  have ecv : cv X u day i = decide (r = 0) := by
    unfold cv
    rw [ehv, e33, w1, gv_s]
  have hP := rI_P X (nI u) (nI v + 1) day
  refine ⟨p, v, hp, e33, v1, ehv, ?_, ?_, ?_, ?_⟩
  · intro hv10
    rw [ecv]
    apply decide_eq_false
    intro hr
    have h0 := w3 hr
    rcases hP with e | ⟨j, hj, e, ek⟩
    · rw [e] at h0
      exact absurd h0 (by decide)
    · obtain ⟨_, u', g', hu', hg1, hg2, ek2⟩ := h.2.2.2.2.2.2.2.1 j hj
      rw [ek2, hv10, n1, show (100 : Int32) = nI 100 from rfl, pk_mul, nI_add, nI_eq (by omega) (by omega)] at ek
      omega
  · intro hc
    rw [ecv] at hc
    have h0 := w3 (of_decide_eq_true hc)
    rw [erv]
    rcases hP with e | ⟨j, hj, e, ek⟩
    · rw [e] at h0
      exact absurd h0 (by decide)
    · exact ⟨j, by omega, e⟩
  · intro S hS
    have hR := relB h hS (sM_r M)
    have hSd := SdB hs hS (sM_r M)
    obtain ⟨v', _, a2, a3⟩ := held hR hSd (nI p) day hu
    have hvv : nI v' = nI v := some_1 (a3.symm.trans v3)
    obtain ⟨r', b1, b2, b3⟩ := why_both (g := nI v + 1) hR hSd (by rw [sX_sz hS]; exact hp) hu hd
    have hrr : r' = r := some_1 (b2.symm.trans w2)
    refine ⟨by rw [a2, hvv], by rw [inF7 hR, sX_rI hS, erv], r, by rw [b1, hrr], ?_⟩
    rw [ecv]
    exact ⟨fun z => decide_eq_true z, fun z => of_decide_eq_true z⟩
  · intro T hT
    have hR := relB h (sX_r X) hT
    have hSd := SdB hs (sX_r X) hT
    obtain ⟨v', _, a2, a3⟩ := held hR hSd (nI p) day hu
    have hvv : nI v' = nI v := some_1 (a2.symm.trans v2)
    obtain ⟨r', b1, b2, b3⟩ := why_both (g := nI v + 1) hR hSd hp hu hd
    have hrr : r' = r := some_1 (b1.symm.trans w1)
    refine ⟨by rw [a3, hvv], by rw [inF8 hR, erv], r, by rw [b2, hrr], ?_⟩
    rw [ecv]
    exact ⟨fun z => decide_eq_true z, fun z => of_decide_eq_true z⟩
theorem judg {X M : SS} {u i p r : Nat} {day : Int32} (h : Rel X M) (hs : Sd X M) (hu : u < 3) (hp : p < sz X 1) (e33 : X.2 33 i = nI p) (hr : r < 40) (er : rv X u day i = nI r) : ∀ x, x < sz X 1 → (fv X u day i x = true → X.2 10 x = 1) ∧ ∀ S, sX X S → ∃ q, q ≤ 6 ∧ fX0_whyNoJudge NN S (nI p) (nI u) day (nI x) (X.2 20 r) = some (nI q, S) ∧ (q = 0 ↔ fv X u day i x = true) := by
  intro x hx
  obtain ⟨a, a1, a2, a3⟩ := jud_both (day := day) h hs hp hu hx hr
  have efv : fv X u day i x = decide (nI (if X.2 10 x = 1 then a else 2) = 0) := by
    unfold fv
    rw [er, nI_clamp (by omega), e33, a2, gv_s]
  unfold okA at a1
  constructor
  · intro hf
    by_cases c : X.2 10 x = 1
    · exact c
    · rw [efv, if_neg c] at hf
      exact absurd hf (by decide)
  · intro S hS
    obtain ⟨b, b1, b2, b3⟩ := jud_both (x := x) (day := day) (relB h hS (sM_r M)) (SdB hs hS (sM_r M)) (by rw [sX_sz hS]; exact hp) hu (by rw [sX_sz hS]; exact hx) hr
    unfold okA at b1
    have hab : b = a := (nI_eq (by omega) (by omega)).mp (some_1 (b3.symm.trans a3))
    rw [hab, hS.2 10 (by decide) (by decide) (by decide), hS.2 20 (by decide) (by decide) (by decide)] at b2
    have h6 : (if X.2 10 x = 1 then a else 2) ≤ 6 := by split <;> omega
    refine ⟨if X.2 10 x = 1 then a else 2, h6, b2, ?_⟩
    rw [efv, decide_eq_true_iff]
    exact (neq (m := 0) (by omega) (by decide)).symm
theorem nxA_0 {A q : Nat} : nxA A q = 0 ↔ A = 0 ∧ q = 0 := by
  unfold nxA
  split
  · omega
  · split
    · omega
    · split <;> omega
theorem pan_loop {X M : SS} {u i p r m : Nat} {day : Int32} (h : Rel X M) (hs : Sd X M) (hu : u < 3) (hp : p < sz X 1) (e33 : X.2 33 i = nI p) (hr : r < 40) (er : rv X u day i = nI r) (hm : m < 2 ^ 20) : ∀ d k A n, k + d = sz X 1 → d < n → A ≤ 6 → ∃ A', fX0_whyNoPanel_b17 NN n X (nI p) (nI u) day (nI m) (X.2 20 r) (nI A) (nI k) = some (nI A', X) ∧ A' ≤ 6 ∧ (A' = 0 ↔ A = 0 ∧ ∀ x, k ≤ x → x < sz X 1 → m.testBit x = true → fv X u day i x = true) := by
  obtain ⟨h1, h1b, h1m⟩ := r1 h
  intro d
  induction d with
  | zero =>
    intro k A n hk hn hA
    obtain ⟨n, rfl⟩ : ∃ m, n = m + 1 := ⟨n - 1, by omega⟩
    rw [fX0_whyNoPanel_b17, h1, if_pos (nI_le (by omega) (by omega))]
    exact ⟨A, rfl, hA, fun z => ⟨z, fun x h1 h2 => by omega⟩, fun z => z.1⟩
  | succ d ih =>
    intro k A n hk hn hA
    obtain ⟨n, rfl⟩ : ∃ m, n = m + 1 := ⟨n - 1, by omega⟩
    rw [fX0_whyNoPanel_b17, h1, if_neg (n_nle (by omega) (by omega)), bitN (by omega) (by omega), n1]
    have tb := tb_n m k
    by_cases cb : m / 2 ^ k % 2 = 0
    · rw [cb, if_pos (show nI 0 = (0 : Int32) from rfl)]
      rw [decide_eq_false (by omega)] at tb
      obtain ⟨A', a1, a2, a3⟩ := ih (k + 1) A n (by omega) (by omega) hA
      refine ⟨A', a1, a2, a3.trans (and_congr Iff.rfl ⟨fun z x x1 x2 x3 => ?_, fun z x x1 x2 x3 => z x (by omega) x2 x3⟩)⟩
      by_cases c : x = k
      · rw [c, tb] at x3
        exact absurd x3 (by decide)
      · exact z x (by omega) x2 x3
    · have cb1 : m / 2 ^ k % 2 = 1 := by omega
      rw [decide_eq_true cb1] at tb
      rw [cb1, if_neg (show ¬ nI 1 = (0 : Int32) by decide)]
      obtain ⟨q, q1, q2, q3⟩ := (judg h hs hu hp e33 hr er k (by omega)).2 X (sX_r X)
      rw [q2, b2_s]
      have tx := nx_row (fun z => fX0_whyNoPanel_b17 NN n X (nI p) (nI u) day (nI m) (X.2 20 r) z (nI (k + 1))) hA q1
      rw [tx]
      have hA2 : nxA A q ≤ 6 := by
        unfold nxA
        split
        · omega
        · split
          · omega
          · split <;> omega
      obtain ⟨A', a1, a2, a3⟩ := ih (k + 1) (nxA A q) n (by omega) (by omega) hA2
      refine ⟨A', a1, a2, a3.trans ?_⟩
      rw [nxA_0, q3]
      constructor
      · rintro ⟨⟨z1, z2⟩, z3⟩
        refine ⟨z1, fun x x1 x2 x3 => ?_⟩
        by_cases c : x = k
        · rw [c]; exact z2
        · exact z3 x (by omega) x2 x3
      · rintro ⟨z1, z2⟩
        exact ⟨⟨z1, z2 k (by omega) (by omega) tb⟩, fun x x1 x2 x3 => z2 x (by omega) x2 x3⟩
theorem pv_mk {X M : SS} {u i p r : Nat} {day : Int32} (h : Rel X M) (hs : Sd X M) (hu : u < 3) (hp : p < sz X 1) (e33 : X.2 33 i = nI p) (hr : r < 40) (er : rv X u day i = nI r) {a b c : Nat} (hab : a < b) (hbc : b < c) (hc : c < sz X 1) : pv X u day i (mk a b c) = (fv X u day i a && (fv X u day i b && fv X u day i c)) := by
  obtain ⟨h1, h1b, h1m⟩ := r1 h
  have hm : mk a b c < 2 ^ 20 := mk_lt (by omega) (by omega) (by omega)
  obtain ⟨A, a1, a2, a3⟩ := pan_loop (m := mk a b c) h hs hu hp e33 hr er hm (sz X 1) 0 0 NN (by omega) (by unfold NN; omega) (by decide)
  have e : fX0_whyNoPanel NN X (nI p) (nI u) day (nI (mk a b c)) (X.2 20 r) = some (nI A, X) := by
    unfold fX0_whyNoPanel
    rw [pop_ok hm, b2_s, mk_pb c (by omega) b hbc a hab, if_pos (show nI 3 = (3 : Int32) from rfl)]
    exact a1
  unfold pv
  rw [er, nI_clamp (by omega), e33, e, gv_s, Bool.eq_iff_iff, decide_eq_true_iff, neq (m := 0) (by omega) (by decide), a3]
  simp only [Bool.and_eq_true, true_and]
  constructor
  · intro z
    exact ⟨z a (by omega) (by omega) (by rw [mk_bit]; simp), z b (by omega) (by omega) (by rw [mk_bit]; simp), z c (by omega) (by omega) (by rw [mk_bit]; simp)⟩
  · rintro ⟨z1, z2, z3⟩ x _ _ hx
    rw [mk_bit] at hx
    simp at hx
    rcases hx with (hx | hx) | hx
    · rw [← hx]; exact z1
    · rw [← hx]; exact z2
    · rw [← hx]; exact z3
