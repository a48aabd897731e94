/-! BEST, 4: the reference's loads and its copy of the best -/
theorem tb_n (q x : Nat) : q.testBit x = decide (q / 2 ^ x % 2 = 1) := Nat.testBit_eq_decide_div_mod_eq
def lk (L : Nat) (pre : List Nat) (q : Nat) : Nat → Nat → Bool
  | 0, _ => true
  | d + 1, x => (!q.testBit x || decide (ldc pre x < L)) && lk L pre q d (x + 1)
theorem lk_iff {L : Nat} {pre : List Nat} {q : Nat} : ∀ d x, lk L pre q d x = true ↔ ∀ y, x ≤ y → y < x + d → q.testBit y = true → ldc pre y < L := by
  intro d
  induction d with
  | zero =>
    intro x
    rw [lk]
    exact ⟨fun _ y h1 h2 => by omega, fun _ => rfl⟩
  | succ d ih =>
    intro x
    rw [lk, Bool.and_eq_true, ih]
    constructor
    · rintro ⟨h1, h2⟩ y hy hy2 hb
      by_cases c : y = x
      · subst c
        simp [hb] at h1
        exact h1
      · exact h2 y (by omega) (by omega) hb
    · intro h
      refine ⟨?_, fun y h1 h2 h3 => h y (by omega) (by omega) h3⟩
      by_cases c : q.testBit x = true
      · have := h x (by omega) (by omega) c
        simp [c, this]
      · simp [c]
theorem lt_loop {S : SS} {np q L : Nat} {pre : List Nat} (h0 : S.1 0 = nI np) (hnp : np ≤ 20) (hq : q < 2 ^ 20) (hL : L ≤ 4) (h4 : pre.length ≤ 4) (hl : ∀ x, x < np → S.2 33 x = nI (ldc pre x)) : ∀ d x (b : Bool) n, x + d = np → d < n → fX8_isLight_b5 NN n S (nI q) (nI L) (bI (b = true)) (nI x) = some (bI ((b && lk L pre q d x) = true), S) := by
  intro d
  induction d with
  | zero =>
    intro x b n hx hn
    obtain ⟨n, rfl⟩ : ∃ m, n = m + 1 := ⟨n - 1, by omega⟩
    rw [fX8_isLight_b5, h0, if_pos (nI_le (by omega) (by omega)), rZ_b, lk, Bool.and_true]
  | succ d ih =>
    intro x b n hx hn
    obtain ⟨n, rfl⟩ : ∃ m, n = m + 1 := ⟨n - 1, by omega⟩
    have t0 := ih (x + 1) false n (by omega) (by omega)
    have t1 := ih (x + 1) true n (by omega) (by omega)
    rw [bI_f (p := (false = true)) (by decide), Bool.false_and] at t0
    rw [bI_t (p := (true = true)) rfl, Bool.true_and] at t1
    rw [fX8_isLight_b5, h0, if_neg (n_nle (by omega) (by omega)), bitN (by omega) (by omega), gA_n (by omega) (by decide), bb_s, hl x (by omega), n1, t0, t1, lk, tb_n]
    have hc := ldc_le pre x
    cases b with
    | false =>
      rw [if_pos (bI_f (by decide)), Bool.false_and]
    | true =>
      rw [if_neg (by rw [bI_t rfl]; decide), Bool.true_and]
      by_cases cb : q / 2 ^ x % 2 = 0
      · rw [if_pos (by rw [cb]; rfl), decide_eq_false (by omega)]
        simp
      · have cb1 : q / 2 ^ x % 2 = 1 := by omega
        rw [if_neg (by rw [cb1]; decide), decide_eq_true cb1]
        by_cases cl : L ≤ ldc pre x
        · rw [if_pos (nI_le cl (by omega)), decide_eq_false (show ¬ ldc pre x < L by omega)]
          simp
        · rw [if_neg (n_nle (by omega) (by omega)), decide_eq_true (show ldc pre x < L by omega)]
          simp
theorem light_ok {S : SS} {np q L : Nat} {pre : List Nat} (h0 : S.1 0 = nI np) (hnp : np ≤ 20) (hq : q < 2 ^ np) (hL : L ≤ 4) (h4 : pre.length ≤ 4) (hl : ∀ x, x < np → S.2 33 x = nI (ldc pre x)) : fX8_isLight NN S (nI q) (nI L) = some (bI (feas L pre q = true), S) := by
  have hq20 : q < 2 ^ 20 := Nat.lt_of_lt_of_le hq (Nat.pow_le_pow_right (by decide) hnp)
  have t := lt_loop h0 hnp hq20 hL h4 hl np 0 true NN (by omega) (by unfold NN; omega)
  rw [bI_t (p := (true = true)) rfl, Bool.true_and] at t
  have t' : fX8_isLight NN S (nI q) (nI L) = some (bI (lk L pre q np 0 = true), S) := t
  rw [t', bI_c (q := (feas L pre q = true))]
  rw [lk_iff, feas_iff]
  constructor
  · intro h x hx hb
    by_cases c : x < np
    · exact h x (by omega) (by omega) hb
    · rw [Nat.testBit_lt_two_pow (Nat.lt_of_lt_of_le hq (Nat.pow_le_pow_right (by decide) (by omega)))] at hb
      exact absurd hb (by decide)
  · intro h x _ hx hb
    exact h x (by omega) hb
theorem loads_loop {np q : Nat} {v : Int32} (hnp : np ≤ 20) (hq : q < 2 ^ 20) : ∀ d x S n, S.1 0 = nI np → x + d = np → d < n → ∃ T, fX8_loads_b2 NN n S (nI q) v (nI x) = some T ∧ T.1 = S.1 ∧ (∀ j, j ≠ 33 → T.2 j = S.2 j) ∧ (∀ y, y < x → T.2 33 y = S.2 33 y) ∧ ∀ y, x ≤ y → y < np → T.2 33 y = S.2 33 y + (if q.testBit y then v else 0) := by
  intro d
  induction d with
  | zero =>
    intro x S n h0 hx hn
    obtain ⟨n, rfl⟩ : ∃ m, n = m + 1 := ⟨n - 1, by omega⟩
    rw [fX8_loads_b2, h0, if_pos (nI_le (by omega) (by omega))]
    exact ⟨S, rfl, rfl, fun _ _ => rfl, fun _ _ => rfl, fun y h1 h2 => by omega⟩
  | succ d ih =>
    intro x S n h0 hx hn
    obtain ⟨n, rfl⟩ : ∃ m, n = m + 1 := ⟨n - 1, by omega⟩
    have row : fX8_loads_b2 NN (n + 1) S (nI q) v (nI x) = fX8_loads_b2 NN n (setA S 33 x (S.2 33 x + (if q.testBit x then v else 0))) (nI q) v (nI (x + 1)) := by
      rw [fX8_loads_b2, h0, if_neg (n_nle (by omega) (by omega)), bitN (by omega) (by omega), gA_n (by omega) (by decide), bb_s]
      unfold fX8_loads_b31
      rw [pA_n (by omega) (by decide), bb_s, pA_n (by omega) (by decide), bb_s, n1, tb_n]
      by_cases cb : q / 2 ^ x % 2 = 1
      · rw [if_pos (by rw [cb]; rfl), decide_eq_true cb, if_pos rfl]
      · have cb0 : q / 2 ^ x % 2 = 0 := by omega
        rw [if_neg (by rw [cb0]; decide), decide_eq_false cb, if_neg (by decide)]
    rw [row]
    obtain ⟨T, t1, t2, t3, t4, t5⟩ := ih (x + 1) (setA S 33 x (S.2 33 x + (if q.testBit x then v else 0))) n h0 (by omega) (by omega)
    refine ⟨T, t1, t2, fun j hj => by rw [t3 j hj, setA_o hj], fun y hy => by rw [t4 y (by omega), setA_s, pk_un (by omega)], fun y h1 h2 => ?_⟩
    by_cases c : y = x
    · rw [c, t4 x (by omega), setA_s, pk_us]
    · rw [t5 y (by omega) h2, setA_s, pk_un c]
theorem loads_ok {np q : Nat} {v : Int32} {S : SS} (hnp : np ≤ 20) (hq : q < 2 ^ np) (h0 : S.1 0 = nI np) : ∃ T, fX8_loads NN S (nI q) v = some T ∧ T.1 = S.1 ∧ (∀ j, j ≠ 33 → T.2 j = S.2 j) ∧ ∀ y, y < np → T.2 33 y = S.2 33 y + (if q.testBit y then v else 0) := by
  have hq20 : q < 2 ^ 20 := Nat.lt_of_lt_of_le hq (Nat.pow_le_pow_right (by decide) hnp)
  obtain ⟨T, t1, t2, t3, t4, t5⟩ := loads_loop (v := v) hnp hq20 np 0 S NN h0 (by omega) (by unfold NN; omega)
  exact ⟨T, t1, t2, t3, fun y hy => t5 y (by omega) hy⟩
theorem ld_up {a : Nat} {b : Bool} : nI a + (if b then 1 else 0) = nI (a + (if b then 1 else 0)) := by
  cases b
  · exact nI_add a 0
  · exact nI_add a 1
theorem ld_dn {a : Nat} {b : Bool} : nI (a + (if b then 1 else 0)) + (if b then (-1 : Int32) else 0) = nI a := by
  cases b
  · exact nI_add a 0
  · exact pk_m1 a
/-- what the reference's search reads -/
def FX (np w : Nat) (Q : List Nat) (ft : Nat → Nat → Bool) (S : SS) : Prop := (S.1 0 = nI np ∧ np ≤ 20) ∧ (S.1 5 = nI w ∧ w ≤ 4) ∧ (S.1 9 = nI Q.length ∧ Q.length ≤ 20) ∧ (∀ k, k < Q.length → S.2 30 k = nI (gl Q k)) ∧ (∀ i k, i < w → k < Q.length → S.2 31 (20 * i + k) = bI (ft i (gl Q k) = true)) ∧ ∀ q, q ∈ Q → q < 2 ^ np
def LD (np : Nat) (pre : List Nat) (S : SS) : Prop := ∀ x, x < np → S.2 33 x = nI (ldc pre x)
def TR (Q : List Nat) (pre : List Nat) (S : SS) : Prop := ∀ j, j < pre.length → ∃ k, k ≤ Q.length ∧ S.2 32 j = nI k ∧ gl pre j = (if k = Q.length then 0 else gl Q k)
def AC (w : Nat) (acc : Int × List Nat) (S : SS) : Prop := (S.1 10).toInt = acc.1 ∧ (0 ≤ acc.1 → ∀ j, j < w → S.2 23 j = nI (gl acc.2 j))
def smT (S T : SS) : Prop := (∀ k, k ≠ 10 → T.1 k = S.1 k) ∧ ∀ q, q ≠ 23 → q ≠ 32 → q ≠ 33 → T.2 q = S.2 q
theorem smT_r (S : SS) : smT S S := ⟨fun _ _ => rfl, fun _ _ _ _ => rfl⟩
theorem smT_t {S T U : SS} (h : smT S T) (k : smT T U) : smT S U := ⟨fun q hq => (k.1 q hq).trans (h.1 q hq), fun q a b c => (k.2 q a b c).trans (h.2 q a b c)⟩
theorem smT_32 (S : SS) (k : Nat) (v : Int32) : smT S (setA S 32 k v) := ⟨fun _ _ => rfl, fun _ _ h _ => setA_o h⟩
theorem FX_s {np w : Nat} {Q : List Nat} {ft : Nat → Nat → Bool} {S T : SS} (h : FX np w Q ft S) (k : smT S T) : FX np w Q ft T := by
  unfold FX at *
  rw [k.1 0 (by decide), k.1 5 (by decide), k.1 9 (by decide), k.2 30 (by decide) (by decide) (by decide), k.2 31 (by decide) (by decide) (by decide)]
  exact h
theorem copy_ok {np w : Nat} {Q pre : List Nat} {ft : Nat → Nat → Bool} {L x2 x3 : Int32} (hl : pre.length = w) : ∀ d x S n, FX np w Q ft S → TR Q pre S → x + d = w → d < n → ∃ T, (∀ k40 : SS → Int32 → Int32 → Int32 → Option SS, fX8_tryAll_b68 NN k40 n S L x2 x3 (nI x) = k40 T L (x2 + (-1)) x3) ∧ T.1 = S.1 ∧ (∀ q, q ≠ 23 → T.2 q = S.2 q) ∧ (∀ j, j < x → T.2 23 j = S.2 23 j) ∧ ∀ j, x ≤ j → j < w → T.2 23 j = nI (gl pre j) := by
  intro d
  induction d with
  | zero =>
    intro x S n hF hT hx hn
    obtain ⟨n, rfl⟩ : ∃ m, n = m + 1 := ⟨n - 1, by omega⟩
    have hw := hF.2.1.2
    refine ⟨S, fun k40 => ?_, rfl, fun _ _ => rfl, fun _ _ => rfl, fun j h1 h2 => by omega⟩
    rw [fX8_tryAll_b68, hF.2.1.1, if_pos (nI_le (by omega) (by omega))]
  | succ d ih =>
    intro x S n hF hT hx hn
    obtain ⟨n, rfl⟩ : ∃ m, n = m + 1 := ⟨n - 1, by omega⟩
    have hw := hF.2.1.2
    obtain ⟨k, k1, k2, k3⟩ := hT x (by omega)
    have h20 := hF.2.2.1.2
    have row : ∀ k40, fX8_tryAll_b68 NN k40 (n + 1) S L x2 x3 (nI x) = fX8_tryAll_b68 NN k40 n (setA S 23 x (nI (gl pre x))) L x2 x3 (nI (x + 1)) := by
      intro k40
      rw [fX8_tryAll_b68, hF.2.1.1, if_neg (n_nle (by omega) (by omega)), gA_n (by omega) (by decide), bb_s, bb_s, k2, hF.2.2.1.1]
      unfold fX8_tryAll_b113
      by_cases c : k = Q.length
      · rw [if_pos (by rw [c]), pA_n (by omega) (by decide), bb_s, n1, k3, if_pos c]
        rfl
      · rw [if_neg (fun z => c ((nI_eq (by omega) (by omega)).mp z)), gA_n (by omega) (by decide), bb_s, pA_n (by omega) (by decide), bb_s, n1, k3, if_neg c, hF.2.2.2.1 k (by omega)]
    have hS : smT S (setA S 23 x (nI (gl pre x))) := ⟨fun _ _ => rfl, fun _ h _ _ => setA_o h⟩
    obtain ⟨T, t1, t2, t3, t4, t5⟩ := ih (x + 1) (setA S 23 x (nI (gl pre x))) n (FX_s hF hS) (fun j hj => by rw [setA_o (by decide)]; exact hT j hj) (by omega) (by omega)
    refine ⟨T, fun k40 => by rw [row, t1], t2, fun q hq => by rw [t3 q hq, setA_o hq], fun j hj => by rw [t4 j (by omega), setA_s, pk_un (by omega)], fun j h1 h2 => ?_⟩
    by_cases c : j = x
    · rw [c, t4 x (by omega), setA_s, pk_us]
    · exact t5 j (by omega) h2
