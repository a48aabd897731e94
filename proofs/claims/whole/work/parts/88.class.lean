/-! BEST, 9: the class -/
def exv (X : SS) (x : Nat) : Bool := decide (X.2 10 x = 1)
theorem exv_6 {X M : SS} (h : Rel X M) : cn (exv X) (sz X 1) ≤ 6 := by
  have h2 := (r2 h).2.1
  have hC : InvC X := h.2.2.2.2.2.2.1
  rw [cn_ex (X := X) (sz X 1) (fun x _ => by unfold exv; exact decide_eq_true_iff)]
  unfold InvC at hC
  omega
theorem jlist {X M : SS} {u i p r : Nat} {day : Int32} (h : Rel X M) (hs : Sd X M) (hu : u < 3) (hp : p < sz X 1) (e33 : X.2 33 i = nI p) (hr : r < 40) (er : rv X u day i = nI r) (h6 : cn (fv X u day i) (sz X 1) ≤ 6) : ∀ d x S n, x + d = sz X 1 → d < n → sX X S → (∀ y, y < x → fv X u day i y = true → S.2 37 (cn (fv X u day i) y) = nI y) → ∃ T, fX1_listOptions_b71 NN n S (nI i) (nI u) day (nI p) (nI r) (nI (cn (fv X u day i) x)) (nI x) = fX1_listOptions_b132 NN T (nI i) (nI (cn (fv X u day i) (sz X 1))) ∧ T.1 = S.1 ∧ (∀ q, q ≠ 37 → T.2 q = S.2 q) ∧ ∀ y, y < sz X 1 → fv X u day i y = true → T.2 37 (cn (fv X u day i) y) = nI y := by
  obtain ⟨h1, h1b, h1m⟩ := r1 h
  intro d
  induction d with
  | zero =>
    intro x S n hx hn hS hJ
    obtain ⟨n, rfl⟩ : ∃ m, n = m + 1 := ⟨n - 1, by omega⟩
    have hxe : x = sz X 1 := by omega
    have e1 : S.1 1 = nI (sz X 1) := by rw [hS.1, h1]
    rw [fX1_listOptions_b71, e1, if_pos (nI_le (by omega) (by omega)), hxe]
    refine ⟨S, rfl, rfl, fun _ _ => rfl, fun y hy => hJ y (by omega)⟩
  | succ d ih =>
    intro x S n hx hn hS hJ
    obtain ⟨n, rfl⟩ : ∃ m, n = m + 1 := ⟨n - 1, by omega⟩
    have hle := cn_le (e := fv X u day i) d (x + 1)
    rw [show x + 1 + d = sz X 1 by omega, cn] at hle
    have e1 : S.1 1 = nI (sz X 1) := by rw [hS.1, h1]
    rw [fX1_listOptions_b71, e1, if_neg (n_nle (by omega) (by omega)), n1 x]
    obtain ⟨q, q1, q2, q3⟩ := (judg h hs hu hp e33 hr er x (by omega)).2 S hS
    have skip : fv X u day i x = false → ∃ T, fX1_listOptions_b71 NN n S (nI i) (nI u) day (nI p) (nI r) (nI (cn (fv X u day i) x)) (nI (x + 1)) = fX1_listOptions_b132 NN T (nI i) (nI (cn (fv X u day i) (sz X 1))) ∧ T.1 = S.1 ∧ (∀ q, q ≠ 37 → T.2 q = S.2 q) ∧ ∀ y, y < sz X 1 → fv X u day i y = true → T.2 37 (cn (fv X u day i) y) = nI y := by
      intro hf
      have := ih (x + 1) S n (by omega) (by omega) hS (fun y hy hfy => by
        by_cases c : y = x
        · rw [c, hf] at hfy
          exact absurd hfy (by decide)
        · exact hJ y (by omega) hfy)
      rw [cn, hf, if_neg (by decide), Nat.add_zero] at this
      exact this
    by_cases c6 : 6 ≤ cn (fv X u day i) x
    · rw [if_pos ((nle (m := 6) (by omega) (by decide)).mpr c6)]
      apply skip
      by_cases c : fv X u day i x = true
      · rw [if_pos c] at hle
        omega
      · rw [Bool.not_eq_true] at c
        exact c
    · rw [if_neg (fun z => c6 ((nle (m := 6) (by omega) (by decide)).mp z)), gA_n (by omega) (by decide), bb_s, hS.2 20 (by decide) (by decide) (by decide), q2, b2_s]
      by_cases c : fv X u day i x = true
      · rw [if_pos ((neq (m := 0) (by omega) (by decide)).mpr (q3.mpr c)), pA_n (by omega) (by decide), bb_s, n1]
        have hS2 : sX S (setA S 37 (cn (fv X u day i) x) (nI x)) := ⟨rfl, fun q _ _ hq => setA_o hq⟩
        have := ih (x + 1) (setA S 37 (cn (fv X u day i) x) (nI x)) n (by omega) (by omega) (sX_t hS hS2) (fun y hy hfy => by
          rw [setA_s]
          by_cases cy : y = x
          · rw [cy, pk_us]
          · have hle2 := cn_le (e := fv X u day i) (x - (y + 1)) (y + 1)
            rw [show y + 1 + (x - (y + 1)) = x by omega, cn, if_pos hfy] at hle2
            rw [pk_un (by omega)]
            exact hJ y (by omega) hfy)
        rw [cn, if_pos c] at this
        obtain ⟨T, t1, t2, t3, t4⟩ := this
        exact ⟨T, t1, t2, fun q hq => by rw [t3 q hq, setA_o hq], t4⟩
      · rw [if_neg (fun z => c (q3.mp ((neq (m := 0) (by omega) (by decide)).mp z)))]
        rw [Bool.not_eq_true] at c
        exact skip c
def smO (i : Nat) (S T : SS) : Prop := sX S T ∧ (∀ j, j ≠ i → T.2 35 j = S.2 35 j) ∧ ∀ m, m < i * 20 ∨ i * 20 + 20 ≤ m → T.2 34 m = S.2 34 m
theorem ov_len {X M : SS} {u i : Nat} {day : Int32} (h : Rel X M) (hs : Sd X M) (hu : u < 3) (hd : 0 ≤ day ∧ day ≤ 30000) (hi : i < sz X 6) : (ov X u day i).length ≤ 20 ∧ (cv X u day i = true → cn (fv X u day i) (sz X 1) ≤ 6) ∧ ∀ q, q ∈ ov X u day i → q < 2 ^ 20 := by
  obtain ⟨p, v, hp, e33, hv10, ehv, _, c2, _, _⟩ := cand h hs hu hd hi
  have h1b := (r1 h).2.1
  have hc6 : cv X u day i = true → cn (fv X u day i) (sz X 1) ≤ 6 := by
    intro hc
    obtain ⟨r, hr, er⟩ := c2 hc
    have a := cn_sub (e := fv X u day i) (f := exv X) (sz X 1) (fun x hx hf => decide_eq_true ((judg h hs hu hp e33 hr er x hx).1 hf))
    have b := exv_6 h
    omega
  refine ⟨?_, hc6, fun q hq => ?_⟩
  · unfold ov
    by_cases c : cv X u day i = true
    · rw [if_pos c, lq3_len]
      exact zz3_le (hc6 c)
    · rw [if_neg c]
      exact Nat.zero_le _
  · unfold ov at hq
    by_cases c : cv X u day i = true
    · rw [if_pos c] at hq
      obtain ⟨a, b, c, h1, h2, h3, _, _, _, e⟩ := lq3_mem _ hq
      rw [e]
      exact mk_lt (by omega) (by omega) (by omega)
    · rw [if_neg c] at hq
      exact absurd hq List.not_mem_nil
theorem opt_ok {X M S : SS} {u i : Nat} {day : Int32} (h : Rel X M) (hs : Sd X M) (hu : u < 3) (hd : 0 ≤ day ∧ day ≤ 30000) (hi : i < sz X 6) (hS : sX X S) : ∃ T, fX1_listOptions NN S (nI i) (nI u) day = some T ∧ smO i S T ∧ PX T i (ov X u day i) := by
  obtain ⟨hl20, hc6, _⟩ := ov_len h hs hu hd hi
  obtain ⟨p, v, hp, e33, hv10, ehv, c1, c2, c3, c4⟩ := cand h hs hu hd hi
  have h6 := (r6 h).2.1
  have hS1 : sX S (setA S 35 i 0) := ⟨rfl, fun q _ hq _ => setA_o hq⟩
  have hXS1 := sX_t hS hS1
  obtain ⟨d1, d2, q, d3, d4⟩ := c3 _ hXS1
  have hO1 : smO i S (setA S 35 i 0) := ⟨hS1, fun j hj => by rw [setA_s, pk_un hj], fun m _ => by rw [setA_o (by decide)]⟩
  have hP1 : (setA S 35 i 0).2 35 i = 0 := by rw [setA_s, pk_us]
  have hP0 : PX (setA S 35 i 0) i [] := ⟨hP1, fun k hk => absurd hk (Nat.not_lt_zero k)⟩
  unfold fX1_listOptions
  rw [pA_n (by omega) (by decide), bb_s, gA_n (by omega) (by decide), bb_s, hXS1.2 33 (by decide) (by decide) (by decide), e33, d1, b2_s, d2, b2_s, d3, b2_s]
  by_cases c : cv X u day i = true
  · obtain ⟨r, hr, er⟩ := c2 c
    have hc := hc6 c
    rw [er, if_neg (nI_pos (by omega)), if_pos (d4.mpr c)]
    obtain ⟨T, t1, t2, t3, t4⟩ := jlist h hs hu hp e33 hr er hc (sz X 1) 0 (setA S 35 i 0) NN (by omega) (by have := (r1 h).2.1; unfold NN; omega) hXS1 (fun y hy => absurd hy (Nat.not_lt_zero y))
    have t1' : fX1_listOptions_b71 NN NN (setA S 35 i 0) (nI i) (nI u) day (nI p) (nI r) 0 0 = fX1_listOptions_b132 NN T (nI i) (nI (cn (fv X u day i) (sz X 1))) := t1
    rw [t1']
    unfold fX1_listOptions_b132
    have hgz : ∀ z, z < sz X 1 → fv X u day i z = true → (T.2 37 (cn (fv X u day i) z)).toNatClampNeg = z := by
      intro z hz hf
      rw [t4 z hz hf, nI_clamp (by have := (r1 h).2.1; omega)]
    have hJ : JG T (fun j => (T.2 37 j).toNatClampNeg) (cn (fv X u day i) (sz X 1)) := by
      intro j hj
      obtain ⟨y, y1, y2, y3⟩ := cn_at _ j hj
      have e := t4 y y1 y2
      rw [y3] at e
      have hb := (r1 h).2.1
      show T.2 37 j = nI (T.2 37 j).toNatClampNeg ∧ (T.2 37 j).toNatClampNeg < 20
      rw [e, nI_clamp (by omega)]
      exact ⟨rfl, by omega⟩
    have eq3 := lt3_q (g := fun j => (T.2 37 j).toNatClampNeg) hgz (sz X 1) (Nat.le_refl _)
    have eov : ov X u day i = lq3 (fv X u day i) (sz X 1) := by unfold ov; rw [if_pos c]
    obtain ⟨U, u1, u2, u3⟩ := lp_ok (S := T) (i := i) (by omega) hc (by rw [eq3, ← eov]; exact hl20) hJ (by rw [t3 35 (by decide)]; exact hP1)
    rw [u1, bb_s]
    rw [eq3, ← eov] at u3
    have hT : sX (setA S 35 i 0) T := ⟨t2, fun q _ _ hq => t3 q hq⟩
    refine ⟨U, rfl, ⟨sX_t hS1 (sX_t hT (smX_X u2)), fun j hj => ?_, fun m hm => ?_⟩, u3⟩
    · rw [u2.2.2.1 j hj, t3 35 (by decide)]
      exact hO1.2.1 j hj
    · rw [u2.2.2.2 m hm, t3 34 (by decide)]
      exact hO1.2.2 m hm
  · have eov : ov X u day i = [] := by unfold ov; rw [if_neg c]
    rw [eov, if_neg (fun z => c (d4.mp z))]
    refine ⟨setA S 35 i 0, ?_, hO1, hP0⟩
    split <;> rfl
theorem PX_o {S T : SS} {i j : Nat} {l : List Nat} (h : smO i S T) (hj : j ≠ i) (hl : l.length ≤ 20) (hP : PX S j l) : PX T j l := by
  refine ⟨by rw [h.2.1 j hj]; exact hP.1, fun k hk => ?_⟩
  rw [h.2.2 _ (by
    by_cases c : j < i
    · left
      have : j * 20 + 20 ≤ i * 20 := by omega
      omega
    · right
      have : i * 20 + 20 ≤ j * 20 := by omega
      omega)]
  exact hP.2 k hk
theorem b3_ok {X M : SS} {u : Nat} {day L : Int32} (h : Rel X M) (hs : Sd X M) (hu : u < 3) (hd : 0 ≤ day ∧ day ≤ 30000) : ∀ d i S n, i + d = sz X 6 → d < n → sX X S → (∀ j, j < i → PX S j (ov X u day j)) → ∃ T, fX1_seat_b3 NN n S (nI u) day L (nI i) = fX1_seat_b27 NN T L ∧ sX X T ∧ ∀ j, j < sz X 6 → PX T j (ov X u day j) := by
  obtain ⟨h6, h6b, h6m⟩ := r6 h
  intro d
  induction d with
  | zero =>
    intro i S n hi hn hS hP
    obtain ⟨n, rfl⟩ : ∃ m, n = m + 1 := ⟨n - 1, by omega⟩
    rw [fX1_seat_b3, hS.1, h6, if_pos (nI_le (by omega) (by omega))]
    exact ⟨S, rfl, hS, fun j hj => hP j (by omega)⟩
  | succ d ih =>
    intro i S n hi hn hS hP
    obtain ⟨n, rfl⟩ : ∃ m, n = m + 1 := ⟨n - 1, by omega⟩
    obtain ⟨T, t1, t2, t3⟩ := opt_ok h hs hu hd (show i < sz X 6 by omega) hS
    rw [fX1_seat_b3, hS.1, h6, if_neg (n_nle (by omega) (by omega)), t1, bb_s, n1]
    refine ih (i + 1) T n (by omega) (by omega) (sX_t hS t2.1) (fun j hj => ?_)
    by_cases c : j = i
    · rw [c]; exact t3
    · exact PX_o t2 c (ov_len h hs hu hd (by omega)).1 (hP j (by omega))
theorem class_ok {X M : SS} {u L : Nat} {day : Int32} (h : Rel X M) (hs : Sd X M) (hu : u < 3) (hd : 0 ≤ day ∧ day ≤ 30000) (hL : 1 ≤ L) (hL4 : L ≤ 4) : ∃ c l T, fX1_seat NN X (nI u) day (nI L) = some (nI c, T) ∧ (en (ov X u day) (feas L) (sz X 6) 0 [] 0).find? (fun e => decide (c ≤ e.2)) = some (l, c) ∧ (∀ e, e ∈ en (ov X u day) (feas L) (sz X 6) 0 [] 0 → e.2 ≤ c) ∧ T.1 = (pI X 7 1).1 ∧ (∀ q, q ≠ 34 → q ≠ 35 → q ≠ 36 → q ≠ 37 → T.2 q = X.2 q) ∧ ∀ j, j < sz X 6 → T.2 36 j = nI (gl l j) := by
  obtain ⟨h6, h6b, h6m⟩ := r6 h
  obtain ⟨S, s1, s2, s3⟩ := b3_ok (L := nI L) h hs hu hd (sz X 6) 0 X NN (by omega) (by unfold NN; omega) (sX_r X) (fun j hj => absurd hj (Nat.not_lt_zero j))
  have s1' : fX1_seat NN X (nI u) day (nI L) = fX1_seat_b27 NN S (nI L) := s1
  rw [s1']
  unfold fX1_seat_b27
  have e6 : (pI S 7 1).1 6 = nI (sz X 6) := by rw [pI_o (by decide), s2.1, h6]
  rw [pO_s, bb_s, e6]
  have hO : okO (pI S 7 1) (sz X 6) (ov X u day) := ⟨⟨e6, h6b⟩, fun i hi => ⟨(s3 i hi).1, (ov_len h hs hu hd hi).1⟩, fun i j hi hj => (s3 i hi).2 j hj, fun i p hi hp => (ov_len h hs hu hd hi).2.2 p hp⟩
  obtain ⟨c, l, T, t1, t2, t3, t4, t5, t6⟩ := seat_ok hL hL4 (sz X 6) NN (pI S 7 1) hO (Nat.le_refl _) (by unfold NN; omega) (fun e he => by have := (en_rng _ _ _ _ e he).2.1; omega)
  refine ⟨c, l, T, t1, t3, t4, ?_, fun q a b c d => ?_, t6⟩
  · rw [t2.1]
    unfold pI
    rw [s2.1]
  · rw [t2.2 q c, pI_2, s2.2 q a b d]
