/-! WORTH, PERSON, RULE, MARK -/
theorem wi7 (a b c : Nat) : (nI a * 3 + nI b) * 11 + nI c = nI ((a * 3 + b) * 11 + c) := by
  rw [show (3 : Int32) = nI 3 from rfl, show (11 : Int32) = nI 11 from rfl, pk_mul, nI_add, pk_mul, nI_add]
theorem wi8 (a b c : Nat) : (3 * nI a + nI b) * 11 + nI c = nI ((a * 3 + b) * 11 + c) := by
  rw [show (3 : Int32) = nI 3 from rfl, show (11 : Int32) = nI 11 from rfl, pk_mul, nI_add, pk_mul, nI_add, Nat.mul_comm 3 a]
theorem arrs_ok : ∀ q ∈ arrs, am q ≠ 6 ∧ am q ≠ 23 ∧ q ≠ 22 ∧ q ≠ 28 ∧ q ≠ 29 ∧ am q ≠ 29 ∧ q ≠ 34 ∧ q ≠ 35 ∧ q ≠ 36 ∧ q ≠ 37 ∧ am q ≠ 30 ∧ am q ≠ 31 ∧ am q ≠ 32 ∧ am q ≠ 33 := by decide
theorem rel_worth {X M : SS} {a b c w : Nat} (h : Rel X M) (ha : a < 3) (hb : b < 3) (hab : a ≠ b) (hc : 1 ≤ c) (hc2 : c ≤ 10) (hw : w ≤ 10) : Rel (setA X 22 ((a * 3 + b) * 11 + c) (nI w)) (setA M 6 ((a * 3 + b) * 11 + c) (nI w)) := by
  obtain ⟨a1, a2, a3, a4, a5, a6, a7, a8, a9, a10, a11, a12⟩ := h
  refine ⟨a1, ?_, ?_, a4, a5, a6, ?_, a8, a9, a10, a11, a12⟩
  · intro j hj
    rw [setA_o (arrs_ok j hj).2.2.1, setA_o (arrs_ok j hj).1]
    exact a2 j hj
  · intro u v g hu hv hg hg2
    rw [setA_s, setA_s]
    by_cases e : (u * 3 + v) * 11 + g = (a * 3 + b) * 11 + c
    · have e1 : u = a := by omega
      have e2 : v = b := by omega
      rw [e]
      refine ⟨?_, w, hw, if_pos rfl⟩
      rw [if_neg (by omega)]
      exact (if_pos rfl).trans (if_pos rfl).symm
    · obtain ⟨h1, z, h2, h3⟩ := a3 u v g hu hv hg hg2
      refine ⟨?_, z, h2, (if_neg e).trans h3⟩
      rw [show upd (X.2 22) ((a * 3 + b) * 11 + c) (nI w) ((u * 3 + v) * 11 + g) = X.2 22 ((u * 3 + v) * 11 + g) from if_neg e, show upd (M.2 6) ((a * 3 + b) * 11 + c) (nI w) ((u * 3 + v) * 11 + g) = M.2 6 ((u * 3 + v) * 11 + g) from if_neg e]
      exact h1
  · unfold InvC
    rw [exC_cong (setA_o (by decide))]
    exact a7
theorem ge0_of1 {a : Int32} (h : 1 ≤ a) : 0 ≤ a := by
  rw [i_le] at h ⊢
  simp only [Int32.toInt_zero, show (1 : Int32).toInt = 1 from rfl] at *
  omega
theorem ix_1 {a M : Int32} {n : Nat} (hn : n < 2 ^ 31) (hM : M.toInt = n) (h1 : 1 ≤ a) (h2 : a ≤ M) : ∃ p, 1 ≤ p ∧ p ≤ n ∧ a = nI p := by
  obtain ⟨p, hp, rfl⟩ := ix_le hM (ge0_of1 h1) h2
  refine ⟨p, ?_, hp, rfl⟩
  have := (nI_leI (a := 1) (b := p) (by decide) (by omega)).mp h1
  exact this
set_option maxHeartbeats 4000000 in
theorem st_worth : St4 Rel fX7_worth fX8_worth := by
  intro X M h a b c d
  unfold fX7_worth fX8_worth fX7_worth_b37 fX8_worth_b37 fX2_value fX2_setValue fX8_worthAt
  simp only [uni7, uni8, gra7, gra8, w7, w8, b2_s, bI_0, fd7_1, fd8_1]
  by_cases c1 : 0 ≤ a ∧ a ≤ 2
  · by_cases c2 : 0 ≤ b ∧ b ≤ 2
    · by_cases c3 : 1 ≤ c ∧ c ≤ 10
      · by_cases c4 : a = b
        · simp only [c1, c2, c3, c4, and_self, not_true_eq_false, not_false_eq_true, if_false, if_true]
          exact ⟨_, _, _, rfl, rfl, rel_fnd 1 h⟩
        · by_cases c5 : 0 ≤ d ∧ d ≤ 10
          · obtain ⟨p, hp, rfl⟩ := ix_le (n := 2) rfl c1.1 c1.2
            obtain ⟨q, hq, rfl⟩ := ix_le (n := 2) rfl c2.1 c2.2
            obtain ⟨g, hg1, hg2, rfl⟩ := ix_1 (n := 10) (by decide) rfl c3.1 c3.2
            obtain ⟨w, hw, rfl⟩ := ix_le (n := 10) rfl c5.1 c5.2
            have hpq : p ≠ q := fun e => c4 (by rw [e])
            simp only [c1, c2, c3, c4, c5, and_self, not_true_eq_false, if_false]
            rw [wi7, wi8, gA_n (by omega) (by decide), gA_n (by omega) (by decide), bb_s, bb_s, b2_s, pA_n (by omega) (by decide), pA_n (by omega) (by decide), bb_s, bb_s, bb_s]
            have hv := (h.2.2.1 p q g (by omega) (by omega) hg1 hg2).1
            rw [if_neg hpq] at hv
            rw [hv]
            exact ⟨_, _, _, rfl, rfl, rel_worth h (by omega) (by omega) hpq hg1 hg2 hw⟩
          · simp only [c1, c2, c3, c4, c5, and_self, not_true_eq_false, not_false_eq_true, if_false, if_true]
            exact ⟨_, _, _, rfl, rfl, rel_fnd 1 h⟩
      · simp only [c1, c2, c3, and_self, not_true_eq_false, not_false_eq_true, if_false, if_true]
        exact ⟨_, _, _, rfl, rfl, rel_fnd 1 h⟩
    · simp only [c1, c2, and_self, not_true_eq_false, not_false_eq_true, if_false, if_true]
      exact ⟨_, _, _, rfl, rfl, rel_fnd 1 h⟩
  · simp only [c1, not_false_eq_true, if_true]
    exact ⟨_, _, _, rfl, rfl, rel_fnd 1 h⟩
-- person
def fil (q p : Nat) : Nat → Nat → SS → SS
  | 0, _, S => S
  | d + 1, i, S => fil q p d (i + 1) (setA S q (p * 8 + i) (-1))
theorem fil_1 (q p : Nat) : ∀ d i S, (fil q p d i S).1 = S.1
  | 0, _, _ => rfl
  | d + 1, i, S => by rw [fil, fil_1 q p d]; rfl
theorem fil_o {q p j : Nat} (h : j ≠ q) : ∀ d i S, (fil q p d i S).2 j = S.2 j
  | 0, _, _ => rfl
  | d + 1, i, S => by rw [fil, fil_o h d, setA_o h]
theorem fil_RA {p : Nat} : ∀ d i X M, RA X M → RA (fil 14 p d i X) (fil 5 p d i M)
  | 0, _, _, _, h => h
  | d + 1, i, X, M, h => by
    rw [fil, fil]
    exact fil_RA d (i + 1) _ _ (RA_set (q := 14) h (by decide))
theorem pf7 {N p : Nat} {x1 : Int32} (hp : p < 20) : ∀ d i S n, i + d = 8 → d < n → fX4_add_b43 N n S x1 (nI p) (nI i) = fX4_add_b70 N (fil 14 p d i S) x1 (nI p) := by
  intro d
  induction d with
  | zero =>
    intro i S n hi hn
    obtain ⟨n, rfl⟩ : ∃ m, n = m + 1 := ⟨n - 1, by omega⟩
    rw [fX4_add_b43, if_pos ((nle (n := i) (m := 8) (by omega) (by decide)).mpr (by omega))]
    rfl
  | succ d ih =>
    intro i S n hi hn
    obtain ⟨n, rfl⟩ : ∃ m, n = m + 1 := ⟨n - 1, by omega⟩
    rw [fX4_add_b43, if_neg (fun z => by have := (nle (n := i) (m := 8) (by omega) (by decide)).mp z; omega), show nI p * 8 + nI i = nI (p * 8 + i) by rw [show (8 : Int32) = nI 8 from rfl, pk_mul, nI_add], pA_n (by omega) (by decide), bb_s, n1, ih (i + 1) _ n (by omega) (by omega)]
    rfl
theorem pf8 {N p : Nat} {x1 : Int32} (hp : p < 20) : ∀ d i S n, S.1 0 = nI p → i + d = 8 → d < n → fX8_person_b108 N n S x1 (nI i) = fX8_person_b137 N (fil 5 p d i S) x1 := by
  intro d
  induction d with
  | zero =>
    intro i S n _ hi hn
    obtain ⟨n, rfl⟩ : ∃ m, n = m + 1 := ⟨n - 1, by omega⟩
    rw [fX8_person_b108, if_pos ((nle (n := i) (m := 8) (by omega) (by decide)).mpr (by omega))]
    rfl
  | succ d ih =>
    intro i S n hS hi hn
    obtain ⟨n, rfl⟩ : ∃ m, n = m + 1 := ⟨n - 1, by omega⟩
    rw [fX8_person_b108, if_neg (fun z => by have := (nle (n := i) (m := 8) (by omega) (by decide)).mp z; omega), hS, show 8 * nI p + nI i = nI (p * 8 + i) by rw [show (8 : Int32) = nI 8 from rfl, pk_mul, nI_add, Nat.mul_comm], pA_n (by omega) (by decide), bb_s, n1, ih (i + 1) (setA S 5 (p * 8 + i) (-1)) n hS (by omega) (by omega)]
    rfl
theorem pI_same (S : SS) (k : Nat) : pI S k (S.1 k) = S := by
  refine Prod.ext ?_ rfl
  funext j
  show (if j = k then S.1 k else S.1 j) = S.1 j
  by_cases c : j = k
  · rw [if_pos c, c]
  · rw [if_neg c]
theorem exC_lt {X Y : SS} : ∀ n, (∀ i, i < n → Y.2 10 i = X.2 10 i) → exC Y n = exC X n
  | 0, _ => rfl
  | n + 1, h => by rw [exC, exC, exC_lt n (fun i hi => h i (by omega)), h n (by omega)]
def pX (X : SS) (p : Nat) (x1 x2 x3 : Int32) : SS := fil 14 p 8 0 (setA (setA (setA (setA X 10 p x1) 11 p x2) 12 p x3) 13 p 30000)
def pM (M : SS) (p : Nat) (x1 x2 x3 : Int32) : SS := fil 5 p 8 0 (setA (setA (setA (setA M 1 p x1) 2 p x2) 3 p x3) 4 p 30000)
theorem pX_1 (X : SS) (p : Nat) (x1 x2 x3 : Int32) : (pX X p x1 x2 x3).1 = X.1 := fil_1 14 p 8 0 _
theorem pM_1 (X : SS) (p : Nat) (x1 x2 x3 : Int32) : (pM X p x1 x2 x3).1 = X.1 := fil_1 5 p 8 0 _
theorem pX_o {X : SS} {p j : Nat} {x1 x2 x3 : Int32} (h : j ∉ [10, 11, 12, 13, 14]) : (pX X p x1 x2 x3).2 j = X.2 j := by
  simp at h
  unfold pX
  rw [fil_o (by omega), setA_o (by omega), setA_o (by omega), setA_o (by omega), setA_o (by omega)]
theorem pM_o {X : SS} {p j : Nat} {x1 x2 x3 : Int32} (h : j ∉ [1, 2, 3, 4, 5]) : (pM X p x1 x2 x3).2 j = X.2 j := by
  simp at h
  unfold pM
  rw [fil_o (by omega), setA_o (by omega), setA_o (by omega), setA_o (by omega), setA_o (by omega)]
theorem pX_10 {X : SS} {p : Nat} {x1 x2 x3 : Int32} : (pX X p x1 x2 x3).2 10 = upd (X.2 10) p x1 := by
  unfold pX
  rw [fil_o (by decide), setA_o (by decide), setA_o (by decide), setA_o (by decide), setA_s]
theorem pX_11 {X : SS} {p : Nat} {x1 x2 x3 : Int32} : (pX X p x1 x2 x3).2 11 = upd (X.2 11) p x2 := by
  unfold pX
  rw [fil_o (by decide), setA_o (by decide), setA_o (by decide), setA_s, setA_o (by decide)]
theorem rel_person {X M : SS} {x1 x2 x3 : Int32} {ne : Nat} (h : Rel X M) (hp : sz X 1 < 20) (hb : 0 ≤ x2.toInt ∧ x2.toInt ≤ 30000) (hne : ne = sz X 2 + (if x1 = 1 then 1 else 0)) (hn6 : ne ≤ 6) : Rel (pI (pI (pX X (sz X 1) x1 x2 x3) 2 (nI ne)) 1 (nI (sz X 1 + 1))) (pI (pI (pM M (sz X 1) x1 x2 x3) 1 (nI ne)) 0 (nI (sz X 1 + 1))) := by
  obtain ⟨a1, a2, a3, a4, a5, a6, a7, a8, a9, a10, a11, a12⟩ := h
  have q1 := pX_1 X (sz X 1) x1 x2 x3
  have q2 := pM_1 M (sz X 1) x1 x2 x3
  have qo : ∀ j, j ∉ [10, 11, 12, 13, 14] → (pX X (sz X 1) x1 x2 x3).2 j = X.2 j := fun j hj => pX_o hj
  have qm : ∀ j, j ∉ [1, 2, 3, 4, 5] → (pM M (sz X 1) x1 x2 x3).2 j = M.2 j := fun j hj => pM_o hj
  have q10 := pX_10 (X := X) (p := sz X 1) (x1 := x1) (x2 := x2) (x3 := x3)
  have q11 := pX_11 (X := X) (p := sz X 1) (x1 := x1) (x2 := x2) (x3 := x3)
  have hRA : RA (pX X (sz X 1) x1 x2 x3) (pM M (sz X 1) x1 x2 x3) := fil_RA 8 0 _ _ (RA_set (q := 13) (RA_set (q := 12) (RA_set (q := 11) (RA_set (q := 10) a2 (by decide)) (by decide)) (by decide)) (by decide))
  generalize hY : pX X (sz X 1) x1 x2 x3 = Y at *
  generalize pM M (sz X 1) x1 x2 x3 = Z at *
  have s1 : sz (pI (pI Y 2 (nI ne)) 1 (nI (sz X 1 + 1))) 1 = sz X 1 + 1 := sz_pIs (by omega)
  have s2 : sz (pI (pI Y 2 (nI ne)) 1 (nI (sz X 1 + 1))) 2 = ne := by rw [sz_pIo (by decide), sz_pIs (by omega)]
  have so : ∀ k, k ≠ 1 → k ≠ 2 → (pI (pI Y 2 (nI ne)) 1 (nI (sz X 1 + 1))).1 k = X.1 k := fun k h1 h2 => by rw [pI_o h1, pI_o h2, q1]
  have sz_ : ∀ k, k ≠ 1 → k ≠ 2 → sz (pI (pI Y 2 (nI ne)) 1 (nI (sz X 1 + 1))) k = sz X k := fun k h1 h2 => congrArg Int32.toNatClampNeg (so k h1 h2)
  refine ⟨RS_pI (k := 1) (RS_pI (k := 2) ?_ (by decide)) (by decide), hRA, ?_, ?_, ?_, ?_, ?_, ?_, ?_, ?_, ?_, ?_⟩
  · intro k hk
    rw [q1, q2]
    exact a1 k hk
  · intro u v g hu hv hg hg2
    show Y.2 22 _ = (if u = v then nI g else Z.2 6 _) ∧ ∃ w, w ≤ 10 ∧ Y.2 22 _ = nI w
    rw [qo 22 (by decide), qm 6 (by decide)]
    exact a3 u v g hu hv hg hg2
  · intro z i hi
    rw [so 7 (by decide) (by decide)] at z
    rw [sz_ 6 (by decide) (by decide)] at hi
    show Y.2 36 i = Z.2 23 i
    rw [qo 36 (by decide), qm 23 (by decide)]
    exact a4 z i hi
  · refine ⟨?_, ⟨?_, ?_⟩, ⟨?_, ?_⟩, ?_, ?_, ?_, ?_, ?_, ?_⟩
    · rw [so 0 (by decide) (by decide), sz_ 0 (by decide) (by decide)]; exact a5.1
    · rw [s1]; rfl
    · rw [s1]; omega
    · rw [s2]; rfl
    · rw [s2]; exact hn6
    · rw [so 3 (by decide) (by decide), sz_ 3 (by decide) (by decide)]; exact a5.2.2.2.1
    · rw [so 4 (by decide) (by decide), sz_ 4 (by decide) (by decide)]; exact a5.2.2.2.2.1
    · rw [so 5 (by decide) (by decide), sz_ 5 (by decide) (by decide)]; exact a5.2.2.2.2.2.1
    · rw [so 6 (by decide) (by decide), sz_ 6 (by decide) (by decide)]; exact a5.2.2.2.2.2.2.1
    · rw [so 8 (by decide) (by decide), sz_ 8 (by decide) (by decide)]; exact a5.2.2.2.2.2.2.2.1
    · rw [so 7 (by decide) (by decide)]; exact a5.2.2.2.2.2.2.2.2
  · intro q hq
    rw [s1] at hq
    show 0 ≤ (Y.2 11 q).toInt ∧ (Y.2 11 q).toInt ≤ 30000
    rw [q11]
    by_cases c : q = sz X 1
    · rw [show upd (X.2 11) (sz X 1) x2 q = x2 from if_pos c]; exact hb
    · rw [show upd (X.2 11) (sz X 1) x2 q = X.2 11 q from if_neg c]; exact a6 q (by omega)
  · unfold InvC
    rw [s1, s2, exC_cong (Y := pI (pI Y 2 (nI ne)) 1 (nI (sz X 1 + 1))) (X := Y) rfl, exC, exC_lt (X := X) (Y := Y) (sz X 1) (fun i hi => by rw [q10]; exact if_neg (by omega)), ← a7, q10, show upd (X.2 10) (sz X 1) x1 (sz X 1) = x1 from if_pos rfl, hne]
  · intro r hr
    rw [sz_ 3 (by decide) (by decide)] at hr
    show (0 ≤ (Y.2 18 r).toInt ∧ (Y.2 18 r).toInt ≤ 20000) ∧ ∃ u g, u < 3 ∧ 1 ≤ g ∧ g ≤ 10 ∧ Y.2 15 r = nI (100 * u + g)
    rw [qo 18 (by decide), qo 15 (by decide)]
    exact a8 r hr
  · intro e he
    rw [sz_ 4 (by decide) (by decide)] at he
    rw [s1]
    show ∃ o u g, Y.2 23 e = nI o ∧ o < sz X 1 + 1 ∧ Y.2 24 e = nI u ∧ u < 3 ∧ Y.2 25 e = nI g ∧ 1 ≤ g ∧ g ≤ 10
    rw [qo 23 (by decide), qo 24 (by decide), qo 25 (by decide)]
    obtain ⟨o, u, g, b1, b2, b3⟩ := a9 e he
    exact ⟨o, u, g, b1, by omega, b3⟩
  · intro e he
    rw [sz_ 5 (by decide) (by decide)] at he
    rw [s1]
    show ∃ p, p < sz X 1 + 1 ∧ Y.2 30 e = nI p
    rw [qo 30 (by decide)]
    obtain ⟨o, b1, b2⟩ := a10 e he
    exact ⟨o, by omega, b2⟩
  · intro e he
    rw [sz_ 6 (by decide) (by decide)] at he
    rw [s1]
    show ∃ p, p < sz X 1 + 1 ∧ Y.2 33 e = nI p
    rw [qo 33 (by decide)]
    obtain ⟨o, b1, b2⟩ := a11 e he
    exact ⟨o, by omega, b2⟩
  · intro x hx
    rw [sz_ 8 (by decide) (by decide)]
    show ∃ c, c ≤ 5 ∧ Y.2 38 x = nI c ∧ (sz X 8 ≤ x → c = 0) ∧ (∀ i, i < c → 0 ≤ (Y.2 40 (5 * x + i)).toInt ∧ (Y.2 40 (5 * x + i)).toInt ≤ 100) ∧ ∀ i j, i < c → j < c → Y.2 39 (5 * x + i) = Y.2 39 (5 * x + j) → i = j
    rw [qo 38 (by decide), qo 39 (by decide), qo 40 (by decide)]
    exact a12 x hx
set_option maxHeartbeats 4000000 in
theorem st_person : St3 Rel fX7_person fX8_person := by
  intro X M h a b c
  obtain ⟨h1, h1b, h1m⟩ := r1 h
  obtain ⟨h2, h2b, h2m⟩ := r2 h
  unfold fX7_person fX8_person fX7_person_b24 fX8_person_b26 fX8_person_b56
  simp only [kind7, day7, day8, w7, w8, b2_s, bI_0, fd7_1, fd8_1, fd7_4, fd8_4, h1m, h2m]
  by_cases c1 : 0 ≤ a ∧ a ≤ 2
  · by_cases c2 : 0 ≤ b ∧ b ≤ 30000
    · by_cases c3 : 0 ≤ c ∧ c ≤ 7
      · simp only [c1, c2, c3, and_self, not_true_eq_false, if_false]
        unfold fX4_hasRoomFor
        rw [h1, h2]
        simp only [nle (n := sz X 1) (m := 20) (by omega) (by decide), nle (n := sz X 2) (m := 6) (by omega) (by decide), neq (n := sz X 1) (m := 20) (by omega) (by decide), neq (n := sz X 2) (m := 6) (by omega) (by decide)]
        have hbr : 0 ≤ b.toInt ∧ b.toInt ≤ 30000 := by
          have d1 := c2.1
          have d2 := c2.2
          rw [i_le] at d1 d2
          exact ⟨d1, d2⟩
        have hadd : sz X 1 < 20 → (sz X 2 + (if a = 1 then 1 else 0) ≤ 6) → ∃ r X1 M1, fX4_add NN X a b c = some (r, X1) ∧ fX8_person_b63 NN M a b c = some (r, M1) ∧ Rel X1 M1 := by
          intro hp hn6
          have hr := rel_person (x1 := a) (x2 := b) (x3 := c) h hp hbr rfl hn6
          unfold fX4_add fX8_person_b63
          rw [h1, h1m]
          rw [pA_n (by omega) (by decide), bb_s, pA_n (by omega) (by decide), bb_s, pA_n (by omega) (by decide), bb_s, pA_n (by omega) (by decide), bb_s]
          rw [pA_n (by omega) (by decide), bb_s, setA_1, h1m, pA_n (by omega) (by decide), bb_s, setA_1, setA_1, h1m, pA_n (by omega) (by decide), bb_s, setA_1, setA_1, setA_1, h1m, pA_n (by omega) (by decide), bb_s]
          have t7 := pf7 (N := NN) (x1 := a) hp 8 0 (setA (setA (setA (setA X 10 (sz X 1) a) 11 (sz X 1) b) 12 (sz X 1) c) 13 (sz X 1) 30000) NN (by omega) (by unfold NN; omega)
          have t8 := pf8 (N := NN) (x1 := a) hp 8 0 (setA (setA (setA (setA M 1 (sz X 1) a) 2 (sz X 1) b) 3 (sz X 1) c) 4 (sz X 1) 30000) NN h1m (by omega) (by unfold NN; omega)
          rw [show (0 : Int32) = nI 0 from rfl, t7, t8]
          rw [show fil 14 (sz X 1) 8 0 (setA (setA (setA (setA X 10 (sz X 1) a) 11 (sz X 1) b) 12 (sz X 1) c) 13 (sz X 1) 30000) = pX X (sz X 1) a b c from rfl, show fil 5 (sz X 1) 8 0 (setA (setA (setA (setA M 1 (sz X 1) a) 2 (sz X 1) b) 3 (sz X 1) c) 4 (sz X 1) 30000) = pM M (sz X 1) a b c from rfl]
          have q1 := pX_1 X (sz X 1) a b c
          have q2 := pM_1 M (sz X 1) a b c
          generalize pX X (sz X 1) a b c = Y at *
          generalize pM M (sz X 1) a b c = Z at *
          unfold fX4_add_b70 fX8_person_b137 fX8_person_b152 fX4_add_b85
          rw [q1, q2, h1, h2, h2m, n1]
          by_cases d : a = 1
          · rw [if_pos d] at hr
            rw [if_pos d, if_pos d]
            simp only [pO_s, bb_s, n1]
            have w2 : (pI Z 1 (nI (sz X 2 + 1))).1 0 = nI (sz X 1) := by rw [pI_o (by decide), q2, h1m]
            have w1 : (pI Y 2 (nI (sz X 2 + 1))).1 1 = nI (sz X 1) := by rw [pI_o (by decide), q1, h1]
            rw [w1, w2, n1, pI_s, nI_pred]
            exact ⟨_, _, _, rfl, rfl, hr⟩
          · rw [if_neg d] at hr
            rw [if_neg d, if_neg d]
            simp only [pO_s, bb_s, n1]
            rw [show nI (sz X 2) + 0 = nI (sz X 2 + 0) by rw [show (0 : Int32) = nI 0 from rfl, nI_add]]
            have w2 : (pI Z 1 (nI (sz X 2 + 0))).1 0 = nI (sz X 1) := by rw [pI_o (by decide), q2, h1m]
            rw [w2, n1, pI_s, nI_pred]
            refine ⟨_, _, _, rfl, rfl, ?_⟩
            have e : pI Y 2 (nI (sz X 2 + 0)) = Y := by
              rw [Nat.add_zero, ← h2, ← q1]
              exact pI_same Y 2
            rw [e] at hr
            exact hr
        by_cases d1 : sz X 1 = 20
        · simp only [d1, Nat.le_refl, if_true, rZ_0, b2_s]
          exact ⟨_, _, _, rfl, rfl, rel_fnd 4 h⟩
        · have d1' : ¬ 20 ≤ sz X 1 := by omega
          simp only [d1, d1', if_false]
          by_cases d2 : a = 1
          · simp only [d2, if_true]
            by_cases d3 : sz X 2 = 6
            · simp only [d3, Nat.le_refl, if_true, rZ_0, b2_s]
              exact ⟨_, _, _, rfl, rfl, rel_fnd 4 h⟩
            · have d3' : ¬ 6 ≤ sz X 2 := by omega
              simp only [d3, d3', if_false, rZ_1, b2_s]
              rw [if_neg (by decide)]
              obtain ⟨r, X1, M1, z1, z2, z3⟩ := hadd (by omega) (by rw [if_pos d2]; omega)
              rw [d2] at z1 z2
              rw [z1, z2, b2_s]
              exact ⟨_, _, _, rfl, rfl, z3⟩
          · simp only [d2, if_false, rZ_1, b2_s]
            rw [if_neg (by decide)]
            obtain ⟨r, X1, M1, z1, z2, z3⟩ := hadd (by omega) (by rw [if_neg d2]; omega)
            rw [z1, z2, b2_s]
            exact ⟨_, _, _, rfl, rfl, z3⟩
      · simp only [c1, c2, c3, and_self, not_true_eq_false, not_false_eq_true, if_false, if_true]
        exact ⟨_, _, _, rfl, rfl, rel_fnd 1 h⟩
    · simp only [c1, c2, and_self, not_true_eq_false, not_false_eq_true, if_false, if_true]
      exact ⟨_, _, _, rfl, rfl, rel_fnd 1 h⟩
  · simp only [c1, not_false_eq_true, if_true]
    exact ⟨_, _, _, rfl, rfl, rel_fnd 1 h⟩
