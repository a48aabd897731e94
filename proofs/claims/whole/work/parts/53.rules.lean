/-! RULES, WAIT, WORTH, RULE -/
theorem nlt_iff (a b : Int32) : ¬ a < b ↔ b ≤ a := by rw [i_lt, i_le]; omega
theorem nle_iff (a b : Int32) : ¬ a ≤ b ↔ b < a := by rw [i_lt, i_le]; omega
theorem n_nle {k n : Nat} (h : k < n) (hn : n < 2 ^ 31) : ¬ nI n ≤ nI k := nI_ge h hn
/-- the rule in force among those from k on, d of them, with a so far -/
def rF (f15 f16 : Nat → Int32) (key day : Int32) : Nat → Nat → Int32 → Int32
  | 0, _, a => a
  | d + 1, k, a => if f15 k = key ∧ f16 k ≤ day ∧ (a < 0 ∨ f16 a.toNatClampNeg ≤ f16 k) then rF f15 f16 key day d (k + 1) (nI k) else rF f15 f16 key day d (k + 1) a
def rI (X : SS) (u g day : Int32) : Int32 := rF (X.2 15) (X.2 16) (100 * u + g) day (sz X 3) 0 (-1)
def rP (f15 : Nat → Int32) (key : Int32) (n : Nat) (a : Int32) : Prop := a = -1 ∨ ∃ j, j < n ∧ a = nI j ∧ f15 j = key
theorem rF_P {f15 f16 : Nat → Int32} {key day : Int32} {n : Nat} : ∀ d k a, k + d = n → rP f15 key n a → rP f15 key n (rF f15 f16 key day d k a) := by
  intro d
  induction d with
  | zero => intro k a _ h; exact h
  | succ d ih =>
    intro k a hk h
    rw [rF]
    split
    · rename_i c
      exact ih (k + 1) (nI k) (by omega) (Or.inr ⟨k, by omega, rfl, c.1⟩)
    · exact ih (k + 1) a (by omega) h
theorem rI_P (X : SS) (u g day : Int32) : rP (X.2 15) (100 * u + g) (sz X 3) (rI X u g day) := rF_P _ _ _ (by omega) (Or.inl rfl)
theorem nI_cl0 {j : Nat} (h : j < 2 ^ 31) : ¬ nI j < 0 := nI_pos h
theorem if7 {N : Nat} {X : SS} {u g day : Int32} (h3 : X.1 3 = nI (sz X 3)) (h3b : sz X 3 ≤ 40) : ∀ d k a n, k + d = sz X 3 → d < n → rP (X.2 15) (100 * u + g) (sz X 3) a → fX5_inForce_b6 N n X u g day a (nI k) = some (rF (X.2 15) (X.2 16) (100 * u + g) day d k a, X) := by
  intro d
  induction d with
  | zero =>
    intro k a n hk hn h
    obtain ⟨n, rfl⟩ : ∃ m, n = m + 1 := ⟨n - 1, by omega⟩
    rw [fX5_inForce_b6, h3, if_pos (nI_le (by omega) (by omega))]
    rfl
  | succ d ih =>
    intro k a n hk hn h
    obtain ⟨n, rfl⟩ : ∃ m, n = m + 1 := ⟨n - 1, by omega⟩
    rw [fX5_inForce_b6, h3, if_neg (n_nle (by omega) (by omega)), gA_n (by omega) (by decide), bb_s, rF, gA_n (by omega) (by decide), bb_s, bb_s, n1]
    by_cases c1 : X.2 15 k = 100 * u + g
    · rw [if_pos c1]
      by_cases c2 : day < X.2 16 k
      · rw [if_pos c2, if_neg (fun z => absurd z.2.1 ((nle_iff _ _).mpr c2))]
        exact ih (k + 1) a n (by omega) (by omega) h
      · rw [if_neg c2]
        have c2' := (nlt_iff _ _).mp c2
        by_cases c3 : a < 0
        · rw [if_pos c3, if_pos ⟨c1, c2', Or.inl c3⟩]
          exact ih (k + 1) (nI k) n (by omega) (by omega) (Or.inr ⟨k, by omega, rfl, c1⟩)
        · rw [if_neg c3]
          rcases h with rfl | ⟨j, hj, rfl, hk2⟩
          · exact absurd (by decide) c3
          · rw [gA_n (by omega) (by decide), bb_s, nI_clamp (by omega)]
            by_cases c4 : X.2 16 k < X.2 16 j
            · rw [if_pos c4, if_neg (fun z => z.2.2.elim (fun q => c3 q) (fun q => absurd q ((nle_iff _ _).mpr c4)))]
              exact ih (k + 1) (nI j) n (by omega) (by omega) (Or.inr ⟨j, hj, rfl, hk2⟩)
            · rw [if_neg c4, if_pos ⟨c1, c2', Or.inr ((nlt_iff _ _).mp c4)⟩]
              exact ih (k + 1) (nI k) n (by omega) (by omega) (Or.inr ⟨k, by omega, rfl, c1⟩)
    · rw [if_neg c1, if_neg (fun z => c1 z.1)]
      exact ih (k + 1) a n (by omega) (by omega) h
theorem if8 {N : Nat} {M : SS} {f15 f16 : Nat → Int32} {w : Nat} {u g day : Int32} (h3 : M.1 2 = nI w) (h3b : w ≤ 40) (e15 : M.2 8 = f15) (e16 : M.2 9 = f16) : ∀ d k a n, k + d = w → d < n → rP f15 (100 * u + g) w a → fX8_ruleOf_b6 N n M u g day a (nI k) = some (rF f15 f16 (100 * u + g) day d k a, M) := by
  intro d
  induction d with
  | zero =>
    intro k a n hk hn h
    obtain ⟨n, rfl⟩ : ∃ m, n = m + 1 := ⟨n - 1, by omega⟩
    rw [fX8_ruleOf_b6, h3, if_pos (nI_le (by omega) (by omega))]
    rfl
  | succ d ih =>
    intro k a n hk hn h
    obtain ⟨n, rfl⟩ : ∃ m, n = m + 1 := ⟨n - 1, by omega⟩
    rw [fX8_ruleOf_b6, h3, if_neg (n_nle (by omega) (by omega)), gA_n (by omega) (by decide), bb_s, rF, gA_n (by omega) (by decide), bb_s, e15, e16]
    unfold fX8_ruleOf_b47
    rw [n1]
    by_cases c1 : f15 k = 100 * u + g
    · rw [if_pos c1]
      by_cases c2 : day < f16 k
      · rw [if_pos c2, if_pos rfl, if_neg (fun z => absurd z.2.1 ((nle_iff _ _).mpr c2))]
        exact ih (k + 1) a n (by omega) (by omega) h
      · rw [if_neg c2, if_neg (by decide)]
        have c2' := (nlt_iff _ _).mp c2
        by_cases c3 : a < 0
        · rw [if_pos c3, if_pos ⟨c1, c2', Or.inl c3⟩]
          exact ih (k + 1) (nI k) n (by omega) (by omega) (Or.inr ⟨k, by omega, rfl, c1⟩)
        · rw [if_neg c3]
          rcases h with rfl | ⟨j, hj, rfl, hk2⟩
          · exact absurd (by decide) c3
          · rw [gA_n (by omega) (by decide), bb_s, gA_n (by omega) (by decide), bb_s, nI_clamp (by omega), e16]
            by_cases c4 : f16 k < f16 j
            · rw [if_pos c4, if_neg (fun z => z.2.2.elim (fun q => c3 q) (fun q => absurd q ((nle_iff _ _).mpr c4)))]
              exact ih (k + 1) (nI j) n (by omega) (by omega) (Or.inr ⟨j, hj, rfl, hk2⟩)
            · rw [if_neg c4, if_pos ⟨c1, c2', Or.inr ((nlt_iff _ _).mp c4)⟩]
              exact ih (k + 1) (nI k) n (by omega) (by omega) (Or.inr ⟨k, by omega, rfl, c1⟩)
    · rw [if_neg c1, if_pos rfl, if_neg (fun z => c1 z.1)]
      exact ih (k + 1) a n (by omega) (by omega) h
theorem inF7 {X M : SS} (h : Rel X M) (u g day : Int32) : fX5_inForce NN X u g day = some (rI X u g day, X) := by
  obtain ⟨h1, h1b, h1m⟩ := r3 h
  exact if7 h1 h1b (sz X 3) 0 (-1) NN (by omega) (by unfold NN; omega) (Or.inl rfl)
theorem inF8 {X M : SS} (h : Rel X M) (u g day : Int32) : fX8_ruleOf NN M u g day = some (rI X u g day, M) := by
  obtain ⟨h1, h1b, h1m⟩ := r3 h
  exact if8 h1m h1b (ra h 15 (by decide)) (ra h 16 (by decide)) (sz X 3) 0 (-1) NN (by omega) (by unfold NN; omega) (Or.inl rfl)
set_option maxHeartbeats 4000000 in
theorem st_force : St3 Rel fX7_force fX8_force := by
  intro X M h a b d
  unfold fX7_force fX8_force fX7_force_b21 fX8_force_b21
  simp only [uni7, uni8, gra7, gra8, day7, day8, b2_s, bI_0, fd7_1, fd8_1, fd7_2, fd8_2, inF7 h, inF8 h]
  by_cases c1 : 0 ≤ a ∧ a ≤ 2
  · by_cases c2 : 1 ≤ b ∧ b ≤ 10
    · by_cases c3 : 0 ≤ d ∧ d ≤ 30000
      · simp only [c1, c2, c3, and_self, not_true_eq_false, if_false]
        by_cases c4 : 0 ≤ rI X a b d
        · rw [if_pos c4, if_pos c4]
          exact ⟨_, _, _, rfl, rfl, h⟩
        · rw [if_neg c4, if_neg c4]
          exact ⟨_, _, _, rfl, rfl, rel_fnd 2 h⟩
      · simp only [c1, c2, c3, and_self, not_true_eq_false, not_false_eq_true, if_false, if_true]
        exact ⟨_, _, _, rfl, rfl, rel_fnd 1 h⟩
    · simp only [c1, c2, and_self, not_true_eq_false, not_false_eq_true, if_false, if_true]
      exact ⟨_, _, _, rfl, rfl, rel_fnd 1 h⟩
  · simp only [c1, not_false_eq_true, if_true]
    exact ⟨_, _, _, rfl, rfl, rel_fnd 1 h⟩
/-- one of d from k on is x -/
def anyW (f : Nat → Int32) (x : Int32) : Nat → Nat → Bool
  | 0, _ => false
  | d + 1, k => decide (f k = x) || anyW f x d (k + 1)
theorem wt7 {N : Nat} {X : SS} {x : Int32} (h6 : X.1 6 = nI (sz X 6)) (h6b : sz X 6 ≤ 4) : ∀ d k n, k + d = sz X 6 → d < n → fX1_holds_b2 N n X x (nI k) = some (bI (anyW (X.2 33) x d k = true), X) := by
  intro d
  induction d with
  | zero =>
    intro k n hk hn
    obtain ⟨n, rfl⟩ : ∃ m, n = m + 1 := ⟨n - 1, by omega⟩
    rw [fX1_holds_b2, h6, if_pos (nI_le (by omega) (by omega))]
    rfl
  | succ d ih =>
    intro k n hk hn
    obtain ⟨n, rfl⟩ : ∃ m, n = m + 1 := ⟨n - 1, by omega⟩
    rw [fX1_holds_b2, h6, if_neg (n_nle (by omega) (by omega)), gA_n (by omega) (by decide), bb_s, n1]
    by_cases c : X.2 33 k = x
    · rw [if_pos c, bI_t (by simp [anyW, c])]; rfl
    · rw [if_neg c, ih (k + 1) n (by omega) (by omega), bI_c (p := anyW (X.2 33) x d (k + 1) = true) (q := anyW (X.2 33) x (d + 1) k = true) (by simp [anyW, c])]
theorem wt8 {N : Nat} {M : SS} {x : Int32} {w : Nat} (h6 : M.1 5 = nI w) (h6b : w ≤ 4) : ∀ d k n, k + d = w → d < n → fX8_wait_b17 N n M x (nI k) = if anyW (M.2 22) x d k = true then fX8_wait_b35 N M else fX8_wait_b48 N M x := by
  intro d
  induction d with
  | zero =>
    intro k n hk hn
    obtain ⟨n, rfl⟩ : ∃ m, n = m + 1 := ⟨n - 1, by omega⟩
    rw [fX8_wait_b17, h6, if_pos (nI_le (by omega) (by omega))]
    rfl
  | succ d ih =>
    intro k n hk hn
    obtain ⟨n, rfl⟩ : ∃ m, n = m + 1 := ⟨n - 1, by omega⟩
    rw [fX8_wait_b17, h6, if_neg (n_nle (by omega) (by omega)), gA_n (by omega) (by decide), bb_s, n1]
    by_cases c : M.2 22 k = x
    · rw [if_pos c, if_pos (by simp [anyW, c])]
    · rw [if_neg c, ih (k + 1) n (by omega) (by omega)]
      simp [anyW, c]
theorem rel_wait {X M : SS} {p : Nat} (h : Rel X M) (hp : p < sz X 1) (h4 : sz X 6 < 4) : Rel (pI (pI (setA X 33 (sz X 6) (nI p)) 6 (nI (sz X 6 + 1))) 7 0) (pI (pI (setA M 22 (sz X 6) (nI p)) 5 (nI (sz X 6 + 1))) 6 0) := by
  obtain ⟨a1, a2, a3, a4, a5, a6, a7, a8, a9, a10, a11, a12⟩ := h
  have e6 : sz (pI (pI (setA X 33 (sz X 6) (nI p)) 6 (nI (sz X 6 + 1))) 7 0) 6 = sz X 6 + 1 := by
    rw [sz_pIo (by decide), sz_pIs (by omega)]
  refine ⟨RS_pI (k := 7) (RS_pI (k := 6) (RS_set a1) (by decide)) (by decide), RA_pI (RA_pI (RA_set (q := 33) a2 (by decide))), a3, ?_, ⟨a5.1, a5.2.1, a5.2.2.1, a5.2.2.2.1, a5.2.2.2.2.1, a5.2.2.2.2.2.1, ⟨?_, ?_⟩, a5.2.2.2.2.2.2.2.1, Or.inl rfl⟩, a6, ?_, a8, a9, a10, ?_, a12⟩
  · intro z
    exact absurd z (by show ¬ ((0 : Int32) = 1); decide)
  · rw [e6]; rfl
  · rw [e6]; omega
  · refine InvC_p (InvC_p ?_ (by decide) (by decide)) (by decide) (by decide)
    unfold InvC
    rw [exC_cong (Y := setA X 33 (sz X 6) (nI p)) (X := X) (setA_o (by decide))]
    exact a7
  · intro i hi
    rw [e6] at hi
    show ∃ q, q < sz X 1 ∧ (setA X 33 (sz X 6) (nI p)).2 33 i = nI q
    rw [setA_s]
    by_cases c : i = sz X 6
    · exact ⟨p, hp, by rw [c]; exact if_pos rfl⟩
    · obtain ⟨q, h1, h2⟩ := a11 i (by omega)
      exact ⟨q, h1, by rw [← h2]; exact if_neg c⟩
set_option maxHeartbeats 4000000 in
theorem st_wait : St1 Rel fX7_wait fX8_wait := by
  intro X M h a
  obtain ⟨h1, h1b, h1m⟩ := r1 h
  obtain ⟨h6, h6b, h6m⟩ := r6 h
  have e33 : M.2 22 = X.2 33 := ra h 33 (by decide)
  unfold fX7_wait fX8_wait
  have q7 : fX1_holds NN X a = some (bI (anyW (X.2 33) a (sz X 6) 0 = true), X) := wt7 h6 h6b (sz X 6) 0 NN (by omega) (by unfold NN; omega)
  have q8 : fX8_wait_b17 NN NN M a 0 = _ := wt8 (x := a) h6m h6b (sz X 6) 0 NN (by omega) (by unfold NN; omega)
  simp only [h4, per8 (by omega) h1m, b2_s, bI_0, fd7_1, fd8_1, fd7_3, fd7_4, h1, q7]
  by_cases c1 : 0 ≤ a ∧ a < nI (sz X 1)
  · obtain ⟨p, hp, rfl⟩ := ix_of c1.1 c1.2 (by omega)
    simp only [c1, and_self, not_true_eq_false, if_false]
    rw [q8, e33]
    unfold fX8_wait_b35 fX8_wait_b48
    by_cases c2 : anyW (X.2 33) (nI p) (sz X 6) 0 = true
    · simp only [c2, if_true, not_true_eq_false, if_false, fd8_3, b2_s]
      exact ⟨_, _, _, rfl, rfl, rel_fnd 3 h⟩
    · simp only [c2, if_true, not_false_eq_true, if_false]
      rw [h6, h6m]
      simp only [nlt (n := sz X 6) (m := 4) (by omega) (by decide), neq (n := sz X 6) (m := 4) (by omega) (by decide), fd8_4, b2_s]
      by_cases c3 : sz X 6 = 4
      · simp only [c3, if_true, Nat.lt_irrefl, if_false]
        exact ⟨_, _, _, rfl, rfl, rel_fnd 4 h⟩
      · have c4 : sz X 6 < 4 := by omega
        unfold fX1_add
        simp only [c3, c4, if_true, if_false]
        rw [h6, pA_n (by omega) (by decide), pA_n (by omega) (by decide), bb_s, bb_s, setA_1, setA_1, h6, h6m, n1]
        simp only [pO_s, bb_s]
        rw [pI_o (by decide), pI_s, pI_o (by decide), pI_s]
        exact ⟨_, _, _, rfl, rfl, rel_wait h hp c4⟩
  · simp only [c1, not_false_eq_true, if_true]
    exact ⟨_, _, _, rfl, rfl, rel_fnd 1 h⟩
