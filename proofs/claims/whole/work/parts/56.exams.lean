/-! MARK, MIDDLE, APART, HARD -/
theorem ex7 {N : Nat} {X : SS} {p : Nat} (h : p < 20) : fX4_isExaminer N X (nI p) = some (bI (X.2 10 p = 1), X) := by
  unfold fX4_isExaminer
  rw [gA_n h (by decide), bb_s]
  unfold bI
  split <;> rfl
theorem mx_n {a b : Nat} (ha : a < 2 ^ 31) (hb : b < 2 ^ 31) : mx (nI a) (nI b) = nI (max a b) := by
  unfold mx
  by_cases c : a < b
  · rw [if_pos ((nI_ltI ha hb).mpr c), Nat.max_eq_right (by omega)]
  · rw [if_neg (fun z => c ((nI_ltI ha hb).mp z)), Nat.max_eq_left (by omega)]
theorem m5 (e i : Nat) : nI e * 5 + nI i = nI (5 * e + i) := by
  rw [show (5 : Int32) = nI 5 from rfl, pk_mul, nI_add, Nat.mul_comm]
theorem m5' (e i : Nat) : 5 * nI e + nI i = nI (5 * e + i) := by
  rw [show (5 : Int32) = nI 5 from rfl, pk_mul, nI_add]
/-- the first place from k on, d of them, that holds x; else the place behind them -/
def plF (f : Nat → Int32) (x : Int32) : Nat → Nat → Nat
  | 0, k => k
  | d + 1, k => if f k = x then k else plF f x d (k + 1)
theorem plF_le (f : Nat → Int32) (x : Int32) : ∀ d k, k ≤ plF f x d k ∧ plF f x d k ≤ k + d
  | 0, k => ⟨Nat.le_refl _, Nat.le_refl _⟩
  | d + 1, k => by
    have ih := plF_le f x d (k + 1)
    rw [plF]
    split <;> omega
theorem plF_no (f : Nat → Int32) (x : Int32) : ∀ d k i, k ≤ i → i < plF f x d k → f i ≠ x
  | 0, k, i, h1, h2 => by rw [plF] at h2; omega
  | d + 1, k, i, h1, h2 => by
    rw [plF] at h2
    by_cases c : f k = x
    · rw [if_pos c] at h2; omega
    · rw [if_neg c] at h2
      by_cases e : i = k
      · rw [e]; exact c
      · exact plF_no f x d (k + 1) i (by omega) h2
theorem plF_yes (f : Nat → Int32) (x : Int32) : ∀ d k, plF f x d k < k + d → f (plF f x d k) = x
  | 0, k, h => by rw [plF] at h; omega
  | d + 1, k, h => by
    rw [plF] at h ⊢
    by_cases c : f k = x
    · rw [if_pos c]; exact c
    · rw [if_neg c] at h ⊢
      exact plF_yes f x d (k + 1) (by omega)
theorem pl7 {N : Nat} {X : SS} {e c : Nat} {x : Int32} (he : e < 20) (hc : X.2 38 e = nI c) (hc5 : c ≤ 5) : ∀ d k n, k + d = c → d < n → fX3_placeFor_b2 N n X (nI e) x (nI k) = some (nI (plF (fun i => X.2 39 (5 * e + i)) x d k), X) := by
  intro d
  induction d with
  | zero =>
    intro k n hk hn
    obtain ⟨n, rfl⟩ : ∃ m, n = m + 1 := ⟨n - 1, by omega⟩
    rw [fX3_placeFor_b2, gA_n he (by decide), bb_s, hc, if_pos (nI_le (by omega) (by omega))]
    unfold fX3_placeFor_b34
    rw [gA_n he (by decide), bb_s, hc, plF]
    rw [show c = k by omega]
  | succ d ih =>
    intro k n hk hn
    obtain ⟨n, rfl⟩ : ∃ m, n = m + 1 := ⟨n - 1, by omega⟩
    rw [fX3_placeFor_b2, gA_n he (by decide), bb_s, hc, if_neg (n_nle (by omega) (by omega)), m5, gA_n (by omega) (by decide), bb_s, n1, plF]
    by_cases q : X.2 39 (5 * e + k) = x
    · rw [if_pos q, if_pos q]
    · rw [if_neg q, if_neg q]
      exact ih (k + 1) n (by omega) (by omega)
theorem pl8 {N : Nat} {M : SS} {f : Nat → Int32} {e c : Nat} {x y : Int32} (he : e < 20) (hc : M.2 24 e = nI c) (hf : ∀ i, M.2 25 (5 * e + i) = f i) (hc5 : c ≤ 5) : ∀ d k n, k + d = c → d < n → fX8_mark_b53 N n M (nI e) x y (nI k) = fX8_mark_b85 N M (nI e) x y (nI (plF f x d k)) := by
  intro d
  induction d with
  | zero =>
    intro k n hk hn
    obtain ⟨n, rfl⟩ : ∃ m, n = m + 1 := ⟨n - 1, by omega⟩
    rw [fX8_mark_b53, gA_n he (by decide), bb_s, hc, if_pos (nI_le (by omega) (by omega))]
    rfl
  | succ d ih =>
    intro k n hk hn
    obtain ⟨n, rfl⟩ : ∃ m, n = m + 1 := ⟨n - 1, by omega⟩
    rw [fX8_mark_b53, gA_n he (by decide), bb_s, hc, if_neg (n_nle (by omega) (by omega)), m5', gA_n (by omega) (by decide), bb_s, n1, plF, hf]
    by_cases q : f k = x
    · rw [if_pos q, if_pos q]
    · rw [if_neg q, if_neg q]
      exact ih (k + 1) n (by omega) (by omega)
def kX (X : SS) (a b c e pl ct : Nat) (x y : Int32) : SS := setA (setA (setA X a (5 * e + pl) x) b (5 * e + pl) y) c e (nI ct)
theorem rel_mark {X M : SS} {e c p w : Nat} (h : Rel X M) (he : e < sz X 8) (hc5 : c ≤ 5) (hc : X.2 38 e = nI c) (hw : w ≤ 100) (hpl : plF (fun i => X.2 39 (5 * e + i)) (nI p) c 0 < 5) : Rel (kX X 39 40 38 e (plF (fun i => X.2 39 (5 * e + i)) (nI p) c 0) (max c (plF (fun i => X.2 39 (5 * e + i)) (nI p) c 0 + 1)) (nI p) (nI w)) (kX M 25 26 24 e (plF (fun i => X.2 39 (5 * e + i)) (nI p) c 0) (max c (plF (fun i => X.2 39 (5 * e + i)) (nI p) c 0 + 1)) (nI p) (nI w)) := by
  have b8 := (r8 h).2.1
  obtain ⟨a1, a2, a3, a4, a5, a6, a7, a8, a9, a10, a11, a12⟩ := h
  have g1 := (plF_le (fun i => X.2 39 (5 * e + i)) (nI p) c 0).2
  have g2 := plF_no (fun i => X.2 39 (5 * e + i)) (nI p) c 0
  have g3 := plF_yes (fun i => X.2 39 (5 * e + i)) (nI p) c 0
  generalize plF (fun i => X.2 39 (5 * e + i)) (nI p) c 0 = pl at *
  refine ⟨a1, ?_, a3, a4, a5, a6, ?_, a8, a9, a10, a11, ?_⟩
  · exact RA_set (q := 38) (RA_set (q := 40) (RA_set (q := 39) a2 (by decide)) (by decide)) (by decide)
  · unfold InvC kX
    rw [exC_cong (Y := setA (setA (setA X 39 (5 * e + pl) (nI p)) 40 (5 * e + pl) (nI w)) 38 e (nI (max c (pl + 1)))) (X := X) (by rw [setA_o (by decide), setA_o (by decide), setA_o (by decide)])]
    exact a7
  · have q38 : (kX X 39 40 38 e pl (max c (pl + 1)) (nI p) (nI w)).2 38 = upd (X.2 38) e (nI (max c (pl + 1))) := by
      unfold kX
      rw [setA_s, setA_o (by decide), setA_o (by decide)]
    have q39 : (kX X 39 40 38 e pl (max c (pl + 1)) (nI p) (nI w)).2 39 = upd (X.2 39) (5 * e + pl) (nI p) := by
      unfold kX
      rw [setA_o (by decide), setA_o (by decide), setA_s]
    have q40 : (kX X 39 40 38 e pl (max c (pl + 1)) (nI p) (nI w)).2 40 = upd (X.2 40) (5 * e + pl) (nI w) := by
      unfold kX
      rw [setA_o (by decide), setA_s, setA_o (by decide)]
    intro x hx
    rw [q38, q39, q40]
    show ∃ c_1, c_1 ≤ 5 ∧ upd (X.2 38) e (nI (max c (pl + 1))) x = nI c_1 ∧ (sz X 8 ≤ x → c_1 = 0) ∧ (∀ i, i < c_1 → 0 ≤ (upd (X.2 40) (5 * e + pl) (nI w) (5 * x + i)).toInt ∧ (upd (X.2 40) (5 * e + pl) (nI w) (5 * x + i)).toInt ≤ 100) ∧ ∀ i j, i < c_1 → j < c_1 → upd (X.2 39) (5 * e + pl) (nI p) (5 * x + i) = upd (X.2 39) (5 * e + pl) (nI p) (5 * x + j) → i = j
    obtain ⟨c', h1, h2, h3, h4, h5⟩ := a12 x hx
    by_cases cx : x = e
    · subst cx
      have ec : c' = c := by
        rw [hc] at h2
        exact ((nI_eq (by omega) (by omega)).mp h2).symm
      subst ec
      refine ⟨max c' (pl + 1), by omega, if_pos rfl, fun z => by omega, ?_, ?_⟩
      · intro i hi
        by_cases d : i = pl
        · rw [show upd (X.2 40) (5 * x + pl) (nI w) (5 * x + i) = nI w from if_pos (by omega), nI_toInt (by omega)]
          omega
        · rw [show upd (X.2 40) (5 * x + pl) (nI w) (5 * x + i) = X.2 40 (5 * x + i) from if_neg (by omega)]
          exact h4 i (by omega)
      · intro i j hi hj hij
        by_cases d : i = pl
        · by_cases d2 : j = pl
          · omega
          · rw [show upd (X.2 39) (5 * x + pl) (nI p) (5 * x + i) = nI p from if_pos (by omega), show upd (X.2 39) (5 * x + pl) (nI p) (5 * x + j) = X.2 39 (5 * x + j) from if_neg (by omega)] at hij
            by_cases d3 : j < pl
            · exact absurd hij.symm (g2 j (by omega) d3)
            · have hplc : pl < c' := by omega
              have := h5 pl j hplc (by omega) ((g3 (by omega)).trans hij)
              omega
        · by_cases d2 : j = pl
          · rw [show upd (X.2 39) (5 * x + pl) (nI p) (5 * x + i) = X.2 39 (5 * x + i) from if_neg (by omega), show upd (X.2 39) (5 * x + pl) (nI p) (5 * x + j) = nI p from if_pos (by omega)] at hij
            by_cases d3 : i < pl
            · exact absurd hij (g2 i (by omega) d3)
            · have hplc : pl < c' := by omega
              have := h5 pl i hplc (by omega) ((g3 (by omega)).trans hij.symm)
              omega
          · rw [show upd (X.2 39) (5 * x + pl) (nI p) (5 * x + i) = X.2 39 (5 * x + i) from if_neg (by omega), show upd (X.2 39) (5 * x + pl) (nI p) (5 * x + j) = X.2 39 (5 * x + j) from if_neg (by omega)] at hij
            exact h5 i j (by omega) (by omega) hij
    · refine ⟨c', h1, (if_neg cx).trans h2, h3, ?_, ?_⟩
      · intro i hi
        rw [show upd (X.2 40) (5 * e + pl) (nI w) (5 * x + i) = X.2 40 (5 * x + i) from if_neg (by omega)]
        exact h4 i hi
      · intro i j hi hj hij
        rw [show upd (X.2 39) (5 * e + pl) (nI p) (5 * x + i) = X.2 39 (5 * x + i) from if_neg (by omega), show upd (X.2 39) (5 * e + pl) (nI p) (5 * x + j) = X.2 39 (5 * x + j) from if_neg (by omega)] at hij
        exact h5 i j hi hj hij
set_option maxHeartbeats 4000000 in
theorem st_mark : St3 Rel fX7_mark fX8_mark := by
  intro X M h a b d
  obtain ⟨h1, h1b, h1m⟩ := r1 h
  obtain ⟨h8, h8b, h8m⟩ := r8 h
  unfold fX7_mark fX8_mark fX7_mark_b35 fX8_mark_b26
  simp only [h3, h4, exa8 (by omega) h8m, per8 (by omega) h1m, w7, w8, b2_s, bI_0, fd7_1, fd8_1, fd7_4, fd7_5, fd8_5, h1, h8]
  by_cases c1 : 0 ≤ a ∧ a < nI (sz X 8)
  rotate_left
  · simp only [c1, not_false_eq_true, if_true]
    exact ⟨_, _, _, rfl, rfl, rel_fnd 1 h⟩
  by_cases c2 : 0 ≤ b ∧ b < nI (sz X 1)
  rotate_left
  · simp only [c1, c2, and_self, not_true_eq_false, not_false_eq_true, if_true, if_false]
    exact ⟨_, _, _, rfl, rfl, rel_fnd 1 h⟩
  by_cases c3 : 0 ≤ d ∧ d ≤ 100
  rotate_left
  · simp only [c1, c2, c3, and_self, not_true_eq_false, not_false_eq_true, if_true, if_false]
    exact ⟨_, _, _, rfl, rfl, rel_fnd 1 h⟩
  obtain ⟨e, he, rfl⟩ := ix_of c1.1 c1.2 (by omega)
  obtain ⟨p, hp, rfl⟩ := ix_of c2.1 c2.2 (by omega)
  obtain ⟨w, hw, rfl⟩ := ix_le (n := 100) rfl c3.1 c3.2
  simp only [c1, c2, c3, and_self, not_true_eq_false, if_false]
  rw [ex7 (by omega), b2_s, gA_n (by omega) (by decide), bb_s, show M.2 1 = X.2 10 from ra h 10 (by decide)]
  simp only [bI_0]
  by_cases c4 : X.2 10 p = 1
  rotate_left
  · simp only [c4, not_false_eq_true, if_true, if_false]
    exact ⟨_, _, _, rfl, rfl, rel_fnd 5 h⟩
  simp only [c4, not_true_eq_false, if_true, if_false]
  obtain ⟨c, g1, g2, g3, g4, g5⟩ := h.2.2.2.2.2.2.2.2.2.2.2 e (by omega)
  have e38 : M.2 24 = X.2 38 := ra h 38 (by decide)
  have e39 : M.2 25 = X.2 39 := ra h 39 (by decide)
  have t7 : fX3_placeFor NN X (nI e) (nI p) = _ := pl7 (N := NN) (x := nI p) (by omega) g2 g1 c 0 NN (by omega) (by unfold NN; omega)
  have t8 := pl8 (N := NN) (M := M) (x := nI p) (y := nI w) (f := fun i => X.2 39 (5 * e + i)) (by omega) ((congrFun e38 e).trans g2) (fun i => congrFun e39 _) g1 c 0 NN (by omega) (by unfold NN; omega)
  rw [t7, b2_s, show (0 : Int32) = nI 0 from rfl, t8]
  have hr := rel_mark (p := p) (w := w) h he g1 g2 hw
  have k1 := (plF_le (fun i => X.2 39 (5 * e + i)) (nI p) c 0).2
  generalize plF (fun i => X.2 39 (5 * e + i)) (nI p) c 0 = pl at *
  unfold fX8_mark_b85
  simp only [nlt (n := pl) (m := 5) (by omega) (by decide), neq (n := pl) (m := 5) (by omega) (by decide)]
  by_cases c5 : pl = 5
  · simp only [c5, Nat.lt_irrefl, if_true, if_false, fd8_4, b2_s]
    exact ⟨_, _, _, rfl, rfl, rel_fnd 4 h⟩
  · have c6 : pl < 5 := by omega
    simp only [c5, c6, if_true, if_false]
    unfold fX3_put
    have s7 : (setA (setA X 39 (5 * e + pl) (nI p)) 40 (5 * e + pl) (nI w)).2 38 e = nI c := by
      rw [setA_o (by decide), setA_o (by decide)]; exact g2
    have s8 : (setA (setA M 25 (5 * e + pl) (nI p)) 26 (5 * e + pl) (nI w)).2 24 e = nI c := by
      rw [setA_o (by decide), setA_o (by decide), e38]; exact g2
    rw [m5, m5', pA_n (by omega) (by decide), bb_s, pA_n (by omega) (by decide), bb_s, gA_n (by omega) (by decide), bb_s, s7, n1, mx_n (by omega) (by omega), pA_n (by omega) (by decide), bb_s, gA_n (by omega) (by decide), bb_s, b2_s]
    rw [pA_n (by omega) (by decide), bb_s, pA_n (by omega) (by decide), bb_s, gA_n (by omega) (by decide), bb_s, s8, mx_n (by omega) (by omega), pA_n (by omega) (by decide), bb_s, gA_n (by omega) (by decide), bb_s]
    refine ⟨_, _, _, rfl, ?_, hr c6⟩
    rw [setA_s, setA_s]
    exact congrArg some (Prod.ext ((if_pos rfl).trans (if_pos rfl).symm) rfl)
