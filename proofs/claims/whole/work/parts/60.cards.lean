/-! HAS, STANDS, STRIKE, CHECK -/
theorem cnt7 {N : Nat} {X : SS} {k : Nat} {p day : Int32} (hk : k < 60) : fX2_counts N X (nI k) p day = some (bI (X.2 23 k = p ∧ X.2 26 k ≤ day ∧ ¬ X.2 28 k = 0), X) := by
  unfold fX2_counts
  rw [gA_n hk (by decide), bb_s, gA_n hk (by decide), bb_s, gA_n hk (by decide), bb_s]
  by_cases c1 : X.2 23 k = p
  · rw [if_pos c1]
    by_cases c2 : day < X.2 26 k
    · rw [if_pos c2, bI_f (fun z => (nle_iff _ _).mpr c2 z.2.1)]; rfl
    · rw [if_neg c2]
      by_cases c3 : X.2 28 k = 0
      · rw [if_pos c3, bI_f (fun z => z.2.2 c3)]; rfl
      · rw [if_neg c3, bI_t ⟨c1, (nlt_iff _ _).mp c2, c3⟩]; rfl
  · rw [if_neg c1, bI_f (fun z => c1 z.1)]; rfl
theorem ho_both {X M : SS} {p day : Int32} {u : Nat} (h : Rel X M) (hs : Sd X M) (hu : u < 3) : ∀ d k w n, k + d = sz X 4 → d < n → w ≤ 10 → ∃ v, v ≤ 10 ∧ fX2_heldOn_b6 NN n X p (nI u) day (nI w) (nI k) = some (nI v, X) ∧ fX8_hasOf_b6 NN n M p (nI u) day (nI w) (nI k) = some (nI v, M) := by
  obtain ⟨h4, h4b, h4m⟩ := r4 h
  have e23 : M.2 14 = X.2 23 := ra h 23 (by decide)
  have e24 : M.2 15 = X.2 24 := ra h 24 (by decide)
  have e25 : M.2 16 = X.2 25 := ra h 25 (by decide)
  have e26 : M.2 17 = X.2 26 := ra h 26 (by decide)
  intro d
  induction d with
  | zero =>
    intro k w n hk hn hw
    obtain ⟨n, rfl⟩ : ∃ m, n = m + 1 := ⟨n - 1, by omega⟩
    rw [fX2_heldOn_b6, fX8_hasOf_b6, h4, h4m, if_pos (nI_le (by omega) (by omega)), if_pos (nI_le (by omega) (by omega))]
    exact ⟨w, hw, rfl, rfl⟩
  | succ d ih =>
    intro k w n hk hn hw
    obtain ⟨n, rfl⟩ : ∃ m, n = m + 1 := ⟨n - 1, by omega⟩
    obtain ⟨j1, j2, j3, j4, j5, j6, j7⟩ := ent_ok h.2.2.2.2.2.2.2.2.1 (r1 h).2.1 (show k < sz X 4 by omega)
    rw [fX2_heldOn_b6, fX8_hasOf_b6, h4, h4m, if_neg (n_nle (by omega) (by omega)), if_neg (n_nle (by omega) (by omega)), cnt7 (by omega), b2_s, gA_n (by omega) (by decide), bb_s, gA_n (by omega) (by decide), bb_s, gA_n (by omega) (by decide), bb_s, gA_n (by omega) (by decide), bb_s, gA_n (by omega) (by decide), bb_s, gA_n (by omega) (by decide), bb_s, gA_n (by omega) (by decide), bb_s, hs k (by omega), e23, e24, e25, e26, j3, j5, cnt8 h hu j4 j6 j7, b2_s, n1]
    unfold fX2_value
    rw [wi7, gA_n (by omega) (by decide), bb_s, b2_s]
    obtain ⟨_, w2, hw2, ew2⟩ := h.2.2.1 u (un X k) (gr X k) hu j4 j6 j7
    rw [ew2, mx_n (by omega) (by omega)]
    by_cases c3 : X.2 28 k = 0
    · rw [if_pos (bI_f (fun z => z.2.2 c3)), if_pos c3]
      exact ih (k + 1) w n (by omega) (by omega) hw
    · rw [if_neg c3]
      by_cases c1 : X.2 23 k = p
      · rw [if_pos c1]
        by_cases c2 : day < X.2 26 k
        · rw [if_pos (bI_f (fun z => (nle_iff _ _).mpr c2 z.2.1)), if_pos c2]
          exact ih (k + 1) w n (by omega) (by omega) hw
        · rw [if_neg (by rw [bI_t ⟨c1, (nlt_iff _ _).mp c2, c3⟩]; decide), if_neg c2]
          exact ih (k + 1) (max w w2) n (by omega) (by omega) (by omega)
      · rw [if_pos (bI_f (fun z => c1 z.1)), if_neg c1]
        exact ih (k + 1) w n (by omega) (by omega) hw
theorem held {X M : SS} (h : Rel X M) (hs : Sd X M) (p day : Int32) {u : Nat} (hu : u < 3) : ∃ v, v ≤ 10 ∧ fX2_heldOn NN X p (nI u) day = some (nI v, X) ∧ fX8_hasOf NN M p (nI u) day = some (nI v, M) := by
  have := (r4 h).2.1
  exact ho_both (p := p) (day := day) h hs hu (sz X 4) 0 0 NN (by omega) (by unfold NN; omega) (by omega)
set_option maxHeartbeats 4000000 in
theorem st_has : St4 Rel fX7_has fX8_has := by
  intro X M h a b c d
  obtain ⟨h1, h1b, h1m⟩ := r1 h
  unfold fX7_has fX8_has fX7_has_b36 fX8_has_b30
  simp only [h4, per8 (by omega) h1m, uni7, uni8, day7, day8, b2_s, bI_0, fd7_1, fd8_1, h1]
  by_cases c1 : 0 ≤ a ∧ a < nI (sz X 1)
  rotate_left
  · simp only [c1, not_false_eq_true, if_true]
    exact ⟨_, _, _, rfl, rfl, rel_fnd 1 h⟩
  by_cases c2 : 0 ≤ b ∧ b ≤ 2
  rotate_left
  · simp only [c1, c2, and_self, not_true_eq_false, not_false_eq_true, if_true, if_false]
    exact ⟨_, _, _, rfl, rfl, rel_fnd 1 h⟩
  by_cases c3 : 0 ≤ c ∧ c ≤ 30000
  rotate_left
  · simp only [c1, c2, c3, and_self, not_true_eq_false, not_false_eq_true, if_true, if_false]
    exact ⟨_, _, _, rfl, rfl, rel_fnd 1 h⟩
  by_cases c4 : 0 ≤ d ∧ d ≤ 30000
  rotate_left
  · simp only [c1, c2, c3, c4, and_self, not_true_eq_false, not_false_eq_true, if_true, if_false]
    exact ⟨_, _, _, rfl, rfl, rel_fnd 1 h⟩
  obtain ⟨u, hu, rfl⟩ := ix_le (n := 2) rfl c2.1 c2.2
  obtain ⟨X', M', k1, k2, k3, k4, _⟩ := know_both h d
  obtain ⟨v, _, v1, v2⟩ := held k3 k4 a c (u := u) (by omega)
  simp only [c1, c2, c3, c4, and_self, not_true_eq_false, if_false, k1, k2, bb_s, v1, v2, b2_s]
  exact ⟨_, _, _, rfl, rfl, k3⟩
set_option maxHeartbeats 4000000 in
theorem st_stands : St2 Rel fX7_stands fX8_stands := by
  intro X M h a b
  obtain ⟨h1, h1b, h1m⟩ := r4 h
  unfold fX7_stands fX8_stands fX7_stands_b21 fX8_stands_b21
  simp only [h2, win8 (by omega) h1m, day7, day8, b2_s, bI_0, fd7_1, fd8_1, h1]
  by_cases c1 : 0 ≤ a ∧ a < nI (sz X 4)
  rotate_left
  · simp only [c1, not_false_eq_true, if_true]
    exact ⟨_, _, _, rfl, rfl, rel_fnd 1 h⟩
  by_cases c2 : 0 ≤ b ∧ b ≤ 30000
  rotate_left
  · simp only [c1, c2, and_self, not_true_eq_false, not_false_eq_true, if_true, if_false]
    exact ⟨_, _, _, rfl, rfl, rel_fnd 1 h⟩
  obtain ⟨e, he, rfl⟩ := ix_of c1.1 c1.2 (by omega)
  obtain ⟨X', M', k1, k2, k3, k4, k5, _⟩ := know_both h b
  have es : sz X' 4 = sz X 4 := by unfold sz; rw [k5]
  simp only [c1, c2, and_self, not_true_eq_false, if_false, k1, k2, bb_s]
  rw [gA_n (by omega) (by decide), gA_n (by omega) (by decide), bb_s, bb_s, k4 e (by omega)]
  by_cases z : X'.2 28 e = 0
  · rw [if_pos z, if_pos z]
    exact ⟨_, _, _, rfl, rfl, k3⟩
  · rw [if_neg z, if_neg z]
    exact ⟨_, _, _, rfl, rfl, k3⟩
theorem sl_both {X M : SS} (h : Rel X M) (hs : Sd X M) : ∀ d e acc n, e + d = sz X 4 → d < n → ∃ r, fX2_standingAtLast_b11 NN n X acc (nI e) = some (r, X) ∧ fX8_standing_b11 NN n M acc (nI e) = some (r, M) := by
  obtain ⟨h4, h4b, h4m⟩ := r4 h
  intro d
  induction d with
  | zero =>
    intro e acc n hk hn
    obtain ⟨n, rfl⟩ : ∃ m, n = m + 1 := ⟨n - 1, by omega⟩
    rw [fX2_standingAtLast_b11, fX8_standing_b11, h4, h4m, if_pos (nI_le (by omega) (by omega)), if_pos (nI_le (by omega) (by omega))]
    exact ⟨_, rfl, rfl⟩
  | succ d ih =>
    intro e acc n hk hn
    obtain ⟨n, rfl⟩ : ∃ m, n = m + 1 := ⟨n - 1, by omega⟩
    rw [fX2_standingAtLast_b11, fX8_standing_b11, h4, h4m, if_neg (n_nle (by omega) (by omega)), if_neg (n_nle (by omega) (by omega)), gA_n (by omega) (by decide), gA_n (by omega) (by decide), bb_s, bb_s, hs e (by omega), i_z, n1]
    by_cases c : X.2 28 e = 0
    · rw [if_pos c, if_pos c]
      exact ih (e + 1) acc n (by omega) (by omega)
    · rw [if_neg c, if_neg c]
      exact ih (e + 1) (acc + 1) n (by omega) (by omega)
theorem last_both {X M : SS} (h : Rel X M) : ∃ r X' M', fX2_standingAtLast NN X = some (r, X') ∧ fX8_standing NN M = some (r, M') ∧ Rel X' M' ∧ X'.1 = X.1 ∧ M'.1 = M.1 := by
  have hb := (r4 h).2.1
  obtain ⟨X', M', k1, k2, k3, k4, k5, k6, _⟩ := know_both h 30000
  have es : sz X' 4 = sz X 4 := by unfold sz; rw [k5]
  obtain ⟨r, t1, t2⟩ := sl_both k3 k4 (sz X' 4) 0 (nI 0) NN (by omega) (by unfold NN; omega)
  refine ⟨r, X', M', ?_, ?_, k3, k5, k6⟩
  · unfold fX2_standingAtLast
    rw [k1, bb_s]
    exact t1
  · unfold fX8_standing
    rw [k2, bb_s]
    exact t2
theorem rel_strike {X M : SS} {p : Nat} {a b : Int32} (h : Rel X M) (hp : p < sz X 1) (h5 : sz X 5 < 20) : Rel (pI (setA (setA (setA X 30 (sz X 5) (nI p)) 31 (sz X 5) a) 32 (sz X 5) b) 5 (nI (sz X 5 + 1))) (pI (setA (setA (setA M 19 (sz X 5) (nI p)) 20 (sz X 5) a) 21 (sz X 5) b) 4 (nI (sz X 5 + 1))) := by
  obtain ⟨a1, a2, a3, a4, a5, a6, a7, a8, a9, a10, a11, a12⟩ := h
  have s5 : sz (pI (setA (setA (setA X 30 (sz X 5) (nI p)) 31 (sz X 5) a) 32 (sz X 5) b) 5 (nI (sz X 5 + 1))) 5 = sz X 5 + 1 := sz_pIs (by omega)
  refine ⟨RS_pI (k := 5) a1 (by decide), ?_, a3, a4, ⟨a5.1, a5.2.1, a5.2.2.1, a5.2.2.2.1, a5.2.2.2.2.1, ⟨?_, ?_⟩, a5.2.2.2.2.2.2⟩, a6, ?_, a8, a9, ?_, a11, a12⟩
  · exact RA_set (q := 32) (RA_set (q := 31) (RA_set (q := 30) a2 (by decide)) (by decide)) (by decide)
  · rw [s5]; rfl
  · rw [s5]; omega
  · refine InvC_p ?_ (by decide) (by decide)
    unfold InvC
    rw [exC_cong (Y := setA (setA (setA X 30 (sz X 5) (nI p)) 31 (sz X 5) a) 32 (sz X 5) b) (X := X) (by rw [setA_o (by decide), setA_o (by decide), setA_o (by decide)])]
    exact a7
  · intro s hs
    rw [s5] at hs
    show ∃ q, q < sz X 1 ∧ (setA (setA (setA X 30 (sz X 5) (nI p)) 31 (sz X 5) a) 32 (sz X 5) b).2 30 s = nI q
    rw [setA_o (by decide), setA_o (by decide), setA_s]
    by_cases c : s = sz X 5
    · exact ⟨p, hp, by rw [c]; exact if_pos rfl⟩
    · obtain ⟨q, q1, q2⟩ := a10 s (by omega)
      exact ⟨q, q1, (if_neg c).trans q2⟩
set_option maxHeartbeats 4000000 in
theorem st_strike : St3 Rel fX7_strike fX8_strike := by
  intro X M h a b c
  obtain ⟨h1, h1b, h1m⟩ := r1 h
  obtain ⟨h5, h5b, h5m⟩ := r5 h
  unfold fX7_strike fX8_strike fX7_strike_b28 fX8_strike_b22
  simp only [h4, per8 (by omega) h1m, day7, day8, b2_s, bI_0, fd7_1, fd8_1, fd7_4, fd8_4, fd7_5, fd8_5, h1]
  by_cases c1 : 0 ≤ a ∧ a < nI (sz X 1)
  rotate_left
  · simp only [c1, not_false_eq_true, if_true]
    exact ⟨_, _, _, rfl, rfl, rel_fnd 1 h⟩
  by_cases c2 : 0 ≤ b ∧ b ≤ 30000
  rotate_left
  · simp only [c1, c2, and_self, not_true_eq_false, not_false_eq_true, if_true, if_false]
    exact ⟨_, _, _, rfl, rfl, rel_fnd 1 h⟩
  by_cases c3 : 0 ≤ c ∧ c ≤ 30000
  rotate_left
  · simp only [c1, c2, c3, and_self, not_true_eq_false, not_false_eq_true, if_true, if_false]
    exact ⟨_, _, _, rfl, rfl, rel_fnd 1 h⟩
  obtain ⟨p, hp, rfl⟩ := ix_of c1.1 c1.2 (by omega)
  simp only [c1, c2, c3, and_self, not_true_eq_false, if_false]
  rw [ex7 (by omega), b2_s, gA_n (by omega) (by decide), bb_s, show M.2 1 = X.2 10 from ra h 10 (by decide)]
  simp only [bI_0]
  by_cases c4 : X.2 10 p = 1
  rotate_left
  · simp only [c4, not_false_eq_true, if_true, if_false]
    exact ⟨_, _, _, rfl, rfl, rel_fnd 5 h⟩
  simp only [c4, not_true_eq_false, if_true, if_false]
  rw [h5, h5m]
  simp only [nlt (n := sz X 5) (m := 20) (by omega) (by decide), neq (n := sz X 5) (m := 20) (by omega) (by decide)]
  by_cases c5 : sz X 5 = 20
  · simp only [c5, Nat.lt_irrefl, if_true, if_false]
    exact ⟨_, _, _, rfl, rfl, rel_fnd 4 h⟩
  have c6 : sz X 5 < 20 := by omega
  simp only [c5, c6, if_true, if_false]
  obtain ⟨r, X', M', t1, t2, t3, t4, t5⟩ := last_both h
  have e1 : sz X' 1 = sz X 1 := by unfold sz; rw [t4]
  have e5 : sz X' 5 = sz X 5 := by unfold sz; rw [t4]
  rw [t1, t2, b2_s, b2_s]
  unfold fX6_add
  simp only [setA_1, t4, t5, h5, h5m, pA_n (n := 20) (k := sz X 5) c6 (by decide), bb_s, n1, pO_s]
  have hr := rel_strike (p := p) (a := b) (b := c) t3 (by omega) (by omega)
  rw [e5] at hr
  obtain ⟨r2, X2, M2, u1, u2, u3, _⟩ := last_both hr
  rw [u1, u2, b2_s, b2_s]
  exact ⟨_, _, _, rfl, rfl, u3⟩
theorem ck_both {X M : SS} {w : Nat} (h : Rel X M) (hs : Sd X M) (hw : w ≤ 20) : ∀ d e t n, e + d = sz X 4 → d < n → t ≤ e → ∃ r, fX7_check_b40 NN n X (nI w) (nI t) (nI e) = some (r, X) ∧ fX8_check_b34 NN n M (nI w) (nI t) (nI e) = some (r, M) := by
  obtain ⟨h4, h4b, h4m⟩ := r4 h
  have e8 : M.2 27 = X.2 8 := ra h 8 (by decide)
  intro d
  induction d with
  | zero =>
    intro e t n hk hn ht
    obtain ⟨n, rfl⟩ : ∃ m, n = m + 1 := ⟨n - 1, by omega⟩
    rw [fX7_check_b40, fX8_check_b34, h4, h4m, if_pos (nI_le (by omega) (by omega)), if_pos (nI_le (by omega) (by omega))]
    unfold fX7_check_b100 fX8_check_b82
    by_cases c : nI w ≤ nI t
    · rw [if_pos c, if_pos c]
      exact ⟨_, rfl, rfl⟩
    · rw [if_neg c, if_neg c]
      exact ⟨_, rfl, rfl⟩
  | succ d ih =>
    intro e t n hk hn ht
    obtain ⟨n, rfl⟩ : ∃ m, n = m + 1 := ⟨n - 1, by omega⟩
    have hne : ¬ nI (sz X 4) ≤ nI e := n_nle (by omega) (by omega)
    rw [fX7_check_b40, fX8_check_b34, h4, h4m, if_neg hne, if_neg hne, gA_n (S := X) (q := 28) (k := e) (by omega) (by decide), gA_n (S := M) (q := 29) (k := e) (by omega) (by decide), bb_s, bb_s, hs e (by omega), n1, n1]
    by_cases c : X.2 28 e = 0
    · rw [if_pos c, if_pos c]
      exact ih (e + 1) t n (by omega) (by omega) (by omega)
    · rw [if_neg c, if_neg c]
      by_cases c2 : w ≤ t
      · rw [if_pos (nI_le c2 (by omega)), if_pos (nI_le c2 (by omega))]
        exact ⟨_, rfl, rfl⟩
      · rw [if_neg (n_nle (by omega) (by omega)), if_neg (n_nle (by omega) (by omega)), gA_n (by omega) (by decide), gA_n (by omega) (by decide), bb_s, bb_s, e8]
        by_cases c3 : X.2 8 t = nI e
        · rw [if_pos c3, if_pos c3]
          exact ih (e + 1) (t + 1) n (by omega) (by omega) (by omega)
        · rw [if_neg c3, if_neg c3]
          exact ⟨_, rfl, rfl⟩
set_option maxHeartbeats 4000000 in
theorem st_check : St1 Rel fX7_check fX8_check := by
  intro X M h a
  obtain ⟨h0, h0b, h0m⟩ := r0 h
  have hr : Rel (pI X 0 (nI 0)) (pI M 8 (nI 0)) := rel_p0 h (by omega)
  unfold fX7_check fX8_check
  simp only [pO_s, bb_s, day7, day8, b2_s, bI_0, fd7_1, fd8_1]
  by_cases c1 : 0 ≤ a ∧ a ≤ 30000
  rotate_left
  · simp only [c1, not_false_eq_true, if_true]
    exact ⟨_, _, _, rfl, rfl, rel_fnd 1 hr⟩
  simp only [c1, and_self, not_true_eq_false, if_false]
  obtain ⟨X', M', k1, k2, k3, k4, k5, k6, _⟩ := know_both hr a
  have hb := (r4 k3).2.1
  obtain ⟨r, t1, t2⟩ := ck_both k3 k4 h0b (sz X' 4) 0 0 NN (by omega) (by unfold NN; omega) (by omega)
  rw [show pI X 0 0 = pI X 0 (nI 0) from rfl, show pI M 8 0 = pI M 8 (nI 0) from rfl, k1, k2, bb_s, bb_s, h0, h0m]
  exact ⟨r, X', M', t1, t2, k3⟩
