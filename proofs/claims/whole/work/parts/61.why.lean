/-! WHY -/
def askP (X : SS) (a b c d : Int32) : Prop := (0 ≤ a ∧ a < nI (sz X 1)) ∧ (0 ≤ b ∧ b ≤ 2) ∧ (1 ≤ c ∧ c ≤ 10) ∧ (0 ≤ d ∧ d ≤ 30000)
theorem ask_row {N : Nat} {S : SS} {p q r t : Prop} [Decidable p] [Decidable q] [Decidable r] [Decidable t] : (if ¬ p then rZ 0 S else if ¬ q then rZ 0 S else if ¬ r then rZ 0 S else if ¬ t then rZ 0 S else rZ 1 S) = some (bI (p ∧ q ∧ r ∧ t), S) := by
  by_cases c1 : p
  · by_cases c2 : q
    · by_cases c3 : r
      · by_cases c4 : t
        · simp only [c1, c2, c3, c4, not_true_eq_false, if_false, rZ_1]; rfl
        · simp only [c1, c2, c3, c4, not_true_eq_false, not_false_eq_true, if_false, if_true, rZ_0]; rfl
      · simp only [c1, c2, c3, not_true_eq_false, not_false_eq_true, if_false, if_true, rZ_0]; rw [bI_f (by simp)]
    · simp only [c1, c2, not_true_eq_false, not_false_eq_true, if_false, if_true, rZ_0]; rw [bI_f (by simp)]
  · simp only [c1, not_false_eq_true, if_true, rZ_0]; rw [bI_f (by simp)]
theorem ask7 {N : Nat} {X : SS} {a b c d : Int32} (h1 : X.1 1 = nI (sz X 1)) : fX7_isAsked N X a b c d = some (bI ((0 ≤ a ∧ a < nI (sz X 1)) ∧ (0 ≤ b ∧ b ≤ 2) ∧ (1 ≤ c ∧ c ≤ 10) ∧ (0 ≤ d ∧ d ≤ 30000)), X) := by
  unfold fX7_isAsked
  simp only [h4, uni7, gra7, day7, b2_s, bI_0, h1]
  exact ask_row (N := N)
theorem ask8 {N : Nat} {M : SS} {w : Nat} {a b c d : Int32} (h1 : M.1 0 = nI w) (hw : w ≤ 20) : fX8_canAsk N M a b c d = some (bI ((0 ≤ a ∧ a < nI w) ∧ (0 ≤ b ∧ b ≤ 2) ∧ (1 ≤ c ∧ c ≤ 10) ∧ (0 ≤ d ∧ d ≤ 30000)), M) := by
  unfold fX8_canAsk
  simp only [per8 (by omega) h1, uni8, gra8, day8, b2_s, bI_0]
  exact ask_row (N := N)
def lgF (f23 f26 f28 : Nat → Int32) (p day : Int32) : Nat → Nat → Int32 → Int32
  | 0, _, a => a
  | d + 1, k, a => if f23 k = p ∧ f26 k ≤ day ∧ ¬ f28 k = 0 then lgF f23 f26 f28 p day d (k + 1) (f26 k) else lgF f23 f26 f28 p day d (k + 1) a
theorem lg7 {N : Nat} {X : SS} {p day : Int32} (h4 : X.1 4 = nI (sz X 4)) (h4b : sz X 4 ≤ 60) : ∀ d k a n, k + d = sz X 4 → d < n → fX2_lastGraded_b5 N n X p day a (nI k) = some (lgF (X.2 23) (X.2 26) (X.2 28) p day d k a, X) := by
  intro d
  induction d with
  | zero =>
    intro k a n hk hn
    obtain ⟨n, rfl⟩ : ∃ m, n = m + 1 := ⟨n - 1, by omega⟩
    rw [fX2_lastGraded_b5, h4, if_pos (nI_le (by omega) (by omega))]
    rfl
  | succ d ih =>
    intro k a n hk hn
    obtain ⟨n, rfl⟩ : ∃ m, n = m + 1 := ⟨n - 1, by omega⟩
    rw [fX2_lastGraded_b5, h4, if_neg (n_nle (by omega) (by omega)), cnt7 (by omega), b2_s, gA_n (by omega) (by decide), bb_s, n1, ih (k + 1) _ n (by omega) (by omega), ih (k + 1) _ n (by omega) (by omega), lgF]
    by_cases c : X.2 23 k = p ∧ X.2 26 k ≤ day ∧ ¬ X.2 28 k = 0
    · rw [if_neg (by rw [bI_t c]; decide), if_pos c]
    · rw [if_pos (bI_f c), if_neg c]
theorem lg8 {X M : SS} {p day r : Int32} (h : Rel X M) (hs : Sd X M) : ∀ d k a n, k + d = sz X 4 → d < n → fX8_whyOf_b99 NN n M p day r a (nI k) = fX8_whyOf_b161 NN M p day r (lgF (X.2 23) (X.2 26) (X.2 28) p day d k a) := by
  obtain ⟨h4, h4b, h4m⟩ := r4 h
  have e23 : M.2 14 = X.2 23 := ra h 23 (by decide)
  have e26 : M.2 17 = X.2 26 := ra h 26 (by decide)
  intro d
  induction d with
  | zero =>
    intro k a n hk hn
    obtain ⟨n, rfl⟩ : ∃ m, n = m + 1 := ⟨n - 1, by omega⟩
    rw [fX8_whyOf_b99, h4m, if_pos (nI_le (by omega) (by omega))]
    rfl
  | succ d ih =>
    intro k a n hk hn
    obtain ⟨n, rfl⟩ : ∃ m, n = m + 1 := ⟨n - 1, by omega⟩
    rw [fX8_whyOf_b99, h4m, if_neg (n_nle (by omega) (by omega)), gA_n (by omega) (by decide), bb_s, hs k (by omega), gA_n (by omega) (by decide), bb_s, gA_n (by omega) (by decide), bb_s, e23, e26, bb_s, n1, ih (k + 1) _ n (by omega) (by omega), ih (k + 1) _ n (by omega) (by omega), lgF]
    by_cases c3 : X.2 28 k = 0
    · rw [if_pos c3, if_neg (fun z => z.2.2 c3)]
    · rw [if_neg c3]
      by_cases c1 : X.2 23 k = p
      · rw [if_pos c1]
        by_cases c2 : day < X.2 26 k
        · rw [if_pos c2, if_neg (fun z => (nle_iff _ _).mpr c2 z.2.1)]
        · rw [if_neg c2, if_pos ⟨c1, (nlt_iff _ _).mp c2, c3⟩]
      · rw [if_neg c1, if_neg (fun z => c1 z.1)]
theorem m8 (p i : Nat) : nI p * 8 + nI i = nI (p * 8 + i) := by rw [show (8 : Int32) = nI 8 from rfl, pk_mul, nI_add]
theorem m8' (p i : Nat) : 8 * nI p + nI i = nI (p * 8 + i) := by rw [show (8 : Int32) = nI 8 from rfl, pk_mul, nI_add, Nat.mul_comm]
theorem mx0_lt (v l : Int32) : (v < mx l 0) ↔ (v < 0 ∨ v < l) := by
  unfold mx
  by_cases c : l < 0
  · rw [if_pos c]
    constructor
    · exact Or.inl
    · rintro (z | z)
      · exact z
      · rw [i_lt] at *; omega
  · rw [if_neg c]
    constructor
    · exact Or.inr
    · rintro (z | z)
      · rw [i_lt] at *; omega
      · exact z
theorem pa_both {X M : SS} {p r : Nat} {last day : Int32} (h : Rel X M) (hp : p < 20) (hr : r < 40) : ∀ d k n, k + d = 8 → d < n → ∃ b : Bool, fX4_passedAll_b3 NN n X (nI p) (X.2 19 r) (mx last 0) day (nI k) = some (bI (b = true), X) ∧ fX8_whyOf_b208 NN n M (nI p) day (nI r) last (nI k) = some ((if b then 0 else 6), M) := by
  have e14 : M.2 5 = X.2 14 := ra h 14 (by decide)
  have e19 : M.2 12 = X.2 19 := ra h 19 (by decide)
  intro d
  induction d with
  | zero =>
    intro k n hk hn
    obtain ⟨n, rfl⟩ : ∃ m, n = m + 1 := ⟨n - 1, by omega⟩
    have c : (8 : Int32) ≤ nI k := (nle (n := k) (m := 8) (by omega) (by decide)).mpr (by omega)
    rw [fX4_passedAll_b3, fX8_whyOf_b208, if_pos c, if_pos c]
    exact ⟨true, rfl, rfl⟩
  | succ d ih =>
    intro k n hk hn
    obtain ⟨n, rfl⟩ : ∃ m, n = m + 1 := ⟨n - 1, by omega⟩
    have c : ¬ (8 : Int32) ≤ nI k := fun z => by have := (nle (n := k) (m := 8) (by omega) (by decide)).mp z; omega
    rw [fX4_passedAll_b3, fX8_whyOf_b208, if_neg c, if_neg c, m8, m8', gA_n (S := X) (q := 14) (by omega) (by decide), gA_n (S := M) (q := 5) (by omega) (by decide), gA_n (S := M) (q := 12) hr (by decide), bb_s, bb_s, bb_s, e14, e19, n1]
    obtain ⟨b, i1, i2⟩ := ih (k + 1) n (by omega) (by omega)
    rw [i1, i2]
    by_cases c1 : (X.2 19 r >>> (nI k &&& 31)) &&& 1 = 0
    · rw [if_pos c1, if_neg (by rw [c1]; decide)]
      exact ⟨b, rfl, rfl⟩
    · rw [if_neg c1, if_pos ((and1_ne _).mp c1)]
      by_cases c2 : X.2 14 (p * 8 + k) < 0
      · rw [if_pos ((mx0_lt _ _).mpr (Or.inl c2)), if_pos c2]
        exact ⟨false, rfl, rfl⟩
      · rw [if_neg c2]
        by_cases c3 : X.2 14 (p * 8 + k) < last
        · rw [if_pos ((mx0_lt _ _).mpr (Or.inr c3))]
          by_cases c4 : day < X.2 14 (p * 8 + k)
          · rw [if_pos c4]
            exact ⟨false, rfl, rfl⟩
          · rw [if_neg c4, if_neg ((nle_iff _ _).mpr c3)]
            exact ⟨false, rfl, rfl⟩
        · rw [if_neg (fun z => ((mx0_lt _ _).mp z).elim c2 c3)]
          by_cases c4 : day < X.2 14 (p * 8 + k)
          · rw [if_pos c4, if_neg ((nle_iff _ _).mpr c4)]
            exact ⟨false, rfl, rfl⟩
          · rw [if_neg c4, if_pos ((nlt_iff _ _).mp c4), if_pos ((nlt_iff _ _).mp c3)]
            exact ⟨b, rfl, rfl⟩
set_option maxHeartbeats 4000000 in
theorem why_both {X M : SS} {p u : Nat} {g day : Int32} (h : Rel X M) (hs : Sd X M) (hp : p < sz X 1) (hu : u < 3) (hd : 0 ≤ day ∧ day ≤ 30000) : ∃ r, fX0_whyNot NN X (nI p) (nI u) g day = some (r, X) ∧ fX8_whyOf NN M (nI p) (nI u) g day = some (r, M) ∧ (r = 0 → 0 ≤ rI X (nI u) g day) := by
  obtain ⟨h1, h1b, h1m⟩ := r1 h
  obtain ⟨h4, h4b, h4m⟩ := r4 h
  have h3b := (r3 h).2.1
  have e10 : M.2 1 = X.2 10 := ra h 10 (by decide)
  have e13 : M.2 4 = X.2 13 := ra h 13 (by decide)
  have e11 : M.2 2 = X.2 11 := ra h 11 (by decide)
  have e18 : M.2 11 = X.2 18 := ra h 18 (by decide)
  have e17 : M.2 10 = X.2 17 := ra h 17 (by decide)
  unfold fX0_whyNot fX8_whyOf
  rw [inF7 h, inF8 h, b2_s, b2_s, gA_n (S := X) (q := 10) (k := p) (by omega) (by decide), gA_n (S := M) (q := 1) (k := p) (by omega) (by decide), bb_s, bb_s, e10]
  unfold fX0_whyNot_b31
  have hrP := rI_P X (nI u) g day
  by_cases cr : rI X (nI u) g day < 0
  · refine ⟨1, ?_, ?_, fun z => absurd z (by decide)⟩
    · by_cases c : X.2 10 p = 2
      · simp only [c, cr, if_true]
      · simp only [c, cr, if_true, if_false]
    · simp only [cr, if_true]
  have cr0 := (nlt_iff _ _).mp cr
  rcases hrP with hr | ⟨r, hr, er, _⟩
  · rw [hr] at cr; exact absurd (by decide) cr
  rw [er] at cr cr0 ⊢
  -- the part behind the first test
  have main : ∀ t0 : Int32, (t0 = 0 ∨ t0 = 1) → (t0 = 0 ↔ ¬ X.2 10 p = 2) → ∃ q, fX0_whyNot_b50 NN X (nI p) (nI u) g day (nI r) t0 = some (q, X) ∧ fX8_whyOf_b32 NN M (nI p) (nI u) g day (nI r) = some (q, M) := by
    intro t0 ht0 ht
    unfold fX0_whyNot_b50 fX8_whyOf_b32
    obtain ⟨v, hv, v1, v2⟩ := held h hs (nI p) day hu
    rw [v1, v2, b2_s, b2_s]
    by_cases c1 : nI v = g - 1
    rotate_left
    · rw [if_neg c1, if_neg c1]; exact ⟨_, rfl, rfl⟩
    rw [if_pos c1, if_pos c1, gA_n (S := X) (q := 13) (k := p) (by omega) (by decide), gA_n (S := M) (q := 4) (k := p) (by omega) (by decide), bb_s, bb_s, e13]
    by_cases c2 : day ≤ X.2 13 p
    rotate_left
    · rw [if_neg c2, if_neg c2]; exact ⟨_, rfl, rfl⟩
    rw [if_pos c2, if_pos c2, gA_n (S := X) (q := 11) (k := p) (by omega) (by decide), gA_n (S := M) (q := 2) (k := p) (by omega) (by decide), bb_s, bb_s, bb_s, gA_n (S := X) (q := 18) (k := r) (by omega) (by decide), gA_n (S := M) (q := 11) (k := r) (by omega) (by decide), bb_s, bb_s, e11, e18]
    have hb := h.2.2.2.2.2.1 p hp
    have hage := (h.2.2.2.2.2.2.2.1 r hr).1
    have hd1 := hd.1
    have hd2 := hd.2
    rw [i_le] at hd1 hd2
    simp only [Int32.toInt_zero, show (30000 : Int32).toInt = 30000 from rfl] at hd1 hd2
    have hsub : (day - X.2 11 p).toInt = day.toInt - (X.2 11 p).toInt := i_sub (by omega) (by omega)
    by_cases c3 : X.2 18 r ≤ day - X.2 11 p
    rotate_left
    · rw [if_neg c3]
      by_cases c4 : day < X.2 11 p
      · rw [if_pos c4]; exact ⟨_, rfl, rfl⟩
      · rw [if_neg c4, if_neg c3]; exact ⟨_, rfl, rfl⟩
    have c4 : ¬ day < X.2 11 p := by
      rw [i_le] at c3
      rw [i_lt]
      omega
    rw [if_pos c3, if_neg c4, if_pos c3]
    have l7 : fX2_lastGraded NN X (nI p) day = _ := lg7 (N := NN) (p := nI p) (day := day) h4 h4b (sz X 4) 0 (-1) NN (by omega) (by unfold NN; omega)
    have l8 := lg8 (p := nI p) (day := day) (r := nI r) h hs (sz X 4) 0 (-1) NN (by omega) (by unfold NN; omega)
    rw [l7, b2_s, show (0 : Int32) = nI 0 from rfl, l8, show nI 0 = (0 : Int32) from rfl]
    generalize lgF (X.2 23) (X.2 26) (X.2 28) (nI p) day (sz X 4) 0 (-1) = last
    rw [gA_n (S := X) (q := 17) (k := r) (by omega) (by decide), bb_s, bb_s]
    unfold fX8_whyOf_b161 fX0_whyNot_b154 fX8_whyOf_b200 fX0_whyNot_b173
    rw [gA_n (S := M) (q := 1) (k := p) (by omega) (by decide), bb_s, gA_n (S := M) (q := 10) (k := r) (by omega) (by decide), bb_s, bb_s, e10, e17, gA_n (S := X) (q := 19) (k := r) (by omega) (by decide), bb_s]
    obtain ⟨b, p1, p2⟩ := pa_both (p := p) (r := r) (last := last) (day := day) h (by omega) (by omega) 8 0 NN (by omega) (by unfold NN; omega)
    have p1' : fX4_passedAll NN X (nI p) (X.2 19 r) (mx last 0) day = some (bI (b = true), X) := p1
    have p2' : fX8_whyOf_b208 NN NN M (nI p) day (nI r) last 0 = some ((if b then 0 else 6), M) := p2
    rw [p1', p2', b2_s]
    have fin : ∃ q, (if bI (b = true) = 0 then some ((6 : Int32), X) else some (0, X)) = some (q, X) ∧ some ((if b = true then (0 : Int32) else 6), M) = some (q, M) := by
      cases b with
      | true => exact ⟨0, rfl, rfl⟩
      | false => exact ⟨6, rfl, rfl⟩
    have n10 : ((1 : Int32) = 0) = False := by simp
    by_cases c5 : last < 0
    · rcases ht0 with rfl | rfl
      · simp only [c5, if_true]; exact fin
      · simp only [c5, n10, if_true, if_false]; exact fin
    · rcases ht0 with rfl | rfl
      · have hk2 := ht.mp rfl
        by_cases c6 : X.2 17 r ≤ day - last
        · simp only [c5, c6, hk2, if_true, if_false]; exact fin
        · simp only [c5, c6, hk2, if_true, if_false]; exact ⟨_, rfl, rfl⟩
      · have hk2 : X.2 10 p = 2 := Decidable.not_not.mp (fun z => absurd (ht.mpr z) (by decide))
        by_cases c6 : X.2 17 r / 2 ≤ day - last
        · simp only [c5, c6, hk2, n10, if_true, if_false]; exact fin
        · simp only [c5, c6, hk2, n10, if_true, if_false]; exact ⟨_, rfl, rfl⟩
  by_cases ck : X.2 10 p = 2
  · rw [if_pos ck, if_neg cr, if_neg cr, if_pos ck, if_neg (by decide)]
    obtain ⟨q, m1, m2⟩ := main 1 (Or.inr rfl) ⟨fun z => absurd z (by decide), fun z => absurd ck z⟩
    by_cases c4 : g ≤ 4
    · rw [if_pos c4, if_pos c4]; exact ⟨q, m1, m2, fun _ => cr0⟩
    · rw [if_neg c4, if_neg c4]; exact ⟨_, rfl, rfl, fun _ => cr0⟩
  · rw [if_neg ck, if_neg cr, if_neg cr, if_neg ck, if_pos rfl]
    obtain ⟨q, m1, m2⟩ := main 0 (Or.inl rfl) ⟨fun _ => ck, fun _ => rfl⟩
    exact ⟨q, m1, m2, fun _ => cr0⟩
set_option maxHeartbeats 4000000 in
theorem st_why : St4 Rel fX7_why fX8_why := by
  intro X M h a b c d
  obtain ⟨h1, h1b, h1m⟩ := r1 h
  unfold fX7_why fX8_why
  rw [ask7 h1, ask8 h1m h1b, b2_s, b2_s]
  simp only [bI_0, fd7_1, fd8_1, b2_s]
  by_cases c1 : (0 ≤ a ∧ a < nI (sz X 1)) ∧ (0 ≤ b ∧ b ≤ 2) ∧ (1 ≤ c ∧ c ≤ 10) ∧ (0 ≤ d ∧ d ≤ 30000)
  rotate_left
  · rw [if_pos c1, if_pos c1]
    exact ⟨_, _, _, rfl, rfl, rel_fnd 1 h⟩
  rw [if_neg (not_not_intro c1), if_neg (not_not_intro c1)]
  obtain ⟨p, hp, rfl⟩ := ix_of c1.1.1 c1.1.2 (by omega)
  obtain ⟨u, hu, rfl⟩ := ix_le (n := 2) rfl c1.2.1.1 c1.2.1.2
  obtain ⟨X', M', k1, k2, k3, k4, k5, _⟩ := know_both h d
  have es : sz X' 1 = sz X 1 := by unfold sz; rw [k5]
  obtain ⟨r, w1, w2, _⟩ := why_both (g := c) (day := d) k3 k4 (p := p) (u := u) (by omega) (by omega) c1.2.2.2
  rw [k1, k2, bb_s, bb_s, w1, w2, b2_s, b2_s]
  exact ⟨_, _, _, rfl, rfl, k3⟩
