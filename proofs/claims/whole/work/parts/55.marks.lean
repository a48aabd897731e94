/-! RULE, MARK, MIDDLE, APART, HARD -/
def gX (X : SS) (a b c d e f n : Nat) (x1 x2 x3 x4 x5 x6 : Int32) : SS := setA (setA (setA (setA (setA (setA X a n x1) b n x2) c n x3) d n x4) e n x5) f n x6
theorem rel_rule {X M : SS} {x1 x2 x3 x4 x5 x6 : Int32} {u g : Nat} (h : Rel X M) (hn : sz X 3 < 40) (h4 : 0 ≤ x4.toInt ∧ x4.toInt ≤ 20000) (hu : u < 3) (hg : 1 ≤ g) (hg2 : g ≤ 10) (hx : x1 = nI (100 * u + g)) : Rel (pI (gX X 15 16 17 18 19 20 (sz X 3) x1 x2 x3 x4 x5 x6) 3 (nI (sz X 3 + 1))) (pI (gX M 8 9 10 11 12 13 (sz X 3) x1 x2 x3 x4 x5 x6) 2 (nI (sz X 3 + 1))) := by
  obtain ⟨a1, a2, a3, a4, a5, a6, a7, a8, a9, a10, a11, a12⟩ := h
  have s3 : sz (pI (gX X 15 16 17 18 19 20 (sz X 3) x1 x2 x3 x4 x5 x6) 3 (nI (sz X 3 + 1))) 3 = sz X 3 + 1 := sz_pIs (by omega)
  have qo : ∀ j, j ∉ [15, 16, 17, 18, 19, 20] → (gX X 15 16 17 18 19 20 (sz X 3) x1 x2 x3 x4 x5 x6).2 j = X.2 j := by
    intro j hj
    simp at hj
    unfold gX
    rw [setA_o (by omega), setA_o (by omega), setA_o (by omega), setA_o (by omega), setA_o (by omega), setA_o (by omega)]
  have qm : ∀ j, j ∉ [8, 9, 10, 11, 12, 13] → (gX M 8 9 10 11 12 13 (sz X 3) x1 x2 x3 x4 x5 x6).2 j = M.2 j := by
    intro j hj
    simp at hj
    unfold gX
    rw [setA_o (by omega), setA_o (by omega), setA_o (by omega), setA_o (by omega), setA_o (by omega), setA_o (by omega)]
  have q15 : (gX X 15 16 17 18 19 20 (sz X 3) x1 x2 x3 x4 x5 x6).2 15 = upd (X.2 15) (sz X 3) x1 := by
    unfold gX
    rw [setA_o (by decide), setA_o (by decide), setA_o (by decide), setA_o (by decide), setA_o (by decide), setA_s]
  have q18 : (gX X 15 16 17 18 19 20 (sz X 3) x1 x2 x3 x4 x5 x6).2 18 = upd (X.2 18) (sz X 3) x4 := by
    unfold gX
    rw [setA_o (by decide), setA_o (by decide), setA_s, setA_o (by decide), setA_o (by decide), setA_o (by decide)]
  refine ⟨RS_pI (k := 3) a1 (by decide), ?_, ?_, ?_, ⟨a5.1, a5.2.1, a5.2.2.1, ⟨?_, ?_⟩, a5.2.2.2.2⟩, ?_, ?_, ?_, ?_, ?_, ?_, ?_⟩
  · exact RA_set (q := 20) (RA_set (q := 19) (RA_set (q := 18) (RA_set (q := 17) (RA_set (q := 16) (RA_set (q := 15) a2 (by decide)) (by decide)) (by decide)) (by decide)) (by decide)) (by decide)
  · intro a b c
    show _ → _ → _ → _ → (gX X 15 16 17 18 19 20 (sz X 3) x1 x2 x3 x4 x5 x6).2 22 _ = (if a = b then nI c else (gX M 8 9 10 11 12 13 (sz X 3) x1 x2 x3 x4 x5 x6).2 6 _) ∧ ∃ w, w ≤ 10 ∧ (gX X 15 16 17 18 19 20 (sz X 3) x1 x2 x3 x4 x5 x6).2 22 _ = nI w
    rw [qo 22 (by decide), qm 6 (by decide)]
    exact a3 a b c
  · intro z i hi
    show (gX X 15 16 17 18 19 20 (sz X 3) x1 x2 x3 x4 x5 x6).2 36 i = (gX M 8 9 10 11 12 13 (sz X 3) x1 x2 x3 x4 x5 x6).2 23 i
    rw [qo 36 (by decide), qm 23 (by decide)]
    exact a4 z i hi
  · rw [s3]; rfl
  · rw [s3]; omega
  · intro q hq
    show 0 ≤ ((gX X 15 16 17 18 19 20 (sz X 3) x1 x2 x3 x4 x5 x6).2 11 q).toInt ∧ ((gX X 15 16 17 18 19 20 (sz X 3) x1 x2 x3 x4 x5 x6).2 11 q).toInt ≤ 30000
    rw [qo 11 (by decide)]
    exact a6 q hq
  · refine InvC_p ?_ (by decide) (by decide)
    unfold InvC
    rw [exC_cong (qo 10 (by decide))]
    exact a7
  · intro r hr
    rw [s3] at hr
    show (0 ≤ ((gX X 15 16 17 18 19 20 (sz X 3) x1 x2 x3 x4 x5 x6).2 18 r).toInt ∧ ((gX X 15 16 17 18 19 20 (sz X 3) x1 x2 x3 x4 x5 x6).2 18 r).toInt ≤ 20000) ∧ ∃ u g, u < 3 ∧ 1 ≤ g ∧ g ≤ 10 ∧ (gX X 15 16 17 18 19 20 (sz X 3) x1 x2 x3 x4 x5 x6).2 15 r = nI (100 * u + g)
    rw [q15, q18]
    by_cases c : r = sz X 3
    · rw [show upd (X.2 18) (sz X 3) x4 r = x4 from if_pos c, show upd (X.2 15) (sz X 3) x1 r = x1 from if_pos c]
      exact ⟨h4, u, g, hu, hg, hg2, hx⟩
    · rw [show upd (X.2 18) (sz X 3) x4 r = X.2 18 r from if_neg c, show upd (X.2 15) (sz X 3) x1 r = X.2 15 r from if_neg c]
      exact a8 r (by omega)
  · intro e he
    show ∃ o u g, (gX X 15 16 17 18 19 20 (sz X 3) x1 x2 x3 x4 x5 x6).2 23 e = nI o ∧ o < sz X 1 ∧ (gX X 15 16 17 18 19 20 (sz X 3) x1 x2 x3 x4 x5 x6).2 24 e = nI u ∧ u < 3 ∧ (gX X 15 16 17 18 19 20 (sz X 3) x1 x2 x3 x4 x5 x6).2 25 e = nI g ∧ 1 ≤ g ∧ g ≤ 10
    rw [qo 23 (by decide), qo 24 (by decide), qo 25 (by decide)]
    exact a9 e he
  · intro e he
    show ∃ p, p < sz X 1 ∧ (gX X 15 16 17 18 19 20 (sz X 3) x1 x2 x3 x4 x5 x6).2 30 e = nI p
    rw [qo 30 (by decide)]
    exact a10 e he
  · intro e he
    show ∃ p, p < sz X 1 ∧ (gX X 15 16 17 18 19 20 (sz X 3) x1 x2 x3 x4 x5 x6).2 33 e = nI p
    rw [qo 33 (by decide)]
    exact a11 e he
  · intro x hx
    show ∃ c, c ≤ 5 ∧ (gX X 15 16 17 18 19 20 (sz X 3) x1 x2 x3 x4 x5 x6).2 38 x = nI c ∧ (sz X 8 ≤ x → c = 0) ∧ (∀ i, i < c → 0 ≤ ((gX X 15 16 17 18 19 20 (sz X 3) x1 x2 x3 x4 x5 x6).2 40 (5 * x + i)).toInt ∧ ((gX X 15 16 17 18 19 20 (sz X 3) x1 x2 x3 x4 x5 x6).2 40 (5 * x + i)).toInt ≤ 100) ∧ ∀ i j, i < c → j < c → (gX X 15 16 17 18 19 20 (sz X 3) x1 x2 x3 x4 x5 x6).2 39 (5 * x + i) = (gX X 15 16 17 18 19 20 (sz X 3) x1 x2 x3 x4 x5 x6).2 39 (5 * x + j) → i = j
    rw [qo 38 (by decide), qo 39 (by decide), qo 40 (by decide)]
    exact a12 x hx
theorem sh4 {m : Nat} (h : m < 2 ^ 31) : nI m >>> ((4 : Int32) &&& 31) = nI (m / 16) := pk_shrN h _ 4 (by decide)
theorem an15 {m : Nat} (h : m < 2 ^ 31) : nI m &&& 15 = nI (m % 16) := pk_andN (by omega) 4 (by decide)
theorem dv16 {m : Nat} (h : m < 2 ^ 31) : nI m / 16 = nI (m / 16) := pk_div (d := 16) h (by decide) (by decide)
theorem rm16 {m : Nat} (h : m < 2 ^ 31) : nI m - nI m / 16 * 16 = nI (m % 16) := pk_rem (d := 16) h (by decide) (by decide)
theorem dv100 {m : Nat} (h : m < 2 ^ 31) : nI m / 100 = nI (m / 100) := pk_div (d := 100) h (by decide) (by decide)
theorem rm100 {m : Nat} (h : m < 2 ^ 31) : nI m - nI m / 100 * 100 = nI (m % 100) := pk_rem (d := 100) h (by decide) (by decide)
set_option maxHeartbeats 4000000 in
theorem st_rule : St5 Rel fX7_rule fX8_rule := by
  intro X M h a b c d e
  obtain ⟨h3, h3b, h3m⟩ := r3 h
  unfold fX7_rule fX8_rule fX7_rule_b79 fX8_rule_b63 fX8_rule_b100
  have bey : ∃ r X1 M1, some ((-1000001 : Int32), fnd X 9 1) = some (r, X1) ∧ some ((-1000001 : Int32), fnd M 28 1) = some (r, M1) ∧ Rel X1 M1 := ⟨_, _, _, rfl, rfl, rel_fnd 1 h⟩
  simp only [uni7, uni8, gra7, gra8, day7, day8, w7, w8, b2_s, bI_0, fd7_1, fd8_1, fd7_4, fd8_4, if_true, show ((1 : Int32) = 0) = False from by simp, if_false]
  by_cases c1 : a < 0
  · simp only [c1, if_true]; exact bey
  by_cases c2 : 0 ≤ a / 100 ∧ a / 100 ≤ 2
  rotate_left
  · simp only [c1, c2, not_false_eq_true, if_true, if_false]; exact bey
  by_cases c3 : 1 ≤ a - a / 100 * 100 ∧ a - a / 100 * 100 ≤ 10
  rotate_left
  · simp only [c1, c2, c3, and_self, not_true_eq_false, not_false_eq_true, if_true, if_false]; exact bey
  by_cases c4 : e < 0
  · simp only [c1, c2, c3, c4, and_self, not_true_eq_false, if_true, if_false]
    by_cases d1 : 0 ≤ b ∧ b ≤ 30000
    · by_cases d2 : 0 ≤ c ∧ c ≤ 4000
      · by_cases d3 : 0 ≤ d ∧ d ≤ 20000
        · simp only [d1, d2, d3, and_self, not_true_eq_false, if_false]; exact bey
        · simp only [d1, d2, d3, and_self, not_true_eq_false, not_false_eq_true, if_true, if_false]; exact bey
      · simp only [d1, d2, and_self, not_true_eq_false, not_false_eq_true, if_true, if_false]; exact bey
    · simp only [d1, not_false_eq_true, if_true]; exact bey
  obtain ⟨n, hn, rfl⟩ := nI_of c4
  obtain ⟨k, hk, rfl⟩ := nI_of c1
  rw [sh4 hn, an15 hn, rm16 hn, dv16 hn]
  rw [dv100 hk] at c2
  rw [rm100 hk] at c3
  rw [rm100 hk, dv100 hk]
  have q1 : ((256 : Int32) ≤ nI (n / 16)) ↔ 256 ≤ n / 16 := nle (by omega) (by decide)
  have q2 : (nI (n / 16) ≤ 255) ↔ n / 16 ≤ 255 := nI_leI (by omega) (by decide)
  have q3 : (nI (n % 16) ≤ 10) ↔ n % 16 ≤ 10 := nI_leI (by omega) (by decide)
  have q4 : (0 : Int32) ≤ nI (n / 16) := nI_pos' (by omega)
  have q5 : (0 : Int32) ≤ nI (n % 16) := nI_pos' (by omega)
  simp only [c1, c2, c3, c4, q1, q2, q3, q4, q5, and_self, true_and, not_true_eq_false, if_false]
  by_cases d1 : 0 ≤ b ∧ b ≤ 30000
  rotate_left
  · simp only [d1, not_false_eq_true, if_true]
    by_cases d4 : n / 16 ≤ 255
    · by_cases d5 : n % 16 ≤ 10
      · simp only [d4, d5, not_true_eq_false, if_false]; exact bey
      · simp only [d4, d5, not_true_eq_false, not_false_eq_true, if_true, if_false]; exact bey
    · simp only [d4, not_false_eq_true, if_true]; exact bey
  by_cases d2 : 0 ≤ c ∧ c ≤ 4000
  rotate_left
  · simp only [d1, d2, and_self, not_true_eq_false, not_false_eq_true, if_true, if_false]
    by_cases d4 : n / 16 ≤ 255
    · by_cases d5 : n % 16 ≤ 10
      · simp only [d4, d5, not_true_eq_false, if_false]; exact bey
      · simp only [d4, d5, not_true_eq_false, not_false_eq_true, if_true, if_false]; exact bey
    · simp only [d4, not_false_eq_true, if_true]; exact bey
  by_cases d3 : 0 ≤ d ∧ d ≤ 20000
  rotate_left
  · simp only [d1, d2, d3, and_self, not_true_eq_false, not_false_eq_true, if_true, if_false]
    by_cases d4 : n / 16 ≤ 255
    · by_cases d5 : n % 16 ≤ 10
      · simp only [d4, d5, not_true_eq_false, if_false]; exact bey
      · simp only [d4, d5, not_true_eq_false, not_false_eq_true, if_true, if_false]; exact bey
    · simp only [d4, not_false_eq_true, if_true]; exact bey
  by_cases d4 : n / 16 ≤ 255
  rotate_left
  · have d4' : 256 ≤ n / 16 := by omega
    simp only [d1, d2, d3, d4, d4', and_self, not_true_eq_false, not_false_eq_true, if_true, if_false]; exact bey
  have d4' : ¬ 256 ≤ n / 16 := by omega
  by_cases d5 : n % 16 ≤ 10
  rotate_left
  · simp only [d1, d2, d3, d4, d4', d5, and_self, not_true_eq_false, not_false_eq_true, if_true, if_false]; exact bey
  simp only [d1, d2, d3, d4, d4', d5, and_self, not_true_eq_false, if_true, if_false]
  rw [h3, h3m]
  simp only [nlt (n := sz X 3) (m := 40) (by omega) (by decide), neq (n := sz X 3) (m := 40) (by omega) (by decide)]
  by_cases f : sz X 3 = 40
  · simp only [f, Nat.lt_irrefl, if_true, if_false]
    exact ⟨_, _, _, rfl, rfl, rel_fnd 4 h⟩
  · have f' : sz X 3 < 40 := by omega
    simp only [f, f', if_true, if_false]
    unfold fX5_add
    rw [sh4 hn, an15 hn]
    simp only [h3, h3m, setA_1, pA_n (n := 40) (k := sz X 3) f' (by decide), bb_s, n1, pO_s, pI_s]
    have hu := (nI_leI (a := k / 100) (b := 2) (by omega) (by decide)).mp c2.2
    have hg := (nI_leI (a := 1) (b := k % 100) (by decide) (by omega)).mp c3.1
    have hg2 := (nI_leI (a := k % 100) (b := 10) (by omega) (by decide)).mp c3.2
    have hd : 0 ≤ d.toInt ∧ d.toInt ≤ 20000 := by
      have z1 := d3.1
      have z2 := d3.2
      rw [i_le] at z1 z2
      exact ⟨z1, z2⟩
    exact ⟨_, _, _, rfl, rfl, rel_rule h f' hd (u := k / 100) (g := k % 100) (by omega) hg hg2 (by rw [show 100 * (k / 100) + k % 100 = k by omega])⟩
