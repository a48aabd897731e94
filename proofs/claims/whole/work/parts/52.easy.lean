theorem r0 {X M : SS} (h : Rel X M) : X.1 0 = nI (sz X 0) ∧ sz X 0 ≤ 20 ∧ M.1 8 = nI (sz X 0) := ⟨h.2.2.2.2.1.1.1, h.2.2.2.2.1.1.2, (h.1 0 (by decide)).symm.trans h.2.2.2.2.1.1.1⟩
theorem r1 {X M : SS} (h : Rel X M) : X.1 1 = nI (sz X 1) ∧ sz X 1 ≤ 20 ∧ M.1 0 = nI (sz X 1) := ⟨h.2.2.2.2.1.2.1.1, h.2.2.2.2.1.2.1.2, (h.1 1 (by decide)).symm.trans h.2.2.2.2.1.2.1.1⟩
theorem r2 {X M : SS} (h : Rel X M) : X.1 2 = nI (sz X 2) ∧ sz X 2 ≤ 6 ∧ M.1 1 = nI (sz X 2) := ⟨h.2.2.2.2.1.2.2.1.1, h.2.2.2.2.1.2.2.1.2, (h.1 2 (by decide)).symm.trans h.2.2.2.2.1.2.2.1.1⟩
theorem r3 {X M : SS} (h : Rel X M) : X.1 3 = nI (sz X 3) ∧ sz X 3 ≤ 40 ∧ M.1 2 = nI (sz X 3) := ⟨h.2.2.2.2.1.2.2.2.1.1, h.2.2.2.2.1.2.2.2.1.2, (h.1 3 (by decide)).symm.trans h.2.2.2.2.1.2.2.2.1.1⟩
theorem r4 {X M : SS} (h : Rel X M) : X.1 4 = nI (sz X 4) ∧ sz X 4 ≤ 60 ∧ M.1 3 = nI (sz X 4) := ⟨h.2.2.2.2.1.2.2.2.2.1.1, h.2.2.2.2.1.2.2.2.2.1.2, (h.1 4 (by decide)).symm.trans h.2.2.2.2.1.2.2.2.2.1.1⟩
theorem r5 {X M : SS} (h : Rel X M) : X.1 5 = nI (sz X 5) ∧ sz X 5 ≤ 20 ∧ M.1 4 = nI (sz X 5) := ⟨h.2.2.2.2.1.2.2.2.2.2.1.1, h.2.2.2.2.1.2.2.2.2.2.1.2, (h.1 5 (by decide)).symm.trans h.2.2.2.2.1.2.2.2.2.2.1.1⟩
theorem r6 {X M : SS} (h : Rel X M) : X.1 6 = nI (sz X 6) ∧ sz X 6 ≤ 4 ∧ M.1 5 = nI (sz X 6) := ⟨h.2.2.2.2.1.2.2.2.2.2.2.1.1, h.2.2.2.2.1.2.2.2.2.2.2.1.2, (h.1 6 (by decide)).symm.trans h.2.2.2.2.1.2.2.2.2.2.2.1.1⟩
theorem r8 {X M : SS} (h : Rel X M) : X.1 8 = nI (sz X 8) ∧ sz X 8 ≤ 20 ∧ M.1 7 = nI (sz X 8) := ⟨h.2.2.2.2.1.2.2.2.2.2.2.2.1.1, h.2.2.2.2.1.2.2.2.2.2.2.2.1.2, (h.1 8 (by decide)).symm.trans h.2.2.2.2.1.2.2.2.2.2.2.2.1.1⟩
theorem r7 {X M : SS} (h : Rel X M) : M.1 6 = X.1 7 ∧ (X.1 7 = 0 ∨ X.1 7 = 1) := ⟨(h.1 7 (by decide)).symm, h.2.2.2.2.1.2.2.2.2.2.2.2.2⟩
theorem ra {X M : SS} (h : Rel X M) (q : Nat) (hq : q ∈ arrs) : M.2 (am q) = X.2 q := (h.2.1 q hq).symm
theorem nlt {n m : Nat} (hn : n < 2 ^ 31) (hm : m < 2 ^ 31) : (nI n < OfNat.ofNat m) ↔ n < m := nI_ltI hn hm
theorem nle {n m : Nat} (hn : n < 2 ^ 31) (hm : m < 2 ^ 31) : ((OfNat.ofNat m : Int32) ≤ nI n) ↔ m ≤ n := nI_leI hm hn
theorem neq {n m : Nat} (hn : n < 2 ^ 31) (hm : m < 2 ^ 31) : (nI n = OfNat.ofNat m) ↔ n = m := nI_eq hn hm
theorem n0lt {n : Nat} (hn : n < 2 ^ 31) : ((0 : Int32) < nI n) ↔ 0 < n := nI_ltI (a := 0) (by decide) hn
theorem n1 (n : Nat) : nI n + 1 = nI (n + 1) := nI_1 n
theorem InvC_p {X : SS} {k : Nat} {v : Int32} (h : InvC X) (h1 : 1 ≠ k) (h2 : 2 ≠ k) : InvC (pI X k v) := by
  unfold InvC
  rw [sz_pIo h1, sz_pIo h2, exC_cong (Y := pI X k v) (X := X) rfl]
  exact h
theorem rel_p0 {X M : SS} {n : Nat} (h : Rel X M) (hn : n ≤ 20) : Rel (pI X 0 (nI n)) (pI M 8 (nI n)) := by
  obtain ⟨a1, a2, a3, a4, a5, a6, a7, a8, a9, a10, a11, a12⟩ := h
  refine ⟨RS_pI (k := 0) a1 (by decide), a2, a3, a4, ⟨⟨?_, ?_⟩, a5.2⟩, a6, InvC_p a7 (by decide) (by decide), a8, a9, a10, a11, a12⟩
  · rw [sz_pIs (by omega), pI_s]
  · rw [sz_pIs (by omega)]; exact hn
theorem rel_p5 {X M : SS} {n : Nat} (h : Rel X M) (hn : n ≤ sz X 5) : Rel (pI X 5 (nI n)) (pI M 4 (nI n)) := by
  obtain ⟨a1, a2, a3, a4, a5, a6, a7, a8, a9, a10, a11, a12⟩ := h
  have h20 := a5.2.2.2.2.2.1.2
  refine ⟨RS_pI (k := 5) a1 (by decide), a2, a3, a4, ⟨a5.1, a5.2.1, a5.2.2.1, a5.2.2.2.1, a5.2.2.2.2.1, ⟨?_, ?_⟩, a5.2.2.2.2.2.2⟩, a6, InvC_p a7 (by decide) (by decide), a8, a9, ?_, a11, a12⟩
  · rw [sz_pIs (by omega), pI_s]
  · rw [sz_pIs (by omega)]; omega
  · intro s hs
    rw [sz_pIs (by omega)] at hs
    exact a10 s (by omega)
theorem rel_p8 {X M : SS} {n : Nat} (h : Rel X M) (hn : sz X 8 ≤ n) (hn2 : n ≤ 20) : Rel (pI X 8 (nI n)) (pI M 7 (nI n)) := by
  obtain ⟨a1, a2, a3, a4, a5, a6, a7, a8, a9, a10, a11, a12⟩ := h
  refine ⟨RS_pI (k := 8) a1 (by decide), a2, a3, a4, ⟨a5.1, a5.2.1, a5.2.2.1, a5.2.2.2.1, a5.2.2.2.2.1, a5.2.2.2.2.2.1, a5.2.2.2.2.2.2.1, ⟨?_, ?_⟩, a5.2.2.2.2.2.2.2.2⟩, a6, InvC_p a7 (by decide) (by decide), a8, a9, a10, a11, ?_⟩
  · rw [sz_pIs (by omega), pI_s]
  · rw [sz_pIs (by omega)]; exact hn2
  · intro x hx
    obtain ⟨c, h1, h2, h3, h4, h5⟩ := a12 x hx
    exact ⟨c, h1, h2, fun z => h3 (by rw [sz_pIs (by omega)] at z; omega), h4, h5⟩
theorem rel_go {X M : SS} (h : Rel X M) : Rel (pI (pI X 6 0) 7 0) (pI (pI M 5 0) 6 0) := by
  obtain ⟨a1, a2, a3, a4, a5, a6, a7, a8, a9, a10, a11, a12⟩ := h
  refine ⟨RS_pI (k := 7) (RS_pI (k := 6) a1 (by decide)) (by decide), a2, a3, ?_, ⟨a5.1, a5.2.1, a5.2.2.1, a5.2.2.2.1, a5.2.2.2.2.1, a5.2.2.2.2.2.1, ⟨by rfl, by show (0 : Int32).toNatClampNeg ≤ 4; decide⟩, a5.2.2.2.2.2.2.2.1, Or.inl rfl⟩, a6, InvC_p (InvC_p a7 (by decide) (by decide)) (by decide) (by decide), a8, a9, a10, ?_, a12⟩
  · intro z
    exact absurd z (by show ¬ ((0 : Int32) = 1); decide)
  · intro i hi
    exact absurd hi (Nat.not_lt_zero i)
set_option maxHeartbeats 4000000 in
theorem st_as : St2 Rel fX7_as fX8_as := by
  intro X M h a b
  obtain ⟨h1, h1b, h1m⟩ := r1 h
  have e10 := ra h 10 (by decide)
  have e12 := ra h 12 (by decide)
  unfold fX7_as fX8_as fX7_as_b21 fX8_as_b17 fX7_as_b55 fX8_as_b38
  simp only [h4, per8 (by omega) h1m, kind7, w8, b2_s, bI_0, fd7_1, fd8_1, fd7_5, fd8_5, h1]
  by_cases c1 : 0 ≤ a ∧ a < nI (sz X 1)
  · by_cases c2 : 0 ≤ b ∧ b ≤ 2
    · obtain ⟨p, hp, rfl⟩ := ix_of c1.1 c1.2 (by omega)
      simp only [c1, c2, and_self, not_true_eq_false, if_false, gA_n (S := X) (q := 12) (n := 20) (k := p) (by omega) (by decide), gA_n (S := M) (q := 3) (n := 20) (k := p) (by omega) (by decide), gA_n (S := X) (q := 10) (n := 20) (k := p) (by omega) (by decide), gA_n (S := M) (q := 1) (n := 20) (k := p) (by omega) (by decide), bb_s, show M.2 1 = X.2 10 from e10, show M.2 3 = X.2 12 from e12]
      by_cases c3 : b = 0
      · simp only [c3, if_true]
        exact ⟨_, _, _, rfl, rfl, h⟩
      · by_cases c4 : X.2 10 p = b
        · simp only [c3, c4, if_true, if_false]
          exact ⟨_, _, _, rfl, rfl, h⟩
        · simp only [c3, c4, if_false]
          exact ⟨_, _, _, rfl, rfl, rel_fnd 5 h⟩
    · simp only [c1, c2, and_self, not_true_eq_false, not_false_eq_true, if_false, if_true]
      exact ⟨_, _, _, rfl, rfl, rel_fnd 1 h⟩
  · simp only [c1, not_false_eq_true, if_true]
    exact ⟨_, _, _, rfl, rfl, rel_fnd 1 h⟩
set_option maxHeartbeats 4000000 in
theorem st_part : St3 Rel fX7_part fX8_part := by
  intro X M h a b d
  obtain ⟨h1, h1b, h1m⟩ := r1 h
  have e14 := ra h 14 (by decide)
  unfold fX7_part fX8_part fX7_part_b35 fX8_part_b29
  simp only [h4, per8 (by omega) h1m, w7, w8, b2_s, bI_0, fd7_1, fd8_1, h1]
  by_cases c1 : 0 ≤ a ∧ a < nI (sz X 1)
  · by_cases c2 : 0 ≤ b ∧ b ≤ 7
    · by_cases c3 : -1 ≤ d ∧ d ≤ 30000
      · obtain ⟨p, hp, rfl⟩ := ix_of c1.1 c1.2 (by omega)
        obtain ⟨t, ht, rfl⟩ := ix_le (n := 7) rfl c2.1 c2.2
        simp only [c1, c2, c3, and_self, not_true_eq_false, if_false]
        rw [show nI p * 8 + nI t = nI (p * 8 + t) by rw [show (8 : Int32) = nI 8 from rfl, pk_mul, nI_add], show 8 * nI p + nI t = nI (p * 8 + t) by rw [show (8 : Int32) = nI 8 from rfl, pk_mul, nI_add, Nat.mul_comm]]
        rw [gA_n (by omega) (by decide), gA_n (by omega) (by decide), bb_s, bb_s, pA_n (by omega) (by decide), pA_n (by omega) (by decide), bb_s, bb_s, show M.2 5 = X.2 14 from e14]
        exact ⟨_, _, _, rfl, rfl, rel_set h (by decide)⟩
      · simp only [c1, c2, c3, and_self, not_true_eq_false, not_false_eq_true, if_false, if_true]
        exact ⟨_, _, _, rfl, rfl, rel_fnd 1 h⟩
    · simp only [c1, c2, and_self, not_true_eq_false, not_false_eq_true, if_false, if_true]
      exact ⟨_, _, _, rfl, rfl, rel_fnd 1 h⟩
  · simp only [c1, not_false_eq_true, if_true]
    exact ⟨_, _, _, rfl, rfl, rel_fnd 1 h⟩
set_option maxHeartbeats 4000000 in
theorem st_way : St2 Rel fX7_way fX8_way := by
  intro X M h a b
  have e21 := ra h 21 (by decide)
  unfold fX7_way fX8_way fX7_way_b16 fX8_way_b16
  simp only [uni7, uni8, w7, w8, b2_s, bI_0, fd7_1, fd8_1]
  by_cases c1 : 0 ≤ a ∧ a ≤ 2
  · by_cases c2 : 0 ≤ b ∧ b ≤ 1
    · obtain ⟨p, hp, rfl⟩ := ix_le (n := 2) rfl c1.1 c1.2
      simp only [c1, c2, and_self, not_true_eq_false, if_false]
      rw [gA_n (by omega) (by decide), gA_n (by omega) (by decide), bb_s, bb_s, pA_n (by omega) (by decide), pA_n (by omega) (by decide), bb_s, bb_s, show M.2 7 = X.2 21 from e21]
      exact ⟨_, _, _, rfl, rfl, rel_set h (by decide)⟩
    · simp only [c1, c2, and_self, not_true_eq_false, not_false_eq_true, if_false, if_true]
      exact ⟨_, _, _, rfl, rfl, rel_fnd 1 h⟩
  · simp only [c1, not_false_eq_true, if_true]
    exact ⟨_, _, _, rfl, rfl, rel_fnd 1 h⟩
set_option maxHeartbeats 4000000 in
theorem st_tell : St1 Rel fX7_tell fX8_tell := by
  intro X M h a
  obtain ⟨h1, h1b, h1m⟩ := r0 h
  unfold fX7_tell fX8_tell
  simp only [h1, h1m, nlt (n := sz X 0) (m := 20) (by omega) (by decide), neq (n := sz X 0) (m := 20) (by omega) (by decide), fd7_4, fd8_4, b2_s]
  by_cases c : sz X 0 = 20
  · simp only [c, if_true, Nat.lt_irrefl, if_false]
    exact ⟨_, _, _, rfl, rfl, rel_fnd 4 h⟩
  · have c2 : sz X 0 < 20 := by omega
    simp only [c, c2, if_true, if_false]
    rw [pA_n (by omega) (by decide), pA_n (by omega) (by decide), bb_s, bb_s, setA_1, setA_1, h1, h1m, n1, pO_s, pO_s, bb_s, bb_s, pI_s, pI_s]
    exact ⟨_, _, _, rfl, rfl, rel_p0 (rel_set h (q := 8) (by decide)) (by omega)⟩
set_option maxHeartbeats 4000000 in
theorem st_exam : St0 Rel fX7_exam fX8_exam := by
  intro X M h
  obtain ⟨h1, h1b, h1m⟩ := r8 h
  unfold fX7_exam fX8_exam fX3_add
  simp only [h1, h1m, nlt (n := sz X 8) (m := 20) (by omega) (by decide), neq (n := sz X 8) (m := 20) (by omega) (by decide), fd7_4, fd8_4, b2_s]
  by_cases c : sz X 8 = 20
  · simp only [c, if_true, Nat.lt_irrefl, if_false]
    exact ⟨_, _, _, rfl, rfl, rel_fnd 4 h⟩
  · have c2 : sz X 8 < 20 := by omega
    simp only [c, c2, if_true, if_false]
    rw [n1, pO_s, pO_s, bb_s, bb_s, b2_s, pI_s, nI_pred]
    exact ⟨_, _, _, rfl, rfl, rel_p8 h (by omega) (by omega)⟩
set_option maxHeartbeats 4000000 in
theorem st_go : St0 Rel fX7_go fX8_go := by
  intro X M h
  obtain ⟨h1, h1b, h1m⟩ := r6 h
  unfold fX7_go fX8_go fX1_clear
  simp only [pO_s, bb_s, h1, h1m]
  exact ⟨_, _, _, rfl, rfl, rel_go h⟩
set_option maxHeartbeats 4000000 in
theorem st_unstrike : St0 Rel fX7_unstrike fX8_unstrike := by
  intro X M h
  obtain ⟨h1, h1b, h1m⟩ := r5 h
  unfold fX7_unstrike fX8_unstrike
  simp only [h1, h1m, n0lt (n := sz X 5) (by omega), neq (n := sz X 5) (m := 0) (by omega) (by decide), fd7_2, fd8_2, b2_s]
  by_cases c : sz X 5 = 0
  · simp only [c, if_true, Nat.lt_irrefl, if_false]
    exact ⟨_, _, _, rfl, rfl, rel_fnd 2 h⟩
  · obtain ⟨n, hn⟩ : ∃ n, sz X 5 = n + 1 := ⟨sz X 5 - 1, by omega⟩
    have c2 : 0 < sz X 5 := by omega
    simp only [c, c2, if_true, if_false]
    rw [hn, nI_pred, pO_s, pO_s, bb_s, bb_s, pI_s, pI_s]
    exact ⟨_, _, _, rfl, rfl, rel_p5 h (by omega)⟩
set_option maxHeartbeats 4000000 in
theorem st_count : St1 Rel fX7_count fX8_count := by
  intro X M h a
  have q : ∀ k, k < 9 → M.1 (sm k) = X.1 k := fun k hk => (h.1 k hk).symm
  unfold fX7_count fX8_count
  rw [show M.1 0 = X.1 1 from q 1 (by decide), show M.1 2 = X.1 3 from q 3 (by decide), show M.1 3 = X.1 4 from q 4 (by decide), show M.1 4 = X.1 5 from q 5 (by decide), show M.1 7 = X.1 8 from q 8 (by decide), show M.1 5 = X.1 6 from q 6 (by decide), show M.1 8 = X.1 0 from q 0 (by decide), fd7_1, fd8_1, b2_s, b2_s]
  by_cases c0 : a = 0
  · simp only [c0, if_true]; exact ⟨_, _, _, rfl, rfl, h⟩
  by_cases c1 : a = 1
  · simp only [c0, c1, if_true, if_false]; exact ⟨_, _, _, rfl, rfl, h⟩
  by_cases c2 : a = 2
  · simp only [c0, c1, c2, if_true, if_false]; exact ⟨_, _, _, rfl, rfl, h⟩
  by_cases c3 : a = 3
  · simp only [c0, c1, c2, c3, if_true, if_false]; exact ⟨_, _, _, rfl, rfl, h⟩
  by_cases c4 : a = 4
  · simp only [c0, c1, c2, c3, c4, if_true, if_false]; exact ⟨_, _, _, rfl, rfl, h⟩
  by_cases c5 : a = 5
  · simp only [c0, c1, c2, c3, c4, c5, if_true, if_false]; exact ⟨_, _, _, rfl, rfl, h⟩
  by_cases c6 : a = 6
  · simp only [c0, c1, c2, c3, c4, c5, c6, if_true, if_false]; exact ⟨_, _, _, rfl, rfl, h⟩
  simp only [c0, c1, c2, c3, c4, c5, c6, if_false]
  exact ⟨_, _, _, rfl, rfl, rel_fnd 1 h⟩
set_option maxHeartbeats 4000000 in
theorem st_found : St1 Rel fX7_found fX8_found := by
  intro X M h a
  have e9 := ra h 9 (by decide)
  unfold fX7_found fX8_found
  simp only [w7, w8, b2_s, bI_0, fd7_1, fd8_1]
  by_cases c1 : 1 ≤ a ∧ a ≤ 5
  · have c0 : 0 ≤ a := by
      have := c1.1
      rw [i_le] at this ⊢
      simp only [Int32.toInt_zero, show (1 : Int32).toInt = 1 from rfl] at *
      omega
    obtain ⟨p, hp, rfl⟩ := ix_le (n := 5) rfl c0 c1.2
    simp only [c1, and_self, not_true_eq_false, if_false]
    rw [gA_n (by omega) (by decide), gA_n (by omega) (by decide), bb_s, bb_s, show M.2 28 = X.2 9 from e9]
    exact ⟨_, _, _, rfl, rfl, h⟩
  · simp only [c1, not_false_eq_true, if_true]
    exact ⟨_, _, _, rfl, rfl, rel_fnd 1 h⟩
set_option maxHeartbeats 4000000 in
theorem st_entry : St2 Rel fX7_entry fX8_entry := by
  intro X M h a b
  obtain ⟨h1, h1b, h1m⟩ := r4 h
  unfold fX7_entry fX8_entry
  simp only [h2, win8 (by omega) h1m, b2_s, bI_0, fd7_1, fd8_1, h1]
  by_cases c1 : 0 ≤ a ∧ a < nI (sz X 4)
  · obtain ⟨p, hp, rfl⟩ := ix_of c1.1 c1.2 (by omega)
    simp only [c1, and_self, not_true_eq_false, if_false]
    have g7 : ∀ q, gA X q 60 (nI p) = some (X.2 q p) := fun q => gA_n (by omega) (by decide)
    have g8 : ∀ q, gA M q 60 (nI p) = some (M.2 q p) := fun q => gA_n (by omega) (by decide)
    simp only [g7, g8, bb_s, show M.2 14 = X.2 23 from ra h 23 (by decide), show M.2 15 = X.2 24 from ra h 24 (by decide), show M.2 16 = X.2 25 from ra h 25 (by decide), show M.2 17 = X.2 26 from ra h 26 (by decide), show M.2 18 = X.2 27 from ra h 27 (by decide)]
    by_cases d0 : b = 0
    · simp only [d0, if_true]; exact ⟨_, _, _, rfl, rfl, h⟩
    by_cases d1 : b = 1
    · simp only [d0, d1, if_true, if_false]; exact ⟨_, _, _, rfl, rfl, h⟩
    by_cases d2 : b = 2
    · simp only [d0, d1, d2, if_true, if_false]; exact ⟨_, _, _, rfl, rfl, h⟩
    by_cases d3 : b = 3
    · simp only [d0, d1, d2, d3, if_true, if_false]; exact ⟨_, _, _, rfl, rfl, h⟩
    by_cases d4 : b = 4
    · simp only [d0, d1, d2, d3, d4, if_true, if_false]; exact ⟨_, _, _, rfl, rfl, h⟩
    simp only [d0, d1, d2, d3, d4, if_false]
    exact ⟨_, _, _, rfl, rfl, rel_fnd 1 h⟩
  · simp only [c1, not_false_eq_true, if_true]
    exact ⟨_, _, _, rfl, rfl, rel_fnd 1 h⟩
set_option maxHeartbeats 4000000 in
theorem st_given : St1 Rel fX7_given fX8_given := by
  intro X M h a
  obtain ⟨h1, h1b, h1m⟩ := r6 h
  obtain ⟨h7m, h7⟩ := r7 h
  unfold fX7_given fX8_given
  simp only [win7 (by omega) h1, win8 (by omega) h1m, b2_s, bI_0, fd7_1, fd8_1, fd7_3, fd8_3, h7m]
  by_cases c1 : 0 ≤ a ∧ a < nI (sz X 6)
  · obtain ⟨p, hp, rfl⟩ := ix_of c1.1 c1.2 (by omega)
    simp only [c1, and_self, not_true_eq_false, if_false]
    rcases h7 with h7 | h7
    · simp only [h7, if_true]
      exact ⟨_, _, _, rfl, rfl, rel_fnd 3 h⟩
    · rw [if_neg (by rw [h7]; decide), if_neg (by rw [h7]; decide), gA_n (by omega) (by decide), gA_n (by omega) (by decide), bb_s, bb_s, h.2.2.2.1 h7 p hp]
      exact ⟨_, _, _, rfl, rfl, h⟩
  · simp only [c1, not_false_eq_true, if_true]
    exact ⟨_, _, _, rfl, rfl, rel_fnd 1 h⟩
