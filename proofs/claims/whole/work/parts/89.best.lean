/-! BEST -/
theorem sm_7 : ∀ k, k < 9 → k ≠ 7 → sm k ≠ 6 ∧ sm k ≠ 9 ∧ sm k ≠ 10 := by decide
theorem rel_best {X M T U : SS} (h : Rel X M) (x1 : T.1 = (pI X 7 1).1) (x2 : ∀ q, q ≠ 34 → q ≠ 35 → q ≠ 36 → q ≠ 37 → T.2 q = X.2 q) (m6 : U.1 6 = 1) (m1 : ∀ k, k ≠ 6 → k ≠ 9 → k ≠ 10 → U.1 k = M.1 k) (m2 : ∀ q, q ≠ 23 → q ≠ 30 → q ≠ 31 → q ≠ 32 → q ≠ 33 → U.2 q = M.2 q) (hg : ∀ i, i < sz X 6 → T.2 36 i = U.2 23 i) : Rel T U := by
  obtain ⟨a1, a2, a3, a4, a5, a6, a7, a8, a9, a10, a11, a12⟩ := h
  have et : ∀ k, k ≠ 7 → T.1 k = X.1 k := fun k hk => by rw [x1]; exact pI_o hk
  have e7 : T.1 7 = 1 := by rw [x1]; exact pI_s X 7 1
  have ez : ∀ k, k ≠ 7 → sz T k = sz X k := fun k hk => by unfold sz; rw [et k hk]
  have e2 : ∀ q, q ≠ 34 ∧ q ≠ 35 ∧ q ≠ 36 ∧ q ≠ 37 → T.2 q = X.2 q := fun q hq => x2 q hq.1 hq.2.1 hq.2.2.1 hq.2.2.2
  refine ⟨fun k hk => ?_, fun q hq => ?_, ?_, ?_, ?_, ?_, ?_, ?_, ?_, ?_, ?_, ?_⟩
  · by_cases c : k = 7
    · rw [c, e7]
      exact m6.symm
    · obtain ⟨s1, s2, s3⟩ := sm_7 k hk c
      rw [et k c, m1 _ s1 s2 s3]
      exact a1 k hk
  · obtain ⟨z1, z2, z3, z4, z5, z6, z7, z8, z9, z10, z11, z12, z13, z14⟩ := arrs_ok q hq
    rw [x2 q z7 z8 z9 z10, m2 _ z2 z11 z12 z13 z14]
    exact a2 q hq
  · unfold RV; rw [e2 22 (by decide), m2 6 (by decide) (by decide) (by decide) (by decide) (by decide)]; exact a3
  · intro _ i hi
    rw [ez 6 (by decide)] at hi
    exact hg i hi
  · unfold InvS
    rw [et 0 (by decide), et 1 (by decide), et 2 (by decide), et 3 (by decide), et 4 (by decide), et 5 (by decide), et 6 (by decide), et 8 (by decide), ez 0 (by decide), ez 1 (by decide), ez 2 (by decide), ez 3 (by decide), ez 4 (by decide), ez 5 (by decide), ez 6 (by decide), ez 8 (by decide), e7]
    exact ⟨a5.1, a5.2.1, a5.2.2.1, a5.2.2.2.1, a5.2.2.2.2.1, a5.2.2.2.2.2.1, a5.2.2.2.2.2.2.1, a5.2.2.2.2.2.2.2.1, Or.inr rfl⟩
  · unfold InvP; rw [ez 1 (by decide), e2 11 (by decide)]; exact a6
  · unfold InvC; rw [ez 1 (by decide), ez 2 (by decide), exC_cong (e2 10 (by decide))]; exact a7
  · unfold InvR; rw [ez 3 (by decide), e2 18 (by decide), e2 15 (by decide)]; exact a8
  · unfold InvE; rw [ez 4 (by decide), ez 1 (by decide), e2 23 (by decide), e2 24 (by decide), e2 25 (by decide)]; exact a9
  · unfold InvK; rw [ez 5 (by decide), ez 1 (by decide), e2 30 (by decide)]; exact a10
  · unfold InvW; rw [ez 6 (by decide), ez 1 (by decide), e2 33 (by decide)]; exact a11
  · unfold InvM; rw [ez 8 (by decide), e2 38 (by decide), e2 39 (by decide), e2 40 (by decide)]; exact a12
theorem best_core {X M : SS} {u L : Nat} {day : Int32} (h : Rel X M) (hu : u < 3) (hd : 0 ≤ day ∧ day ≤ 30000) (hL : 1 ≤ L) (hL4 : L ≤ 4) : ∃ r X1 M1, (bb (fX2_know NN X day) fun S4 => b2 (fX1_seat NN S4 (nI u) day (nI L)) fun r4 S5 => some (r4, S5)) = some (r, X1) ∧ (bb (fX8_findPanels NN M (nI u) day) fun S4 => bb (fX8_tryAll NN S4 (nI L)) fun S5 => bb (pO S5 6 1) fun S6 => some ((S6.1 10), S6)) = some (r, M1) ∧ Rel X1 M1 := by
  obtain ⟨P, p1, p2, p3⟩ := fp_ok (x1 := nI u) (x2 := day) h
  have hRP := relB h (sX_r X) p2
  obtain ⟨Y, W, k1, k2, k3, k4, k5, k6, k7, k8⟩ := know_both hRP day
  have ex : exv Y = exv X := by
    funext x
    unfold exv
    rw [k7 10 (by decide) (by decide)]
  have es1 : sz Y 1 = sz X 1 := by unfold sz; rw [k5]
  have hPW : PM W (lq3 (exv Y) (sz Y 1)) := by
    rw [ex, es1]
    unfold PM
    rw [k6, k8 30 (by decide)]
    exact p3
  obtain ⟨y1, y1b, y1m⟩ := r1 k3
  obtain ⟨y6, y6b, y6m⟩ := r6 k3
  have hq : ∀ q, q ∈ lq3 (exv Y) (sz Y 1) → q < 2 ^ sz Y 1 := by
    intro q hq
    obtain ⟨a, b, c, h1, h2, h3, _, _, _, e⟩ := lq3_mem _ hq
    rw [e]
    exact mk_lt (by omega) (by omega) h3
  obtain ⟨V, v1, v2, v3, v4⟩ := fp4 k3 k4 hu hd (q20 k3) hq (sz Y 6) 0 W NN (by omega) (by unfold NN; omega) (sM_r W) hPW (fun j k hj => absurd hj (Nat.not_lt_zero j))
  have hF : FX (sz Y 1) (sz Y 6) (lq3 (exv Y) (sz Y 1)) (ftv Y u day) V := ⟨⟨by rw [v2.1 0 (by decide)]; exact y1m, y1b⟩, ⟨by rw [v2.1 5 (by decide)]; exact y6m, y6b⟩, ⟨v3.1, q20 k3⟩, v3.2, v4, hq⟩
  obtain ⟨T, t1, t2, t3⟩ := tryAll_ok hL4 hF
  have een : en (fun i => (lq3 (exv Y) (sz Y 1)).filter (ftv Y u day i)) (feas L) (sz Y 6) 0 [] 0 = en (ov Y u day) (feas L) (sz Y 6) 0 [] 0 := en_congr _ _ _ _ (fun j _ hj => ov_filter k3 k4 hu hd (by omega))
  rw [een] at t3
  obtain ⟨c, l, Z, z1, z2, z3, z4, z5, z6⟩ := class_ok k3 k4 hu hd hL hL4
  obtain ⟨w1, w2, w3⟩ := upE_ok (en (ov Y u day) (feas L) (sz Y 6) 0 [] 0) (-1, [])
  have hmem := List.mem_of_find?_eq_some z2
  have hcw : c ≤ sz Y 6 := by have := (en_rng _ _ _ _ _ hmem).2.1; simp at this; exact this
  have hfold : (en (ov Y u day) (feas L) (sz Y 6) 0 [] 0).foldl upE (-1, []) = ((c : Int), l) := by
    have hge := w2 _ hmem
    rcases w3 with e | ⟨_, c', e1, e2⟩
    · rw [e] at hge
      simp at hge
      omega
    · have hm2 := List.mem_of_find?_eq_some e2
      have hle := z3 _ hm2
      have hcc : c' = c := by
        rw [e1] at hge
        simp at hge hle
        omega
      rw [hcc] at e1 e2
      rw [z2] at e2
      have el := congrArg Prod.fst (Option.some.inj e2)
      exact Prod.ext e1 el.symm
  rw [hfold] at t3
  have e10 : T.1 10 = nI c := by
    rw [i_eq, t3.1, nI_toInt (by omega)]
  have hb116 : fX8_findPanels NN M (nI u) day = some V := by
    rw [p1]
    unfold fX8_findPanels_b116
    rw [k2, bb_s]
    exact v1
  refine ⟨nI c, Z, pI T 6 1, ?_, ?_, ?_⟩
  · rw [k1, bb_s, z1, b2_s]
  · rw [hb116, bb_s, t1, bb_s, pO_s, bb_s, pI_o (by decide), e10]
  · apply rel_best k3 z4 z5
    · exact pI_s T 6 1
    · intro k a b d
      rw [pI_o a, t2.1 k d, v2.1 k b]
    · intro q a b d e f
      rw [pI_2, t2.2 q a e f, v2.2 q b d]
    · intro i hi
      rw [z6 i hi, pI_2]
      exact (t3.2 (by simp) i hi).symm
set_option maxHeartbeats 4000000 in
theorem st_best : St3 Rel fX7_best fX8_best := by
  intro X M h a b c
  unfold fX7_best fX8_best fX7_best_b23 fX8_best_b23
  simp only [uni7, uni8, day7, day8, w7, w8, b2_s, bI_0, fd7_1, fd8_1]
  by_cases c1 : 0 ≤ a ∧ a ≤ 2
  · by_cases c2 : 0 ≤ b ∧ b ≤ 30000
    · by_cases c3 : 1 ≤ c ∧ c ≤ 4
      · obtain ⟨u, hu, rfl⟩ := ix_le (n := 2) (by decide) c1.1 c1.2
        obtain ⟨L, hL, hL4, rfl⟩ := ix_1 (n := 4) (by decide) (by decide) c3.1 c3.2
        simp only [c1, c2, c3, not_true_eq_false, and_self, if_false]
        exact best_core h (by omega) c2 hL hL4
      · simp only [c1, c2, c3, not_true_eq_false, not_false_eq_true, and_self, if_false, if_true]
        exact ⟨_, _, _, rfl, rfl, rel_fnd 1 h⟩
    · simp only [c1, c2, not_true_eq_false, not_false_eq_true, and_self, if_false, if_true]
      exact ⟨_, _, _, rfl, rfl, rel_fnd 1 h⟩
  · simp only [c1, not_false_eq_true, if_true]
    exact ⟨_, _, _, rfl, rfl, rel_fnd 1 h⟩
