/-! BEST, 10: the reference's panels -/
def PM (S : SS) (l : List Nat) : Prop := S.1 9 = nI l.length ∧ ∀ k, k < l.length → S.2 30 k = nI (gl l k)
theorem PM_push {M S : SS} {m : Nat} {l : List Nat} (hS : sM M S) (h : PM S l) : PM (pI (setA S 30 l.length (nI m)) 9 (nI (l.length + 1))) (l ++ [m]) ∧ sM M (pI (setA S 30 l.length (nI m)) 9 (nI (l.length + 1))) := by
  refine ⟨⟨?_, fun k hk => ?_⟩, fun q h1 => ?_, fun q h1 h2 => ?_⟩
  · rw [pI_s, List.length_append]
    rfl
  · rw [pI_2, setA_s]
    by_cases c : k = l.length
    · rw [c, pk_us]
      have := gl_at l m []
      rw [this]
    · have hk2 : k < l.length := by simp at hk; omega
      rw [pk_un c, h.2 k hk2, gl_pre hk2]
  · rw [pI_o h1, setA_1, hS.1 q h1]
  · rw [pI_2, setA_o h1, hS.2 q h1 h2]
theorem fp1 {X M : SS} {b c : Nat} {base : List Nat} (h : Rel X M) (hb : b < c) (hc : c < sz X 1) (h20 : (base ++ lq1 (exv X) b c b).length ≤ 20) : ∀ d a S n, a + d = b → d < n → sM M S → PM S (base ++ lq1 (exv X) b c a) → ∃ T, (∀ k7 k18 x1 x2, fX8_findPanels_b27 NN k7 k18 n S x1 x2 (nI c) (nI b) (nI a) = k18 T x1 x2 (nI c) (nI (b + 1))) ∧ sM M T ∧ PM T (base ++ lq1 (exv X) b c b) := by
  obtain ⟨h1, h1b, h1m⟩ := r1 h
  have e10 : M.2 1 = X.2 10 := ra h 10 (by decide)
  intro d
  induction d with
  | zero =>
    intro a S n ha hn hS hP
    obtain ⟨n, rfl⟩ : ∃ m, n = m + 1 := ⟨n - 1, by omega⟩
    have hab : a = b := by omega
    subst hab
    refine ⟨S, fun k7 k18 x1 x2 => ?_, hS, hP⟩
    rw [fX8_findPanels_b27, if_pos (nI_le (Nat.le_refl _) (by omega)), n1]
  | succ d ih =>
    intro a S n ha hn hS hP
    obtain ⟨n, rfl⟩ : ∃ m, n = m + 1 := ⟨n - 1, by omega⟩
    have hm := lq1_mono (e := exv X) (y := b) (x := c) d (a + 1)
    rw [show a + 1 + d = b by omega, lq1, List.length_append] at hm
    have e1 : S.2 1 = X.2 10 := by rw [hS.2 1 (by decide) (by decide), e10]
    have row : ∀ k7 k18 x1 x2, fX8_findPanels_b27 NN k7 k18 (n + 1) S x1 x2 (nI c) (nI b) (nI a) = if X.2 10 a = 1 then (if X.2 10 b = 1 then (if X.2 10 c = 1 then (bb (pA S 30 20 (S.1 9) (nI (mk a b c))) fun S1 => bb (pO S1 9 ((S1.1 9) + 1)) fun S2 => fX8_findPanels_b27 NN k7 k18 n S2 x1 x2 (nI c) (nI b) (nI (a + 1))) else fX8_findPanels_b27 NN k7 k18 n S x1 x2 (nI c) (nI b) (nI (a + 1))) else fX8_findPanels_b27 NN k7 k18 n S x1 x2 (nI c) (nI b) (nI (a + 1))) else fX8_findPanels_b27 NN k7 k18 n S x1 x2 (nI c) (nI b) (nI (a + 1)) := by
      intro k7 k18 x1 x2
      rw [fX8_findPanels_b27, if_neg (n_nle (by omega) (by omega)), gA_n (by omega) (by decide), bb_s, gA_n (by omega) (by decide), bb_s, gA_n (by omega) (by decide), bb_s, e1, mk_I (by omega) (by omega) (by omega), n1]
    have hne : (exv X a && (exv X b && exv X c)) = false → ∃ T, (∀ k7 k18 x1 x2, fX8_findPanels_b27 NN k7 k18 n S x1 x2 (nI c) (nI b) (nI (a + 1)) = k18 T x1 x2 (nI c) (nI (b + 1))) ∧ sM M T ∧ PM T (base ++ lq1 (exv X) b c b) := by
      intro z
      refine ih (a + 1) S n (by omega) (by omega) hS ?_
      rw [lq1, z, if_neg (by decide), List.append_nil]
      exact hP
    unfold exv at hne
    by_cases ca : X.2 10 a = 1
    · by_cases cb : X.2 10 b = 1
      · by_cases cc : X.2 10 c = 1
        · have ht : (exv X a && (exv X b && exv X c)) = true := by unfold exv; simp [ca, cb, cc]
          rw [ht] at hm
          have hll : (base ++ lq1 (exv X) b c a).length < 20 := by
            rw [List.length_append] at h20 ⊢
            simp at hm
            omega
          obtain ⟨p1, p2⟩ := PM_push (m := mk a b c) hS hP
          obtain ⟨T, t1, t2, t3⟩ := ih (a + 1) _ n (by omega) (by omega) p2 (by rw [lq1, ht, if_pos rfl, ← List.append_assoc]; exact p1)
          refine ⟨T, fun k7 k18 x1 x2 => ?_, t2, t3⟩
          rw [row, if_pos ca, if_pos cb, if_pos cc, hP.1, pA_n (by omega) (by decide), bb_s, setA_1, hP.1, n1, pO_s, bb_s]
          exact t1 k7 k18 x1 x2
        · obtain ⟨T, t1, t2⟩ := hne (by simp [cc])
          exact ⟨T, fun k7 k18 x1 x2 => by rw [row, if_pos ca, if_pos cb, if_neg cc]; exact t1 k7 k18 x1 x2, t2⟩
      · obtain ⟨T, t1, t2⟩ := hne (by simp [cb])
        exact ⟨T, fun k7 k18 x1 x2 => by rw [row, if_pos ca, if_neg cb]; exact t1 k7 k18 x1 x2, t2⟩
    · obtain ⟨T, t1, t2⟩ := hne (by simp [ca])
      exact ⟨T, fun k7 k18 x1 x2 => by rw [row, if_neg ca]; exact t1 k7 k18 x1 x2, t2⟩
theorem fp2 {X M : SS} {c : Nat} {base : List Nat} (h : Rel X M) (hc : c < sz X 1) (h20 : (base ++ lq2 (exv X) c c).length ≤ 20) : ∀ d b S n, b + d = c → d < n → sM M S → PM S (base ++ lq2 (exv X) c b) → ∃ T, (∀ k7 x1 x2, fX8_findPanels_b18 NN k7 n S x1 x2 (nI c) (nI b) = k7 T x1 x2 (nI (c + 1))) ∧ sM M T ∧ PM T (base ++ lq2 (exv X) c c) := by
  have h1b := (r1 h).2.1
  intro d
  induction d with
  | zero =>
    intro b S n hb hn hS hP
    obtain ⟨n, rfl⟩ : ∃ m, n = m + 1 := ⟨n - 1, by omega⟩
    have hab : b = c := by omega
    subst hab
    refine ⟨S, fun k7 x1 x2 => ?_, hS, hP⟩
    rw [fX8_findPanels_b18, if_pos (nI_le (Nat.le_refl _) (by omega)), n1]
  | succ d ih =>
    intro b S n hb hn hS hP
    obtain ⟨n, rfl⟩ : ∃ m, n = m + 1 := ⟨n - 1, by omega⟩
    have hm := lq2_mono (e := exv X) (x := c) d (b + 1)
    rw [show b + 1 + d = c by omega, lq2, List.length_append] at hm
    obtain ⟨U, u1, u2, u3⟩ := fp1 (base := base ++ lq2 (exv X) c b) h (show b < c by omega) hc (by
      simp only [List.length_append] at h20 ⊢
      omega) b 0 S NN (by omega) (by unfold NN; omega) hS (by rw [lq1, List.append_nil]; exact hP)
    obtain ⟨T, t1, t2, t3⟩ := ih (b + 1) U n (by omega) (by omega) u2 (by rw [lq2, ← List.append_assoc]; exact u3)
    refine ⟨T, fun k7 x1 x2 => ?_, t2, t3⟩
    rw [← t1 k7 x1 x2, fX8_findPanels_b18, if_neg (n_nle (by omega) (by omega))]
    exact u1 _ _ _ _
theorem fp3 {X M : SS} {x1 x2 : Int32} (h : Rel X M) (h20 : (lq3 (exv X) (sz X 1)).length ≤ 20) : ∀ d c S n, 2 ≤ c → c + d = sz X 1 → d < n → sM M S → PM S (lq3 (exv X) c) → ∃ T, fX8_findPanels_b7 NN n S x1 x2 (nI c) = fX8_findPanels_b116 NN T x1 x2 ∧ sM M T ∧ PM T (lq3 (exv X) (sz X 1)) := by
  obtain ⟨h1, h1b, h1m⟩ := r1 h
  intro d
  induction d with
  | zero =>
    intro c S n hc2 hc hn hS hP
    obtain ⟨n, rfl⟩ : ∃ m, n = m + 1 := ⟨n - 1, by omega⟩
    have hab : c = sz X 1 := by omega
    rw [hab] at hP
    refine ⟨S, ?_, hS, hP⟩
    rw [fX8_findPanels_b7, hS.1 0 (by decide), h1m, if_pos (nI_le (by omega) (by omega))]
  | succ d ih =>
    intro c S n hc2 hc hn hS hP
    obtain ⟨n, rfl⟩ : ∃ m, n = m + 1 := ⟨n - 1, by omega⟩
    have hm := lq3_mono (e := exv X) d (c + 1)
    rw [show c + 1 + d = sz X 1 by omega, lq3, List.length_append] at hm
    obtain ⟨U, u1, u2, u3⟩ := fp2 (base := lq3 (exv X) c) h (show c < sz X 1 by omega) (by
      rw [List.length_append]
      omega) (c - 1) 1 S NN (by omega) (by unfold NN; omega) hS (by rw [lq2, lq2, lq1, List.append_nil, List.append_nil]; exact hP)
    obtain ⟨T, t1, t2, t3⟩ := ih (c + 1) U n (by omega) (by omega) (by omega) u2 (by rw [lq3]; exact u3)
    refine ⟨T, ?_, t2, t3⟩
    rw [← t1, fX8_findPanels_b7, hS.1 0 (by decide), h1m, if_neg (n_nle (by omega) (by omega))]
    exact u1 _ _ _
theorem q20 {X M : SS} (h : Rel X M) : (lq3 (exv X) (sz X 1)).length ≤ 20 := by
  rw [lq3_len]
  exact zz3_le (exv_6 h)
theorem fp_ok {X M : SS} {x1 x2 : Int32} (h : Rel X M) : ∃ T, fX8_findPanels NN M x1 x2 = fX8_findPanels_b116 NN T x1 x2 ∧ sM M T ∧ PM T (lq3 (exv X) (sz X 1)) := by
  obtain ⟨h1, h1b, h1m⟩ := r1 h
  have hS : sM M (pI M 9 0) := ⟨fun k hk => pI_o hk, fun _ _ _ => rfl⟩
  have hP0 : PM (pI M 9 0) [] := ⟨pI_s M 9 0, fun k hk => absurd hk (Nat.not_lt_zero k)⟩
  have e2 : lq3 (exv X) 2 = [] := rfl
  unfold fX8_findPanels
  rw [pO_s, bb_s]
  by_cases c : 2 ≤ sz X 1
  · exact fp3 h (q20 h) (sz X 1 - 2) 2 (pI M 9 0) NN (by omega) (by omega) (by unfold NN; omega) hS (by rw [e2]; exact hP0)
  · refine ⟨pI M 9 0, ?_, hS, ?_⟩
    · have : ∀ m, fX8_findPanels_b7 NN (m + 1) (pI M 9 0) x1 x2 2 = fX8_findPanels_b116 NN (pI M 9 0) x1 x2 := by
        intro m
        rw [fX8_findPanels_b7, hS.1 0 (by decide), h1m, if_pos (show nI (sz X 1) ≤ (2 : Int32) from nI_le (b := 2) (by omega) (by decide))]
      exact this 999999
    · have hc : sz X 1 = 0 ∨ sz X 1 = 1 := by omega
      rcases hc with e | e
      · rw [e]; exact hP0
      · rw [e]; exact hP0
def ftv (X : SS) (u : Nat) (day : Int32) (i q : Nat) : Bool := cv X u day i && pv X u day i q
theorem PM_31 {S : SS} {l : List Nat} {m : Nat} {v : Int32} (h : PM S l) : PM (setA S 31 m v) l := ⟨h.1, fun k hk => by rw [setA_o (by decide)]; exact h.2 k hk⟩
theorem sM_31 {M S : SS} {m : Nat} {v : Int32} (h : sM M S) : sM M (setA S 31 m v) := ⟨h.1, fun q h1 h2 => by rw [setA_o h2]; exact h.2 q h1 h2⟩
theorem fp5 {X M : SS} {u i p v : Nat} {day : Int32} {Q : List Nat} (h : Rel X M) (hs : Sd X M) (hu : u < 3) (hi : i < 4) (hp : p < sz X 1) (e33 : X.2 33 i = nI p) (c2 : cv X u day i = true → ∃ r, r < 40 ∧ rv X u day i = nI r) (hrule : ∀ T, sM M T → fX8_ruleOf NN T (nI u) (nI v + 1) day = some (rv X u day i, T)) (hQ : Q.length ≤ 20) (hq : ∀ q, q ∈ Q → q < 2 ^ sz X 1) : ∀ d k S n, k + d = Q.length → d < n → sM M S → PM S Q → ∃ T, (∀ k123, fX8_findPanels_b181 NN k123 n S (nI u) day (nI i) (nI p) (nI v + 1) (bI (cv X u day i = true)) (nI k) = k123 T (nI u) day (nI (i + 1))) ∧ sM M T ∧ PM T Q ∧ (∀ m, m < 20 * i + k ∨ 20 * i + Q.length ≤ m → T.2 31 m = S.2 31 m) ∧ ∀ y, k ≤ y → y < Q.length → T.2 31 (20 * i + y) = bI (ftv X u day i (gl Q y) = true) := by
  intro d
  induction d with
  | zero =>
    intro k S n hk hn hS hP
    obtain ⟨n, rfl⟩ : ∃ m, n = m + 1 := ⟨n - 1, by omega⟩
    refine ⟨S, fun k123 => ?_, hS, hP, fun _ _ => rfl, fun y h1 h2 => by omega⟩
    rw [fX8_findPanels_b181, hP.1, if_pos (nI_le (by omega) (by omega)), n1]
  | succ d ih =>
    intro k S n hk hn hS hP
    obtain ⟨n, rfl⟩ : ∃ m, n = m + 1 := ⟨n - 1, by omega⟩
    have row : ∀ k123, fX8_findPanels_b181 NN k123 (n + 1) S (nI u) day (nI i) (nI p) (nI v + 1) (bI (cv X u day i = true)) (nI k) = fX8_findPanels_b181 NN k123 n (setA S 31 (20 * i + k) (bI (ftv X u day i (gl Q k) = true))) (nI u) day (nI i) (nI p) (nI v + 1) (bI (cv X u day i = true)) (nI (k + 1)) := by
      intro k123
      rw [fX8_findPanels_b181, hP.1, if_neg (n_nle (by omega) (by omega)), show (20 : Int32) * nI i + nI k = nI (20 * i + k) by rw [show (20 : Int32) = nI 20 from rfl, pk_mul, nI_add]]
      unfold fX8_findPanels_b237
      rw [nar1, nar0, pA_n (by omega) (by decide), bb_s, n1 k]
      unfold ftv
      cases c : cv X u day i with
      | false =>
        rw [if_pos (bI_f (by decide)), Bool.false_and, bI_f (p := (false = true)) (by decide)]
      | true =>
        rw [if_neg (by rw [bI_t rfl]; decide), Bool.true_and, hrule S hS, b2_s, gA_n (by omega) (by decide), bb_s, hP.2 k (by omega)]
        obtain ⟨r, hr, er⟩ := c2 c
        obtain ⟨z, z1, z2⟩ := panel_both (m := gl Q k) (day := day) (relB h (sX_r X) hS) (SdB hs (sX_r X) hS) hp hu hr (hq _ (gl_mem (by omega)))
        have epv : pv X u day i (gl Q k) = decide (z = 0) := by
          unfold pv
          rw [er, nI_clamp (by omega), e33, z1, gv_s]
        rw [er, z2, b2_s, epv]
        by_cases cz : z = 0
        · rw [if_pos cz, pA_n (by omega) (by decide), bb_s, bI_t (p := (decide (z = 0) = true)) (decide_eq_true cz)]
        · rw [if_neg cz, pA_n (by omega) (by decide), bb_s, bI_f (p := (decide (z = 0) = true)) (by rw [decide_eq_false cz]; decide)]
    obtain ⟨T, t1, t2, t3, t4, t5⟩ := ih (k + 1) _ n (by omega) (by omega) (sM_31 (m := 20 * i + k) (v := bI (ftv X u day i (gl Q k) = true)) hS) (PM_31 hP)
    refine ⟨T, fun k123 => by rw [row, t1], t2, t3, fun m hm => ?_, fun y h1 h2 => ?_⟩
    · rw [t4 m (by omega), setA_s, pk_un (by omega)]
    · by_cases c : y = k
      · rw [c, t4 _ (by omega), setA_s, pk_us]
      · exact t5 y (by omega) h2
theorem fp4 {X M : SS} {u : Nat} {day : Int32} {Q : List Nat} (h : Rel X M) (hs : Sd X M) (hu : u < 3) (hd : 0 ≤ day ∧ day ≤ 30000) (hQ : Q.length ≤ 20) (hq : ∀ q, q ∈ Q → q < 2 ^ sz X 1) : ∀ d i S n, i + d = sz X 6 → d < n → sM M S → PM S Q → (∀ j k, j < i → k < Q.length → S.2 31 (20 * j + k) = bI (ftv X u day j (gl Q k) = true)) → ∃ T, fX8_findPanels_b123 NN n S (nI u) day (nI i) = some T ∧ sM M T ∧ PM T Q ∧ ∀ j k, j < sz X 6 → k < Q.length → T.2 31 (20 * j + k) = bI (ftv X u day j (gl Q k) = true) := by
  obtain ⟨h6, h6b, h6m⟩ := r6 h
  have e22 : M.2 22 = X.2 33 := ra h 33 (by decide)
  intro d
  induction d with
  | zero =>
    intro i S n hi hn hS hP hM
    obtain ⟨n, rfl⟩ : ∃ m, n = m + 1 := ⟨n - 1, by omega⟩
    rw [fX8_findPanels_b123, hS.1 5 (by decide), h6m, if_pos (nI_le (by omega) (by omega))]
    exact ⟨S, rfl, hS, hP, fun j k hj => hM j k (by omega)⟩
  | succ d ih =>
    intro i S n hi hn hS hP hM
    obtain ⟨n, rfl⟩ : ∃ m, n = m + 1 := ⟨n - 1, by omega⟩
    obtain ⟨p, v, hp, e33, hv10, ehv, c1, c2, c3, c4⟩ := cand h hs hu hd (show i < sz X 6 by omega)
    obtain ⟨d1, d2, q, d3, d4⟩ := c4 S hS
    have hlt : ((10 : Int32) < nI v + 1) ↔ 10 < v + 1 := by
      rw [n1]
      exact lt_n (by omega) (by decide)
    obtain ⟨T, t1, t2, t3, t4, t5⟩ := fp5 (v := v) h hs hu (show i < 4 by omega) hp e33 c2 (fun T hT => (c4 T hT).2.1) hQ hq Q.length 0 S NN (by omega) (by unfold NN; omega) hS hP
    obtain ⟨U, u1, u2, u3, u4⟩ := ih (i + 1) T n (by omega) (by omega) t2 t3 (fun j k hj hk => by
      by_cases c : j = i
      · rw [c]; exact t5 k (by omega) hk
      · rw [t4 _ (by omega)]
        exact hM j k (by omega) hk)
    have t1' := t1 (fun S x1 x2 x3 => fX8_findPanels_b123 NN n S x1 x2 x3)
    refine ⟨U, ?_, u2, u3, u4⟩
    rw [← u1, fX8_findPanels_b123, hS.1 5 (by decide), h6m, if_neg (n_nle (by omega) (by omega)), gA_n (by omega) (by decide), bb_s, hS.2 22 (by decide) (by decide), e22, e33, d1, b2_s]
    by_cases cl : 10 < v + 1
    · rw [if_pos (hlt.mpr cl)]
      rw [c1 (by omega), bI_f (p := (false = true)) (by decide)] at t1'
      exact t1'
    · rw [if_neg (fun z => cl (hlt.mp z)), d3, b2_s]
      by_cases cq : q = 0
      · rw [if_pos cq]
        rw [bI_t (d4.mp cq)] at t1'
        exact t1'
      · rw [if_neg cq]
        rw [bI_f (fun z => cq (d4.mpr z))] at t1'
        exact t1'
theorem ov_filter {X M : SS} {u i : Nat} {day : Int32} (h : Rel X M) (hs : Sd X M) (hu : u < 3) (hd : 0 ≤ day ∧ day ≤ 30000) (hi : i < sz X 6) : (lq3 (exv X) (sz X 1)).filter (ftv X u day i) = ov X u day i := by
  obtain ⟨p, v, hp, e33, hv10, ehv, c1, c2, c3, c4⟩ := cand h hs hu hd hi
  unfold ov
  by_cases c : cv X u day i = true
  · rw [if_pos c]
    obtain ⟨r, hr, er⟩ := c2 c
    have hex : ∀ x, x < sz X 1 → fv X u day i x = true → exv X x = true := fun x hx hf => decide_eq_true ((judg h hs hu hp e33 hr er x hx).1 hf)
    apply fl3 (N := sz X 1) _ _ (Nat.le_refl _)
    intro a b d hab hbd hd2
    unfold ftv
    rw [c, Bool.true_and, pv_mk h hs hu hp e33 hr er hab hbd hd2, Bool.eq_iff_iff]
    simp only [Bool.and_eq_true]
    exact ⟨fun z => z.2, fun z => ⟨⟨hex a (by omega) z.1, hex b (by omega) z.2.1, hex d (by omega) z.2.2⟩, z⟩⟩
  · rw [if_neg c, List.filter_eq_nil_iff]
    intro q _ z
    unfold ftv at z
    simp at z
    exact c z.1
theorem en_congr {O P : Nat → List Nat} {F : List Nat → Nat → Bool} : ∀ d i pre now, (∀ j, i ≤ j → j < i + d → O j = P j) → en O F d i pre now = en P F d i pre now := by
  intro d
  induction d with
  | zero =>
    intro i pre now _
    rfl
  | succ d ih =>
    intro i pre now h
    have e : ∀ pre now, en O F d (i + 1) pre now = en P F d (i + 1) pre now := fun pre now => ih (i + 1) pre now (fun j h1 h2 => h j (by omega) (by omega))
    rw [en, en, h i (by omega) (by omega), e]
    congr 1
    congr 1
    funext p
    exact e _ _
