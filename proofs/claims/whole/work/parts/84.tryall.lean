/-! BEST, 5: the reference's search -/
def bd : Nat → Nat
  | 0 => 1
  | d + 1 => 1 + 21 * (1 + bd d)
theorem b177_end {np w : Nat} {Q : List Nat} {ft : Nat → Nat → Bool} {k40 : SS → Int32 → Int32 → Int32 → Option SS} {m : Nat} {S : SS} {L x : Int32} {i k : Nat} (hF : FX np w Q ft S) (hi : i < w) (hk : S.2 32 i = nI k) (hk1 : Q.length ≤ k) (hk2 : k ≤ 100) (hm : 0 < m) : fX8_tryAll_b177 NN k40 m S L (nI i) x = fX8_tryAll_b241 NN k40 S L (nI i) x := by
  obtain ⟨m, rfl⟩ : ∃ k, m = k + 1 := ⟨m - 1, by omega⟩
  have hw := hF.2.1.2
  rw [fX8_tryAll_b177, gA_n (by omega) (by decide), bb_s, hk, hF.2.2.1.1, if_pos (nI_le hk1 (by omega))]
theorem b167_ok {np w : Nat} {Q : List Nat} {ft : Nat → Nat → Bool} {k40 : SS → Int32 → Int32 → Int32 → Option SS} {S : SS} {L x : Int32} {i k : Nat} (hF : FX np w Q ft S) (hi : i < w) (hk : S.2 32 i = nI k) : fX8_tryAll_b167 NN k40 S L (nI i) x = fX8_tryAll_b177 NN k40 NN (setA S 32 i (nI (k + 1))) L (nI i) x := by
  have hw := hF.2.1.2
  unfold fX8_tryAll_b167
  rw [gA_n (by omega) (by decide), bb_s, hk, n1, pA_n (by omega) (by decide), bb_s]
theorem lvl1 {np w : Nat} {Q : List Nat} {ft : Nat → Nat → Bool} {n : Nat} {S : SS} {L x : Int32} {i k : Nat} (hF : FX np w Q ft S) (hi : i < w) (hk : S.2 32 i = nI k) (hk2 : k ≤ 100) (c : Q.length ≤ k) : fX8_tryAll_b40 NN (n + 1) S L (nI i) x = fX8_tryAll_b177 NN (fun S x1 x2 x3 => fX8_tryAll_b40 NN n S x1 x2 x3) NN (setA S 32 i (nI (k + 1))) L (nI i) x := by
  have hw := hF.2.1.2
  have h20 := hF.2.2.1.2
  rw [fX8_tryAll_b40, if_neg (nI_pos (by omega)), hF.2.1.1, if_neg (fun z => by have := (nI_eq (a := i) (b := w) (by omega) (by omega)).mp z; omega), gA_n (by omega) (by decide), bb_s, bb_s, bb_s, hk, if_neg (nI_pos (by omega)), hF.2.2.1.1]
  rw [if_pos (nI_le c (by omega)), b167_ok hF hi hk]
theorem lvl2 {np w : Nat} {Q : List Nat} {ft : Nat → Nat → Bool} {S : SS} {i k : Nat} (hF : FX np w Q ft S) (hi : i < w) (hk : S.2 32 i = nI k) (c : k < Q.length) : ∃ U, U.1 = S.1 ∧ (∀ j, j ≠ 33 → U.2 j = S.2 j) ∧ (∀ y, y < np → U.2 33 y = S.2 33 y + (if (gl Q k).testBit y then (-1) else 0)) ∧ ∀ n L x, fX8_tryAll_b40 NN (n + 1) S L (nI i) x = fX8_tryAll_b177 NN (fun S x1 x2 x3 => fX8_tryAll_b40 NN n S x1 x2 x3) NN (setA U 32 i (nI (k + 1))) L (nI i) (x + (-1)) := by
  have hw := hF.2.1.2
  have h20 := hF.2.2.1.2
  have hq : gl Q k < 2 ^ np := hF.2.2.2.2.2 _ (gl_mem c)
  obtain ⟨U, u1, u2, u3, u4⟩ := loads_ok (v := -1) hF.1.2 hq hF.1.1
  refine ⟨U, u2, u3, u4, fun n L x => ?_⟩
  rw [fX8_tryAll_b40, if_neg (nI_pos (by omega)), hF.2.1.1, if_neg (fun z => by have := (nI_eq (a := i) (b := w) (by omega) (by omega)).mp z; omega), gA_n (by omega) (by decide), bb_s, bb_s, bb_s, hk, if_neg (nI_pos (by omega)), hF.2.2.1.1]
  rw [if_neg (n_nle c (by omega)), gA_n (by omega) (by decide), bb_s, hF.2.2.2.1 k c, u1, bb_s]
  have hU : smT S U := ⟨fun q _ => by rw [u2], fun q _ _ h => u3 q h⟩
  rw [b167_ok (FX_s hF hU) hi (by rw [u3 32 (by decide)]; exact hk)]
theorem en_fold {O : Nat → List Nat} {L : Nat} {d i : Nat} {pre : List Nat} {now : Nat} {acc : Int × List Nat} : (en O (feas L) (d + 1) i pre now).foldl upE acc = (en O (feas L) d (i + 1) (pre ++ [0]) now).foldl upE ((((O i).filter (feas L pre)).flatMap (fun p => en O (feas L) d (i + 1) (pre ++ [p]) (now + 1))).foldl upE acc) := by
  rw [en, List.foldl_append]
theorem try_ok {np w L : Nat} {Q : List Nat} {ft : Nat → Nat → Bool} (hL4 : L ≤ 4) : ∀ d i pre now acc S, FX np w Q ft S → i + d = w → pre.length = i → now ≤ i → LD np pre S → TR Q pre S → AC w acc S → S.2 32 i = -1 → ∃ s T, s ≤ bd d ∧ smT S T ∧ LD np pre T ∧ AC w ((en (fun i => Q.filter (ft i)) (feas L) d i pre now).foldl upE acc) T ∧ (∀ j, j < i → T.2 32 j = S.2 32 j) ∧ ∀ n, fX8_tryAll_b40 NN (n + s) S (nI L) (nI i) (nI now) = fX8_tryAll_b40 NN n T (nI L) (nI i + (-1)) (nI now) := by
  intro d
  induction d with
  | zero =>
    intro i pre now acc S hF hi hl hnow hLD hTR hAC h32
    have hw := hF.2.1.2
    have hiw : i = w := by omega
    subst hiw
    have row : ∀ n, fX8_tryAll_b40 NN (n + 1) S (nI L) (nI i) (nI now) = if nI now ≤ S.1 10 then fX8_tryAll_b40 NN n S (nI L) (nI i + (-1)) (nI now) else fX8_tryAll_b68 NN (fun S x1 x2 x3 => fX8_tryAll_b40 NN n S x1 x2 x3) NN (pI S 10 (nI now)) (nI L) (nI i) (nI now) 0 := by
      intro n
      rw [fX8_tryAll_b40, if_neg (nI_pos (by omega)), hF.2.1.1, if_pos rfl, pO_s, bb_s]
    have hn : (nI now).toInt = (now : Int) := nI_toInt (by omega)
    rw [en, List.foldl_cons, List.foldl_nil]
    by_cases c : (now : Int) ≤ acc.1
    · refine ⟨1, S, Nat.le_refl _, smT_r S, hLD, ?_, fun _ _ => rfl, fun n => ?_⟩
      · unfold upE
        rw [if_neg (show ¬ acc.1 < ((now : Nat) : Int) by omega)]
        exact hAC
      · rw [row, if_pos (by rw [i_le, hn, hAC.1]; exact c)]
    · have hS2 : smT S (pI S 10 (nI now)) := ⟨fun k hk => pI_o hk, fun _ _ _ _ => rfl⟩
      obtain ⟨T, t1, t2, t3, _, t4⟩ := copy_ok (np := np) (ft := ft) (pre := pre) (L := nI L) (x2 := nI i) (x3 := nI now) hl i 0 (pI S 10 (nI now)) NN (FX_s hF hS2) hTR (by omega) (by unfold NN; omega)
      refine ⟨1, T, Nat.le_refl _, ⟨fun k hk => by rw [t2]; exact pI_o hk, fun q h1 _ _ => t3 q h1⟩, fun x hx => by rw [t3 33 (by decide)]; exact hLD x hx, ?_, fun j _ => by rw [t3 32 (by decide)]; rfl, fun n => ?_⟩
      · unfold upE
        rw [if_pos (show acc.1 < ((now : Nat) : Int) by omega)]
        exact ⟨by rw [t2, pI_s]; exact hn, fun _ j hj => t4 j (Nat.zero_le j) hj⟩
      · rw [row, if_neg (by rw [i_le, hn, hAC.1]; exact c)]
        exact t1 _
  | succ d ih =>
    intro i pre now acc S hF hi hl hnow hLD hTR hAC h32
    have hw := hF.2.1.2
    have h20 := hF.2.2.1.2
    have key : ∀ (B A : List Nat) (acc : Int × List Nat) (S : SS), FX np w Q ft S → Q = A ++ B → LD np pre S → TR Q pre S → AC w acc S → S.2 32 i = nI A.length → ∃ s T, s ≤ (B.length + 1) * (1 + bd d) ∧ smT S T ∧ LD np pre T ∧ AC w ((en (fun i => Q.filter (ft i)) (feas L) d (i + 1) (pre ++ [0]) now).foldl upE ((((B.filter (ft i)).filter (feas L pre)).flatMap (fun p => en (fun i => Q.filter (ft i)) (feas L) d (i + 1) (pre ++ [p]) (now + 1))).foldl upE acc)) T ∧ (∀ j, j < i → T.2 32 j = S.2 32 j) ∧ ∀ n m, B.length < m → fX8_tryAll_b177 NN (fun S x1 x2 x3 => fX8_tryAll_b40 NN (n + s) S x1 x2 x3) m S (nI L) (nI i) (nI now) = fX8_tryAll_b40 NN n T (nI L) (nI i + (-1)) (nI now) := by
      intro B
      induction B with
      | nil =>
        intro A acc S hF hA hLD hTR hAC h32
        rw [List.append_nil] at hA
        rw [← hA] at h32
        have hF1 := FX_s hF (smT_32 S (i + 1) (-1))
        obtain ⟨s1, T1, a1, a2, a3, a4, a5, a6⟩ := ih (i + 1) (pre ++ [0]) now acc (setA S 32 (i + 1) (-1)) hF1 (by omega) (by simp; omega) (by omega) (fun x hx => by
          rw [setA_o (by decide), hLD x hx, ldc_app, ldc_1, Nat.zero_testBit]
          rfl) (fun j hj => by
          rw [setA_s, pk_un (by simp at hj; omega)]
          by_cases c : j = i
          · subst c
            refine ⟨Q.length, Nat.le_refl _, h32, ?_⟩
            rw [if_pos rfl]
            have := gl_at pre 0 []
            rw [hl] at this
            exact this
          · have hj2 : j < pre.length := by simp at hj; omega
            rw [gl_pre hj2]
            exact hTR j hj2) hAC (by rw [setA_s, pk_us])
        have hT1 := FX_s hF1 a2
        have e32 : T1.2 32 i = nI Q.length := by rw [a5 i (by omega), setA_s, pk_un (by omega), h32]
        have hT2 := FX_s hT1 (smT_32 T1 i (nI (Q.length + 1)))
        refine ⟨s1 + 1, setA T1 32 i (nI (Q.length + 1)), by simp; omega, smT_t (smT_t (smT_32 S (i + 1) (-1)) a2) (smT_32 T1 i _), fun x hx => ?_, a4, fun j hj => ?_, fun n m hm => ?_⟩
        · rw [setA_o (by decide), a3 x hx, ldc_app, ldc_1, Nat.zero_testBit]
          rfl
        · rw [setA_s, pk_un (by omega), a5 j (by omega), setA_s, pk_un (by omega)]
        · rw [b177_end hF (by omega) h32 (Nat.le_refl _) (by omega) (by omega)]
          unfold fX8_tryAll_b241
          rw [gA_n (by omega) (by decide), bb_s, h32, hF.2.2.1.1, if_pos (nI_le (Nat.le_refl _) (by omega)), bb_s, if_pos (nI_le (Nat.le_refl _) (by omega))]
          unfold fX8_tryAll_b292
          rw [n1, pA_n (by omega) (by decide), bb_s]
          show fX8_tryAll_b40 NN (n + (s1 + 1)) _ _ _ _ = _
          rw [show n + (s1 + 1) = (n + 1) + s1 by omega, a6, pk_m1, lvl1 hT1 (by omega) e32 (by omega) (Nat.le_refl _), b177_end hT2 (by omega) (by rw [setA_s, pk_us]) (by omega) (by omega) (by unfold NN; omega)]
          unfold fX8_tryAll_b241
          rw [gA_n (by omega) (by decide), bb_s, setA_s, pk_us, setA_1, hT1.2.2.1.1, if_neg (n_nle (by omega) (by omega))]
      | cons q B ihB =>
        intro A acc S hF hA hLD hTR hAC h32
        have hlen : A.length < Q.length := by rw [hA]; simp
        have hg : gl Q A.length = q := by rw [hA]; exact gl_at A q B
        have hq : q < 2 ^ np := hF.2.2.2.2.2 q (by rw [hA]; simp)
        have hex : ∀ n m, fX8_tryAll_b177 NN (fun S x1 x2 x3 => fX8_tryAll_b40 NN n S x1 x2 x3) (m + 1) S (nI L) (nI i) (nI now) = if (ft i q && feas L pre q) = true then fX8_tryAll_b241 NN (fun S x1 x2 x3 => fX8_tryAll_b40 NN n S x1 x2 x3) S (nI L) (nI i) (nI now) else fX8_tryAll_b177 NN (fun S x1 x2 x3 => fX8_tryAll_b40 NN n S x1 x2 x3) m (setA S 32 i (nI (A.length + 1))) (nI L) (nI i) (nI now) := by
          intro n m
          have h31 := hF.2.2.2.2.1 i A.length (by omega) hlen
          rw [hg] at h31
          rw [fX8_tryAll_b177, gA_n (by omega) (by decide), bb_s, bb_s, bb_s, h32, hF.2.2.1.1, if_neg (n_nle hlen (by omega)), show (20 : Int32) * nI i + nI A.length = nI (20 * i + A.length) by rw [show (20 : Int32) = nI 20 from rfl, pk_mul, nI_add], gA_n (by omega) (by decide), bb_s, h31, gA_n (by omega) (by decide), bb_s, hF.2.2.2.1 _ hlen, hg, light_ok hF.1.1 hF.1.2 hq hL4 (by omega) hLD, b2_s]
          unfold fX8_tryAll_b228
          rw [gA_n (by omega) (by decide), bb_s, h32, n1, pA_n (by omega) (by decide), bb_s]
          cases c1 : ft i q with
          | false =>
            rw [if_pos (bI_f (by decide))]
            rfl
          | true =>
            rw [if_neg (by rw [bI_t rfl]; decide), Bool.true_and]
            cases c2 : feas L pre q with
            | false =>
              rw [if_pos (bI_f (by decide))]
              rfl
            | true =>
              rw [if_neg (by rw [bI_t rfl]; decide), if_pos rfl]
        have hmul : (B.length + 1 + 1) * (1 + bd d) = (B.length + 1) * (1 + bd d) + (1 + bd d) := by rw [Nat.succ_mul]
        by_cases cf : (ft i q && feas L pre q) = true
        · have cf1 : ft i q = true ∧ feas L pre q = true := by simpa using cf
          obtain ⟨U, u1, u2, u3, u4⟩ := loads_ok (v := 1) hF.1.2 hq hF.1.1
          have hSU : smT S U := ⟨fun k _ => by rw [u2], fun j _ _ h => u3 j h⟩
          have hU := FX_s hF hSU
          have hF1 := FX_s hU (smT_32 U (i + 1) (-1))
          obtain ⟨s1, T1, a1, a2, a3, a4, a5, a6⟩ := ih (i + 1) (pre ++ [q]) (now + 1) acc (setA U 32 (i + 1) (-1)) hF1 (by omega) (by simp; omega) (by omega) (fun x hx => by
            rw [setA_o (by decide), u4 x hx, hLD x hx, ldc_app, ldc_1]
            exact ld_up) (fun j hj => by
            rw [setA_s, pk_un (by simp at hj; omega), u3 32 (by decide)]
            by_cases c : j = i
            · subst c
              refine ⟨A.length, by omega, h32, ?_⟩
              rw [if_neg (by omega), hg]
              have := gl_at pre q []
              rw [hl] at this
              exact this
            · have hj2 : j < pre.length := by simp at hj; omega
              rw [gl_pre hj2]
              exact hTR j hj2) (by
            unfold AC
            rw [setA_1, u2, setA_o (by decide), u3 23 (by decide)]
            exact hAC) (by rw [setA_s, pk_us])
          have hT1 := FX_s hF1 a2
          have e32 : T1.2 32 i = nI A.length := by rw [a5 i (by omega), setA_s, pk_un (by omega), u3 32 (by decide), h32]
          obtain ⟨V, v1, v2, v3, v4⟩ := lvl2 hT1 (by omega) e32 hlen
          have hTV : smT T1 V := ⟨fun k _ => by rw [v1], fun j _ _ h => v2 j h⟩
          have hV := FX_s hT1 hTV
          have hVs := smT_32 V i (nI (A.length + 1))
          obtain ⟨s, T, b1, b2, b3, b4, b5, b6⟩ := ihB (A ++ [q]) ((en (fun i => Q.filter (ft i)) (feas L) d (i + 1) (pre ++ [q]) (now + 1)).foldl upE acc) (setA V 32 i (nI (A.length + 1))) (FX_s hV hVs) (by rw [hA]; simp) (fun x hx => by
            rw [setA_o (by decide), v3 x hx, a3 x hx, ldc_app, ldc_1, hg]
            exact ld_dn) (fun j hj => by
            rw [setA_s, pk_un (by omega), v2 32 (by decide), a5 j (by omega), setA_s, pk_un (by omega), u3 32 (by decide)]
            exact hTR j hj) (by
            unfold AC
            rw [setA_1, v1, setA_o (by decide), v2 23 (by decide)]
            exact a4) (by rw [setA_s, pk_us]; simp)
          have hSS : smT S (setA V 32 i (nI (A.length + 1))) := smT_t (smT_t (smT_t (smT_t hSU (smT_32 U (i + 1) (-1))) a2) hTV) hVs
          refine ⟨s1 + 1 + s, T, by rw [List.length_cons, hmul]; omega, smT_t hSS b2, b3, ?_, fun j hj => ?_, fun n m hm => ?_⟩
          · have e : ((q :: B).filter (ft i)).filter (feas L pre) = q :: (B.filter (ft i)).filter (feas L pre) := by
              rw [List.filter_cons_of_pos cf1.1, List.filter_cons_of_pos cf1.2]
            rw [e, List.flatMap_cons, List.foldl_append]
            exact b4
          · rw [b5 j hj, setA_s, pk_un (by omega), v2 32 (by decide), a5 j (by omega), setA_s, pk_un (by omega), u3 32 (by decide)]
          · obtain ⟨m, rfl⟩ : ∃ k, m = k + 1 := ⟨m - 1, by omega⟩
            rw [hex, if_pos cf]
            unfold fX8_tryAll_b241
            rw [gA_n (by omega) (by decide), bb_s, h32, hF.2.2.1.1, if_pos (nI_le (by omega) (by omega)), bb_s, bb_s, if_neg (n_nle hlen (by omega)), gA_n (by omega) (by decide), bb_s, hF.2.2.2.1 _ hlen, hg, u1, bb_s]
            unfold fX8_tryAll_b292
            rw [n1 i, n1 now, pA_n (by omega) (by decide), bb_s]
            show fX8_tryAll_b40 NN (n + (s1 + 1 + s)) _ _ _ _ = _
            rw [show n + (s1 + 1 + s) = ((n + s) + 1) + s1 by omega, a6, pk_m1, v4, pk_m1]
            exact b6 n NN (by have : B.length < Q.length := by (rw [hA]; simp; omega)
                              unfold NN; omega)
        · have hS1 := smT_32 S i (nI (A.length + 1))
          obtain ⟨s, T, b1, b2, b3, b4, b5, b6⟩ := ihB (A ++ [q]) acc (setA S 32 i (nI (A.length + 1))) (FX_s hF hS1) (by rw [hA]; simp) (fun x hx => by rw [setA_o (by decide)]; exact hLD x hx) (fun j hj => by rw [setA_s, pk_un (by omega)]; exact hTR j hj) (by
            unfold AC
            rw [setA_1, setA_o (by decide)]
            exact hAC) (by rw [setA_s, pk_us]; simp)
          refine ⟨s, T, by rw [List.length_cons, hmul]; omega, smT_t hS1 b2, b3, ?_, fun j hj => by rw [b5 j hj, setA_s, pk_un (by omega)], fun n m hm => ?_⟩
          · have e : ((q :: B).filter (ft i)).filter (feas L pre) = (B.filter (ft i)).filter (feas L pre) := by
              rw [List.filter_filter, List.filter_filter, List.filter_cons_of_neg (by rw [Bool.and_comm]; exact cf)]
            rw [e]
            exact b4
          · obtain ⟨m, rfl⟩ : ∃ k, m = k + 1 := ⟨m - 1, by omega⟩
            rw [hex, if_neg cf]
            exact b6 n m (by rw [List.length_cons] at hm; omega)
    have hS1 := smT_32 S i 0
    obtain ⟨s, T, b1, b2, b3, b4, b5, b6⟩ := key Q [] acc (setA S 32 i 0) (FX_s hF hS1) rfl (fun x hx => by rw [setA_o (by decide)]; exact hLD x hx) (fun j hj => by rw [setA_s, pk_un (by omega)]; exact hTR j hj) (by
      unfold AC
      rw [setA_1, setA_o (by decide)]
      exact hAC) (by rw [setA_s, pk_us]; rfl)
    refine ⟨s + 1, T, ?_, smT_t hS1 b2, b3, ?_, fun j hj => by rw [b5 j hj, setA_s, pk_un (by omega)], fun n => ?_⟩
    · rw [bd]
      have : (Q.length + 1) * (1 + bd d) ≤ 21 * (1 + bd d) := Nat.mul_le_mul_right _ (by omega)
      omega
    · rw [en_fold]
      exact b4
    · rw [show n + (s + 1) = (n + s) + 1 by omega, fX8_tryAll_b40, if_neg (nI_pos (by omega)), hF.2.1.1, if_neg (fun z => by have := (nI_eq (a := i) (b := w) (by omega) (by omega)).mp z; omega), gA_n (by omega) (by decide), bb_s, h32, if_pos (by decide)]
      unfold fX8_tryAll_b167
      rw [gA_n (by omega) (by decide), bb_s, h32, pA_n (by omega) (by decide), bb_s]
      exact b6 n NN (by unfold NN; omega)
theorem zero_loop {L x2 x3 : Int32} : ∀ d x S n, x + d = 20 → d < n → ∃ T, fX8_tryAll_b12 NN n S L x2 x3 (nI x) = fX8_tryAll_b33 NN T L x2 x3 ∧ T.1 = S.1 ∧ (∀ q, q ≠ 33 → T.2 q = S.2 q) ∧ (∀ j, j < x → T.2 33 j = S.2 33 j) ∧ ∀ j, x ≤ j → j < 20 → T.2 33 j = 0 := by
  intro d
  induction d with
  | zero =>
    intro x S n hx hn
    obtain ⟨n, rfl⟩ : ∃ m, n = m + 1 := ⟨n - 1, by omega⟩
    rw [fX8_tryAll_b12, if_pos ((nle (n := x) (m := 20) (by omega) (by decide)).mpr (by omega))]
    exact ⟨S, rfl, rfl, fun _ _ => rfl, fun _ _ => rfl, fun j h1 h2 => by omega⟩
  | succ d ih =>
    intro x S n hx hn
    obtain ⟨n, rfl⟩ : ∃ m, n = m + 1 := ⟨n - 1, by omega⟩
    rw [fX8_tryAll_b12, if_neg (fun z => by have := (nle (n := x) (m := 20) (by omega) (by decide)).mp z; omega), pA_n (by omega) (by decide), bb_s, n1]
    obtain ⟨T, t1, t2, t3, t4, t5⟩ := ih (x + 1) (setA S 33 x 0) n (by omega) (by omega)
    refine ⟨T, t1, t2, fun q hq => by rw [t3 q hq, setA_o hq], fun j hj => by rw [t4 j (by omega), setA_s, pk_un (by omega)], fun j h1 h2 => ?_⟩
    by_cases c : j = x
    · rw [c, t4 x (by omega), setA_s, pk_us]
    · exact t5 j (by omega) h2
theorem bd_lt {w : Nat} (h : w ≤ 4) : bd w < 999999 := by
  have hc : w = 0 ∨ w = 1 ∨ w = 2 ∨ w = 3 ∨ w = 4 := by omega
  rcases hc with rfl | rfl | rfl | rfl | rfl <;> simp [bd]
theorem tryAll_ok {np w L : Nat} {Q : List Nat} {ft : Nat → Nat → Bool} {S : SS} (hL4 : L ≤ 4) (hF : FX np w Q ft S) : ∃ T, fX8_tryAll NN S (nI L) = some T ∧ smT S T ∧ AC w ((en (fun i => Q.filter (ft i)) (feas L) w 0 [] 0).foldl upE (-1, [])) T := by
  have hw := hF.2.1.2
  have hS1 : smT S (pI S 10 (-1)) := ⟨fun k hk => pI_o hk, fun _ _ _ _ => rfl⟩
  obtain ⟨U, u1, u2, u3, _, u5⟩ := zero_loop (L := nI L) (x2 := 0) (x3 := 0) 20 0 (pI S 10 (-1)) NN (by omega) (by unfold NN; omega)
  have hSU : smT S U := smT_t hS1 ⟨fun k _ => by rw [u2], fun q _ _ h => u3 q h⟩
  have hSV : smT S (setA U 32 0 (-1)) := smT_t hSU (smT_32 U 0 (-1))
  obtain ⟨s, T, b1, b2, b3, b4, b5, b6⟩ := try_ok (np := np) (w := w) (L := L) (Q := Q) (ft := ft) hL4 w 0 [] 0 (-1, []) (setA U 32 0 (-1)) (FX_s hF hSV) (by omega) rfl (Nat.le_refl _) (fun x hx => by
    have := hF.1.2
    rw [setA_o (by decide), u5 x (by omega) (by omega)]
    rfl) (fun j hj => absurd hj (Nat.not_lt_zero j)) ⟨by rw [setA_1, u2, pI_s]; decide, fun z => absurd z (by decide)⟩ (by rw [setA_s, pk_us])
  refine ⟨T, ?_, smT_t hSV b2, b4⟩
  have hb := bd_lt hw
  have e := b6 (NN - s)
  rw [show NN - s + s = NN by unfold NN; omega] at e
  unfold fX8_tryAll
  rw [pO_s, bb_s]
  have u1' : fX8_tryAll_b12 NN NN (pI S 10 (-1)) (nI L) 0 0 0 = fX8_tryAll_b33 NN U (nI L) 0 0 := u1
  rw [u1']
  unfold fX8_tryAll_b33
  rw [show (0 : Int32) = nI 0 from rfl, pA_n (by decide) (by decide), bb_s, e]
  obtain ⟨m, hm⟩ : ∃ m, NN - s = m + 1 := ⟨NN - s - 1, by unfold NN; omega⟩
  rw [hm, fX8_tryAll_b40, if_pos (by decide)]
