/-! BEST, 7: the class's lists -/
def smX (i : Nat) (S T : SS) : Prop := T.1 = S.1 ∧ (∀ q, q ≠ 34 → q ≠ 35 → T.2 q = S.2 q) ∧ (∀ j, j ≠ i → T.2 35 j = S.2 35 j) ∧ ∀ m, m < i * 20 ∨ i * 20 + 20 ≤ m → T.2 34 m = S.2 34 m
theorem smX_r (i : Nat) (S : SS) : smX i S S := ⟨rfl, fun _ _ _ => rfl, fun _ _ => rfl, fun _ _ => rfl⟩
theorem smX_t {i : Nat} {S T U : SS} (h : smX i S T) (k : smX i T U) : smX i S U := ⟨k.1.trans h.1, fun q a b => (k.2.1 q a b).trans (h.2.1 q a b), fun j a => (k.2.2.1 j a).trans (h.2.2.1 j a), fun m a => (k.2.2.2 m a).trans (h.2.2.2 m a)⟩
def PX (S : SS) (i : Nat) (l : List Nat) : Prop := S.2 35 i = nI l.length ∧ ∀ k, k < l.length → S.2 34 (i * 20 + k) = nI (gl l k)
theorem PX_push {S : SS} {i m : Nat} {l : List Nat} (h : PX S i l) (hl : l.length < 20) : PX (setA (setA S 34 (i * 20 + l.length) (nI m)) 35 i (nI (l.length + 1))) i (l ++ [m]) ∧ smX i S (setA (setA S 34 (i * 20 + l.length) (nI m)) 35 i (nI (l.length + 1))) := by
  refine ⟨⟨?_, fun k hk => ?_⟩, rfl, fun q h1 h2 => ?_, fun j hj => ?_, fun y hy => ?_⟩
  · rw [setA_s, pk_us, List.length_append]
    rfl
  · rw [setA_o (by decide), setA_s]
    by_cases c : k = l.length
    · rw [c, pk_us]
      have := gl_at l m []
      rw [this]
    · have hk2 : k < l.length := by simp at hk; omega
      rw [pk_un (by omega), h.2 k hk2, gl_pre hk2]
  · rw [setA_o h2, setA_o h1]
  · rw [setA_s, pk_un hj, setA_o (by decide)]
  · rw [setA_o (by decide), setA_s, pk_un (by omega)]
def JG (S : SS) (g : Nat → Nat) (K : Nat) : Prop := ∀ j, j < K → S.2 37 j = nI (g j) ∧ g j < 20
theorem JG_s {S T : SS} {g : Nat → Nat} {K i : Nat} (h : JG S g K) (k : smX i S T) : JG T g K := by
  unfold JG
  rw [k.2.1 37 (by decide) (by decide)]
  exact h
theorem lpa {i b c K : Nat} {g : Nat → Nat} {base : List Nat} (hi : i < 4) (hb : b < c) (hc : c < K) (hK : K ≤ 6) (h20 : (base ++ lt1 g (g b) (g c) b).length ≤ 20) : ∀ d a S n, a + d = b → d < n → JG S g K → PX S i (base ++ lt1 g (g b) (g c) a) → ∃ T, (∀ k2 k10 x2, fX1_listPanels_b19 NN k2 k10 n S (nI i) x2 (nI c) (nI b) (nI a) = k10 T (nI i) x2 (nI c) (nI (b + 1))) ∧ smX i S T ∧ PX T i (base ++ lt1 g (g b) (g c) b) := by
  intro d
  induction d with
  | zero =>
    intro a S n ha hn hJ hP
    obtain ⟨n, rfl⟩ : ∃ m, n = m + 1 := ⟨n - 1, by omega⟩
    have hab : a = b := by omega
    subst hab
    refine ⟨S, fun k2 k10 x2 => ?_, smX_r i S, hP⟩
    rw [fX1_listPanels_b19, if_pos (nI_le (Nat.le_refl _) (by omega)), n1]
  | succ d ih =>
    intro a S n ha hn hJ hP
    obtain ⟨n, rfl⟩ : ∃ m, n = m + 1 := ⟨n - 1, by omega⟩
    have hm := lt1_mono (g := g) (y := g b) (x := g c) d (a + 1)
    rw [show a + 1 + d = b by omega, lt1, List.length_append] at hm
    have hll : (base ++ lt1 g (g b) (g c) a).length < 20 := by
      rw [List.length_append] at h20 ⊢
      simp at hm
      omega
    obtain ⟨p1, p2⟩ := PX_push (m := mk (g a) (g b) (g c)) hP hll
    obtain ⟨ja, ja2⟩ := hJ a (by omega)
    obtain ⟨jb, jb2⟩ := hJ b (by omega)
    obtain ⟨jc, jc2⟩ := hJ c (by omega)
    obtain ⟨T, t1, t2, t3⟩ := ih (a + 1) _ n (by omega) (by omega) (JG_s hJ p2) (by rw [lt1, ← List.append_assoc]; exact p1)
    refine ⟨T, fun k2 k10 x2 => ?_, smX_t p2 t2, t3⟩
    rw [← t1 k2 k10 x2, fX1_listPanels_b19, if_neg (n_nle (by omega) (by omega)), gA_n (by omega) (by decide), bb_s, ja, gA_n (by omega) (by decide), bb_s, jb, gA_n (by omega) (by decide), bb_s, jc, mk_I ja2 jb2 jc2, bb_s, gA_n (by omega) (by decide), bb_s, hP.1, show nI i * 20 + nI (base ++ lt1 g (g b) (g c) a).length = nI (i * 20 + (base ++ lt1 g (g b) (g c) a).length) by rw [show (20 : Int32) = nI 20 from rfl, pk_mul, nI_add], pA_n (by omega) (by decide), bb_s, gA_n (by omega) (by decide), bb_s, setA_o (by decide), hP.1, n1, pA_n (by omega) (by decide), bb_s, n1]
theorem lpb {i c K : Nat} {g : Nat → Nat} {base : List Nat} (hi : i < 4) (hc : c < K) (hK : K ≤ 6) (h20 : (base ++ lt2 g (g c) c).length ≤ 20) : ∀ d b S n, b + d = c → d < n → JG S g K → PX S i (base ++ lt2 g (g c) b) → ∃ T, (∀ k2 x2, fX1_listPanels_b10 NN k2 n S (nI i) x2 (nI c) (nI b) = k2 T (nI i) x2 (nI (c + 1))) ∧ smX i S T ∧ PX T i (base ++ lt2 g (g c) c) := by
  intro d
  induction d with
  | zero =>
    intro b S n hb hn hJ hP
    obtain ⟨n, rfl⟩ : ∃ m, n = m + 1 := ⟨n - 1, by omega⟩
    have hab : b = c := by omega
    subst hab
    refine ⟨S, fun k2 x2 => ?_, smX_r i S, hP⟩
    rw [fX1_listPanels_b10, if_pos (nI_le (Nat.le_refl _) (by omega)), n1]
  | succ d ih =>
    intro b S n hb hn hJ hP
    obtain ⟨n, rfl⟩ : ∃ m, n = m + 1 := ⟨n - 1, by omega⟩
    have hm := lt2_mono (g := g) (x := g c) d (b + 1)
    rw [show b + 1 + d = c by omega, lt2, List.length_append] at hm
    obtain ⟨U, u1, u2, u3⟩ := lpa (base := base ++ lt2 g (g c) b) hi (show b < c by omega) hc hK (by
      simp only [List.length_append] at h20 ⊢
      omega) b 0 S NN (by omega) (by unfold NN; omega) hJ (by rw [lt1, List.append_nil]; exact hP)
    obtain ⟨T, t1, t2, t3⟩ := ih (b + 1) U n (by omega) (by omega) (JG_s hJ u2) (by rw [lt2, ← List.append_assoc]; exact u3)
    refine ⟨T, fun k2 x2 => ?_, smX_t u2 t2, t3⟩
    rw [← t1 k2 x2, fX1_listPanels_b10, if_neg (n_nle (by omega) (by omega))]
    exact u1 _ _ _
theorem lpc {i K : Nat} {g : Nat → Nat} (hi : i < 4) (hK : K ≤ 6) (h20 : (lt3 g K).length ≤ 20) : ∀ d c S n, 2 ≤ c → c + d = K → d < n → JG S g K → PX S i (lt3 g c) → ∃ T, fX1_listPanels_b2 NN n S (nI i) (nI K) (nI c) = some T ∧ smX i S T ∧ PX T i (lt3 g K) := by
  intro d
  induction d with
  | zero =>
    intro c S n hc2 hc hn hJ hP
    obtain ⟨n, rfl⟩ : ∃ m, n = m + 1 := ⟨n - 1, by omega⟩
    have hab : c = K := by omega
    subst hab
    refine ⟨S, ?_, smX_r i S, hP⟩
    rw [fX1_listPanels_b2, if_pos (nI_le (Nat.le_refl _) (by omega))]
  | succ d ih =>
    intro c S n hc2 hc hn hJ hP
    obtain ⟨n, rfl⟩ : ∃ m, n = m + 1 := ⟨n - 1, by omega⟩
    have hm := lt3_mono (g := g) d (c + 1)
    rw [show c + 1 + d = K by omega, lt3, List.length_append] at hm
    obtain ⟨U, u1, u2, u3⟩ := lpb (base := lt3 g c) hi (show c < K by omega) hK (by
      rw [List.length_append]
      omega) (c - 1) 1 S NN (by omega) (by unfold NN; omega) hJ (by rw [lt2, lt2, lt1, List.append_nil, List.append_nil]; exact hP)
    obtain ⟨T, t1, t2, t3⟩ := ih (c + 1) U n (by omega) (by omega) (by omega) (JG_s hJ u2) (by rw [lt3]; exact u3)
    refine ⟨T, ?_, smX_t u2 t2, t3⟩
    rw [← t1, fX1_listPanels_b2, if_neg (n_nle (by omega) (by omega))]
    exact u1 _ _
theorem lp_ok {i K : Nat} {g : Nat → Nat} {S : SS} (hi : i < 4) (hK : K ≤ 6) (h20 : (lt3 g K).length ≤ 20) (hJ : JG S g K) (hP : S.2 35 i = 0) : ∃ T, fX1_listPanels NN S (nI i) (nI K) = some T ∧ smX i S T ∧ PX T i (lt3 g K) := by
  have hP0 : PX S i [] := ⟨hP, fun k hk => absurd hk (Nat.not_lt_zero k)⟩
  have e2 : lt3 g 2 = [] := rfl
  unfold fX1_listPanels
  by_cases c : 2 ≤ K
  · exact lpc hi hK h20 (K - 2) 2 S NN (by omega) (by omega) (by unfold NN; omega) hJ (by rw [e2]; exact hP0)
  · refine ⟨S, ?_, smX_r i S, ?_⟩
    · obtain ⟨n, hn⟩ : ∃ n, NN = n + 1 := ⟨NN - 1, rfl⟩
      have : ∀ m, fX1_listPanels_b2 NN (m + 1) S (nI i) (nI K) 2 = some S := by
        intro m
        rw [fX1_listPanels_b2, if_pos (show nI K ≤ (2 : Int32) from nI_le (b := 2) (by omega) (by decide))]
      exact this 999999
    · have hc : K = 0 ∨ K = 1 := by omega
      rcases hc with rfl | rfl
      · exact hP0
      · exact hP0
/-- the states of the class between know and the search -/
def sX (X S : SS) : Prop := S.1 = X.1 ∧ ∀ q, q ≠ 34 → q ≠ 35 → q ≠ 37 → S.2 q = X.2 q
def sM (M T : SS) : Prop := (∀ k, k ≠ 9 → T.1 k = M.1 k) ∧ ∀ q, q ≠ 30 → q ≠ 31 → T.2 q = M.2 q
theorem sX_r (X : SS) : sX X X := ⟨rfl, fun _ _ _ _ => rfl⟩
theorem sM_r (X : SS) : sM X X := ⟨fun _ _ => rfl, fun _ _ _ => rfl⟩
theorem sX_t {S T U : SS} (h : sX S T) (k : sX T U) : sX S U := ⟨k.1.trans h.1, fun q a b c => (k.2 q a b c).trans (h.2 q a b c)⟩
theorem sM_t {S T U : SS} (h : sM S T) (k : sM T U) : sM S U := ⟨fun q a => (k.1 q a).trans (h.1 q a), fun q a b => (k.2 q a b).trans (h.2 q a b)⟩
theorem smX_X {i : Nat} {S T : SS} (h : smX i S T) : sX S T := ⟨h.1, fun q a b _ => h.2.1 q a b⟩
theorem sm_9 : ∀ k, k < 9 → sm k ≠ 9 ∧ sm k ≠ 10 := by decide
theorem relB {X M X' M' : SS} (h : Rel X M) (x : sX X X') (m : sM M M') : Rel X' M' := by
  obtain ⟨a1, a2, a3, a4, a5, a6, a7, a8, a9, a10, a11, a12⟩ := h
  obtain ⟨x1, x2⟩ := x
  obtain ⟨m1, m2⟩ := m
  have ez : ∀ k, sz X' k = sz X k := fun k => by unfold sz; rw [x1]
  refine ⟨fun k hk => by rw [x1, m1 _ (sm_9 k hk).1]; exact a1 k hk, fun q hq => ?_, ?_, ?_, ?_, ?_, ?_, ?_, ?_, ?_, ?_, ?_⟩
  · obtain ⟨z1, z2, z3, z4, z5, z6, z7, z8, z9, z10, z11, z12, z13, z14⟩ := arrs_ok q hq
    rw [x2 q z7 z8 z10, m2 _ z11 z12]
    exact a2 q hq
  · unfold RV; rw [x2 22 (by decide) (by decide) (by decide), m2 6 (by decide) (by decide)]; exact a3
  · unfold RG; rw [x1, ez, x2 36 (by decide) (by decide) (by decide), m2 23 (by decide) (by decide)]; exact a4
  · unfold InvS; rw [x1, ez, ez, ez, ez, ez, ez, ez, ez]; exact a5
  · unfold InvP; rw [ez, x2 11 (by decide) (by decide) (by decide)]; exact a6
  · unfold InvC; rw [ez, ez, exC_cong (x2 10 (by decide) (by decide) (by decide))]; exact a7
  · unfold InvR; rw [ez, x2 18 (by decide) (by decide) (by decide), x2 15 (by decide) (by decide) (by decide)]; exact a8
  · unfold InvE; rw [ez, ez, x2 23 (by decide) (by decide) (by decide), x2 24 (by decide) (by decide) (by decide), x2 25 (by decide) (by decide) (by decide)]; exact a9
  · unfold InvK; rw [ez, ez, x2 30 (by decide) (by decide) (by decide)]; exact a10
  · unfold InvW; rw [ez, ez, x2 33 (by decide) (by decide) (by decide)]; exact a11
  · unfold InvM; rw [ez, x2 38 (by decide) (by decide) (by decide), x2 39 (by decide) (by decide) (by decide), x2 40 (by decide) (by decide) (by decide)]; exact a12
theorem SdB {X M X' M' : SS} (h : Sd X M) (x : sX X X') (m : sM M M') : Sd X' M' := by
  have ez : sz X' 4 = sz X 4 := by unfold sz; rw [x.1]
  unfold Sd
  rw [ez, x.2 28 (by decide) (by decide) (by decide), m.2 29 (by decide) (by decide)]
  exact h
theorem sX_sz {X S : SS} (h : sX X S) (k : Nat) : sz S k = sz X k := by unfold sz; rw [h.1]
theorem sX_rI {X S : SS} (h : sX X S) (u g day : Int32) : rI S u g day = rI X u g day := by
  unfold rI
  rw [h.2 15 (by decide) (by decide) (by decide), h.2 16 (by decide) (by decide) (by decide), sX_sz h]
