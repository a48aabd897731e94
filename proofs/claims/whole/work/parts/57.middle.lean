/-! MIDDLE, APART, HARD -/
theorem lt_n {n m : Nat} (hn : n < 2 ^ 31) (hm : m < 2 ^ 31) : ((OfNat.ofNat m : Int32) < nI n) ↔ m < n := nI_ltI hm hn
def cR (a : Nat → Nat) (v : Nat) : Nat → Nat → Nat
  | 0, _ => 0
  | d + 1, k => (if a k ≤ v then 1 else 0) + cR a v d (k + 1)
def bR (a : Nat → Nat) (v : Nat) : Nat → Nat → Nat
  | 0, _ => 0
  | d + 1, k => (if a k < v then 1 else 0) + bR a v d (k + 1)
theorem bR_ge {a : Nat → Nat} {m v : Nat} (h : m < v) : ∀ d k, cR a m d k ≤ bR a v d k
  | 0, _ => Nat.le_refl _
  | d + 1, k => by
    have ih := bR_ge (a := a) h d (k + 1)
    rw [cR, bR]
    by_cases c : a k ≤ m
    · rw [if_pos c, if_pos (by omega)]; omega
    · rw [if_neg c]; omega
theorem bR_pred {a : Nat → Nat} {m : Nat} : ∀ d k, bR a (m + 1) d k = cR a m d k
  | 0, _ => rfl
  | d + 1, k => by
    rw [cR, bR, bR_pred d (k + 1)]
    by_cases c : a k ≤ m
    · rw [if_pos c, if_pos (by omega)]
    · rw [if_neg c, if_neg (by omega)]
theorem bR_0 {a : Nat → Nat} : ∀ d k, bR a 0 d k = 0
  | 0, _ => rfl
  | d + 1, k => by rw [bR, bR_0 d (k + 1), if_neg (by omega)]
theorem cR_all {a : Nat → Nat} {v : Nat} : ∀ d k, (∀ i, k ≤ i → i < k + d → a i ≤ v) → cR a v d k = d
  | 0, _, _ => rfl
  | d + 1, k, h => by rw [cR, if_pos (h k (by omega) (by omega)), cR_all d (k + 1) (fun i h1 h2 => h i (by omega) (by omega))]; omega
theorem cR_ex {a : Nat → Nat} {m : Nat} : ∀ d k, bR a m d k < cR a m d k → ∃ i, k ≤ i ∧ i < k + d ∧ a i = m
  | 0, _, h => by rw [cR, bR] at h; omega
  | d + 1, k, h => by
    rw [cR, bR] at h
    by_cases c : a k = m
    · exact ⟨k, by omega, by omega, c⟩
    · have e : (if a k < m then 1 else 0) = (if a k ≤ m then 1 else 0) := by
        by_cases q : a k < m
        · rw [if_pos q, if_pos (by omega)]
        · rw [if_neg q, if_neg (by omega)]
      rw [e] at h
      obtain ⟨i, h1, h2, h3⟩ := cR_ex (a := a) (m := m) d (k + 1) (by omega)
      exact ⟨i, by omega, by omega, h3⟩
def IsMed (a : Nat → Nat) (m : Nat) : Prop := 3 ≤ cR a m 5 0 ∧ (∀ j, j < m → cR a j 5 0 < 3) ∧ bR a m 5 0 ≤ 2 ∧ (∃ i, 0 ≤ i ∧ i < 0 + 5 ∧ a i = m) ∧ m ≤ 100
theorem med_ex (a : Nat → Nat) (h : ∀ i, i < 5 → a i ≤ 100) : ∃ m, IsMed a m := by
  obtain ⟨m, h1, h2⟩ := pk_least (fun v => 3 ≤ cR a v 5 0) ⟨100, by rw [cR_all 5 0 (fun i _ hi => h i (by omega))]; omega⟩
  have hb : bR a m 5 0 ≤ 2 := by
    cases m with
    | zero => rw [bR_0]; omega
    | succ m =>
      rw [bR_pred]
      have := h2 m (by omega)
      omega
  obtain ⟨i, h3, h4, h5⟩ := cR_ex (a := a) (m := m) 5 0 (by omega)
  exact ⟨m, h1, fun j hj => by have := h2 j hj; omega, hb, ⟨i, h3, h4, h5⟩, by rw [← h5]; exact h i (by omega)⟩
def mdX (a : Nat → Nat) : Nat → Nat → Nat → Nat
  | 0, _, mid => mid
  | d + 1, k, mid => mdX a d (k + 1) (if mid ≤ a k then mid else if cR a (a k) 5 0 < 3 then mid else a k)
def mdM (a : Nat → Nat) : Nat → Nat → Nat → Nat
  | 0, _, mid => mid
  | d + 1, k, mid => mdM a d (k + 1) (if 2 < bR a (a k) 5 0 then mid else if cR a (a k) 5 0 < 3 then mid else a k)
theorem mdX_med {a : Nat → Nat} {m : Nat} (h : IsMed a m) : ∀ d k mid, m ≤ mid → (mid = m ∨ ∃ i, k ≤ i ∧ i < k + d ∧ a i = m) → mdX a d k mid = m
  | 0, k, mid, h1, h2 => by
    rcases h2 with h2 | ⟨i, h3, h4, _⟩
    · exact h2
    · omega
  | d + 1, k, mid, h1, h2 => by
    rw [mdX]
    by_cases c : mid ≤ a k
    · rw [if_pos c]
      refine mdX_med h d (k + 1) mid h1 ?_
      rcases h2 with h2 | ⟨i, h3, h4, h5⟩
      · exact Or.inl h2
      · by_cases e : i = k
        · subst e; exact Or.inl (by omega)
        · exact Or.inr ⟨i, by omega, by omega, h5⟩
    · rw [if_neg c]
      by_cases c2 : cR a (a k) 5 0 < 3
      · rw [if_pos c2]
        refine mdX_med h d (k + 1) mid h1 ?_
        rcases h2 with h2 | ⟨i, h3, h4, h5⟩
        · exact Or.inl h2
        · by_cases e : i = k
          · subst e
            rw [h5] at c2
            have := h.1
            omega
          · exact Or.inr ⟨i, by omega, by omega, h5⟩
      · rw [if_neg c2]
        have hm : m ≤ a k := by
          rcases Nat.lt_or_ge (a k) m with q | q
          · exact absurd (h.2.1 _ q) c2
          · exact q
        refine mdX_med h d (k + 1) (a k) hm ?_
        rcases h2 with h2 | ⟨i, h3, h4, h5⟩
        · omega
        · by_cases e : i = k
          · subst e; exact Or.inl h5
          · exact Or.inr ⟨i, by omega, by omega, h5⟩
theorem mdM_med {a : Nat → Nat} {m : Nat} (h : IsMed a m) : ∀ d k mid, (mid = m ∨ ∃ i, k ≤ i ∧ i < k + d ∧ a i = m) → mdM a d k mid = m
  | 0, k, mid, h2 => by
    rcases h2 with h2 | ⟨i, h3, h4, _⟩
    · exact h2
    · omega
  | d + 1, k, mid, h2 => by
    rw [mdM]
    by_cases q : a k = m
    · rw [q, if_neg (by have := h.2.2.1; omega), if_neg (by have := h.1; omega)]
      exact mdM_med h d (k + 1) m (Or.inl rfl)
    · have e : (if 2 < bR a (a k) 5 0 then mid else if cR a (a k) 5 0 < 3 then mid else a k) = mid := by
        by_cases c1 : 2 < bR a (a k) 5 0
        · rw [if_pos c1]
        · rw [if_neg c1]
          by_cases c2 : cR a (a k) 5 0 < 3
          · rw [if_pos c2]
          · exfalso
            rcases Nat.lt_trichotomy (a k) m with z | z | z
            · exact absurd (h.2.1 _ z) c2
            · exact q z
            · have := bR_ge (a := a) z 5 0
              have := h.1
              omega
      rw [e]
      refine mdM_med h d (k + 1) mid ?_
      rcases h2 with h2 | ⟨i, h3, h4, h5⟩
      · exact Or.inl h2
      · by_cases z : i = k
        · subst z; exact absurd h5 q
        · exact Or.inr ⟨i, by omega, by omega, h5⟩
theorem cR_le (a : Nat → Nat) (v : Nat) : ∀ d k, cR a v d k ≤ d
  | 0, _ => Nat.le_refl _
  | d + 1, k => by
    have := cR_le a v d (k + 1)
    rw [cR]
    split <;> omega
theorem bR_le (a : Nat → Nat) (v : Nat) : ∀ d k, bR a v d k ≤ d
  | 0, _ => Nat.le_refl _
  | d + 1, k => by
    have := bR_le a v d (k + 1)
    rw [bR]
    split <;> omega
section MID
variable {N : Nat} {X M : SS} {e : Nat} {a : Nat → Nat}
theorem up7 (he : e < 20) (ha : ∀ i, i < 5 → X.2 40 (5 * e + i) = nI (a i) ∧ a i ≤ 100) {v : Nat} (hv : v ≤ 100) : ∀ d k acc n, k + d = 5 → d < n → fX3_upTo_b5 N n X (nI e) (nI v) (nI acc) (nI k) = some (nI (acc + cR a v d k), X) := by
  intro d
  induction d with
  | zero =>
    intro k acc n hk hn
    obtain ⟨n, rfl⟩ : ∃ m, n = m + 1 := ⟨n - 1, by omega⟩
    rw [fX3_upTo_b5, if_pos ((nle (n := k) (m := 5) (by omega) (by decide)).mpr (by omega))]
    rfl
  | succ d ih =>
    intro k acc n hk hn
    obtain ⟨n, rfl⟩ : ∃ m, n = m + 1 := ⟨n - 1, by omega⟩
    have hak := ha k (by omega)
    rw [fX3_upTo_b5, if_neg (fun z => by have := (nle (n := k) (m := 5) (by omega) (by decide)).mp z; omega), m5, gA_n (by omega) (by decide), bb_s, hak.1, n1, n1, cR]
    by_cases c : a k ≤ v
    · rw [if_neg (fun z => by have := (nI_ltI (by omega) (by omega)).mp z; omega), if_pos c, ih (k + 1) (acc + 1) n (by omega) (by omega), Nat.add_assoc]
    · rw [if_pos ((nI_ltI (by omega) (by omega)).mpr (by omega)), if_neg c, ih (k + 1) acc n (by omega) (by omega), Nat.zero_add]
theorem mid7 (he : e < 20) (hN : 5 < N) (ha : ∀ i, i < 5 → X.2 40 (5 * e + i) = nI (a i) ∧ a i ≤ 100) : ∀ d k mid n, k + d = 5 → d < n → mid ≤ 100 → fX3_middleOf_b5 N n X (nI e) (nI mid) (nI k) = some (nI (mdX a d k mid), X) := by
  intro d
  induction d with
  | zero =>
    intro k mid n hk hn hm
    obtain ⟨n, rfl⟩ : ∃ m, n = m + 1 := ⟨n - 1, by omega⟩
    rw [fX3_middleOf_b5, if_pos ((nle (n := k) (m := 5) (by omega) (by decide)).mpr (by omega))]
    rfl
  | succ d ih =>
    intro k mid n hk hn hm
    obtain ⟨n, rfl⟩ : ∃ m, n = m + 1 := ⟨n - 1, by omega⟩
    have hak := ha k (by omega)
    rw [fX3_middleOf_b5, if_neg (fun z => by have := (nle (n := k) (m := 5) (by omega) (by decide)).mp z; omega), m5, gA_n (by omega) (by decide), bb_s, hak.1, n1, mdX]
    by_cases c : mid ≤ a k
    · rw [if_pos ((nI_leI (by omega) (by omega)).mpr c), if_pos c]
      exact ih (k + 1) mid n (by omega) (by omega) hm
    · rw [if_neg (fun z => c ((nI_leI (by omega) (by omega)).mp z)), if_neg c]
      unfold fX3_upTo
      have hu := up7 (N := N) he ha hak.2 5 0 0 N (by omega) hN
      rw [show (0 : Int32) = nI 0 from rfl, hu, b2_s, Nat.zero_add]
      have hcl := cR_le a (a k) 5 0
      by_cases c2 : cR a (a k) 5 0 < 3
      · rw [if_pos ((nlt (m := 3) (by omega) (by decide)).mpr c2), if_pos c2]
        exact ih (k + 1) mid n (by omega) (by omega) hm
      · rw [if_neg (fun z => c2 ((nlt (m := 3) (by omega) (by decide)).mp z)), if_neg c2]
        exact ih (k + 1) (a k) n (by omega) (by omega) hak.2
theorem in8 {k4 : SS → Int32 → Int32 → Int32 → Option (Int32 × SS)} (he : e < 20) (ha : ∀ i, i < 5 → M.2 26 (5 * e + i) = nI (a i) ∧ a i ≤ 100) {v : Nat} (hv : v ≤ 100) {x2 x3 : Int32} : ∀ d k b0 c0 n, k + d = 5 → d < n → fX8_middleOf_b30 N k4 n M (nI e) x2 x3 (nI v) (nI b0) (nI c0) (nI k) = fX8_middleOf_b94 N k4 M (nI e) x2 x3 (nI v) (nI (b0 + bR a v d k)) (nI (c0 + cR a v d k)) := by
  intro d
  induction d with
  | zero =>
    intro k b0 c0 n hk hn
    obtain ⟨n, rfl⟩ : ∃ m, n = m + 1 := ⟨n - 1, by omega⟩
    rw [fX8_middleOf_b30, if_pos ((nle (n := k) (m := 5) (by omega) (by decide)).mpr (by omega))]
    rfl
  | succ d ih =>
    intro k b0 c0 n hk hn
    obtain ⟨n, rfl⟩ : ∃ m, n = m + 1 := ⟨n - 1, by omega⟩
    have hak := ha k (by omega)
    rw [fX8_middleOf_b30, if_neg (fun z => by have := (nle (n := k) (m := 5) (by omega) (by decide)).mp z; omega), m5', gA_n (by omega) (by decide), bb_s, hak.1, cR, bR]
    unfold fX8_middleOf_b59
    rw [m5', gA_n (by omega) (by decide), bb_s, hak.1, n1]
    have z0 : ∀ q, nI q + 0 = nI q := fun q => by rw [show (0 : Int32) = nI 0 from rfl, nI_add]; rfl
    simp only [bb_s, z0, n1]
    by_cases c : v ≤ a k
    · rw [if_pos ((nI_leI (by omega) (by omega)).mpr c), if_neg (by omega : ¬ a k < v)]
      by_cases c2 : a k ≤ v
      · rw [if_neg (fun z => by have := (nI_ltI (by omega) (by omega)).mp z; omega), if_pos c2, ih (k + 1) b0 (c0 + 1) n (by omega) (by omega), Nat.zero_add, Nat.add_assoc]
      · rw [if_pos ((nI_ltI (by omega) (by omega)).mpr (by omega)), if_neg c2, ih (k + 1) b0 c0 n (by omega) (by omega), Nat.zero_add, Nat.zero_add]
    · rw [if_neg (fun z => c ((nI_leI (by omega) (by omega)).mp z)), if_pos (by omega : a k < v), if_neg (fun z => by have := (nI_ltI (by omega) (by omega)).mp z; omega), if_pos (by omega : a k ≤ v), ih (k + 1) (b0 + 1) (c0 + 1) n (by omega) (by omega), Nat.add_assoc, Nat.add_assoc]
theorem mid8 (he : e < 20) (hN : 5 < N) (ha : ∀ i, i < 5 → M.2 26 (5 * e + i) = nI (a i) ∧ a i ≤ 100) : ∀ d k mid n, k + d = 5 → d < n → mid ≤ 100 → fX8_middleOf_b4 N n M (nI e) (nI mid) (nI k) = some (nI (mdM a d k mid), M) := by
  intro d
  induction d with
  | zero =>
    intro k mid n hk hn hm
    obtain ⟨n, rfl⟩ : ∃ m, n = m + 1 := ⟨n - 1, by omega⟩
    rw [fX8_middleOf_b4, if_pos ((nle (n := k) (m := 5) (by omega) (by decide)).mpr (by omega))]
    rfl
  | succ d ih =>
    intro k mid n hk hn hm
    obtain ⟨n, rfl⟩ : ∃ m, n = m + 1 := ⟨n - 1, by omega⟩
    have hak := ha k (by omega)
    rw [fX8_middleOf_b4, if_neg (fun z => by have := (nle (n := k) (m := 5) (by omega) (by decide)).mp z; omega), m5', gA_n (by omega) (by decide), bb_s, hak.1, mdM]
    have hi := in8 (N := N) (k4 := fun S x1 x2 x3 => fX8_middleOf_b4 N n S x1 x2 x3) (x2 := nI mid) (x3 := nI k) he ha hak.2 5 0 0 0 N (by omega) hN
    rw [show (0 : Int32) = nI 0 from rfl, hi]
    unfold fX8_middleOf_b94
    have h1 := cR_le a (a k) 5 0
    have h2 := bR_le a (a k) 5 0
    simp only [Nat.zero_add, n1]
    by_cases c : 2 < bR a (a k) 5 0
    · rw [if_pos ((lt_n (m := 2) (by omega) (by decide)).mpr c), if_pos c]
      exact ih (k + 1) mid n (by omega) (by omega) hm
    · rw [if_neg (fun z => c ((lt_n (m := 2) (by omega) (by decide)).mp z)), if_neg c]
      by_cases c2 : cR a (a k) 5 0 < 3
      · rw [if_pos ((nlt (m := 3) (by omega) (by decide)).mpr c2), if_pos c2]
        exact ih (k + 1) mid n (by omega) (by omega) hm
      · rw [if_neg (fun z => c2 ((nlt (m := 3) (by omega) (by decide)).mp z)), if_neg c2]
        exact ih (k + 1) (a k) n (by omega) (by omega) hak.2
end MID
theorem ofI {x : Int32} (h : 0 ≤ x.toInt) : x = nI x.toNatClampNeg := by
  obtain ⟨j, hj, rfl⟩ := nI_of (x := x) (by rw [i_lt]; simp only [Int32.toInt_zero]; omega)
  rw [nI_clamp hj]
theorem mid_both {X M : SS} {e c : Nat} (h : Rel X M) (he : e < 20) (hc : X.2 38 e = nI c) (hc5 : c = 5) : ∃ m, fX3_middleOf NN X (nI e) = some (m, X) ∧ fX8_middleOf NN M (nI e) = some (m, M) := by
  obtain ⟨c', g1, g2, g3, g4, g5⟩ := h.2.2.2.2.2.2.2.2.2.2.2 e he
  have ec : c' = 5 := by
    rw [hc, hc5] at g2
    exact ((nI_eq (by omega) (by omega)).mp g2).symm
  have e40 : M.2 26 = X.2 40 := ra h 40 (by decide)
  have ha : ∀ i, i < 5 → X.2 40 (5 * e + i) = nI ((fun i => (X.2 40 (5 * e + i)).toNatClampNeg) i) ∧ (fun i => (X.2 40 (5 * e + i)).toNatClampNeg) i ≤ 100 := by
    intro i hi
    have q := g4 i (by omega)
    refine ⟨ofI q.1, ?_⟩
    have e1 := ofI q.1
    have q2 := q.2
    rw [e1] at q2
    obtain ⟨j, hj, ej⟩ := nI_of (x := X.2 40 (5 * e + i)) (by rw [i_lt]; simp only [Int32.toInt_zero]; omega)
    show (X.2 40 (5 * e + i)).toNatClampNeg ≤ 100
    rw [ej, nI_clamp hj] at q2
    rw [ej, nI_clamp hj]
    rw [nI_toInt hj] at q2
    omega
  obtain ⟨m, hm⟩ := med_ex (fun i => (X.2 40 (5 * e + i)).toNatClampNeg) (fun i hi => (ha i hi).2)
  refine ⟨nI m, ?_, ?_⟩
  · have t := mid7 (N := NN) he (by unfold NN; omega) ha 5 0 100 NN (by omega) (by unfold NN; omega) (by omega)
    rw [mdX_med hm 5 0 100 hm.2.2.2.2 (Or.inr hm.2.2.2.1)] at t
    exact t
  · have t := mid8 (N := NN) (M := M) he (by unfold NN; omega) (fun i hi => by rw [e40]; exact ha i hi) 5 0 0 NN (by omega) (by unfold NN; omega) (by omega)
    rw [mdM_med hm 5 0 0 (Or.inr hm.2.2.2.1)] at t
    exact t
theorem wh7 {N : Nat} {X : SS} {e c : Nat} (he : e < 20) (hc : X.2 38 e = nI c) (hc5 : c ≤ 5) : fX3_isWhole N X (nI e) = some (bI (c = 5), X) := by
  unfold fX3_isWhole
  rw [gA_n he (by decide), bb_s, hc]
  by_cases q : c = 5
  · rw [bI_t q, if_pos (by rw [q]; rfl)]; rfl
  · rw [bI_f q, if_neg (fun z => q ((neq (m := 5) (by omega) (by decide)).mp z))]; rfl
set_option maxHeartbeats 4000000 in
theorem st_middle : St1 Rel fX7_middle fX8_middle := by
  intro X M h a
  obtain ⟨h8, h8b, h8m⟩ := r8 h
  unfold fX7_middle fX8_middle
  simp only [h3, exa8 (by omega) h8m, b2_s, bI_0, fd7_1, fd8_1, fd7_3, fd8_3, h8]
  by_cases c1 : 0 ≤ a ∧ a < nI (sz X 8)
  rotate_left
  · simp only [c1, not_false_eq_true, if_true]
    exact ⟨_, _, _, rfl, rfl, rel_fnd 1 h⟩
  obtain ⟨e, he, rfl⟩ := ix_of c1.1 c1.2 (by omega)
  simp only [c1, and_self, not_true_eq_false, if_false]
  obtain ⟨c, g1, g2, g3, g4, g5⟩ := h.2.2.2.2.2.2.2.2.2.2.2 e (by omega)
  have e38 : M.2 24 = X.2 38 := ra h 38 (by decide)
  rw [wh7 (by omega) g2 g1, b2_s, gA_n (by omega) (by decide), bb_s, e38, g2]
  simp only [bI_0, neq (n := c) (m := 5) (by omega) (by decide)]
  by_cases q : c = 5
  · obtain ⟨m, t1, t2⟩ := mid_both h (by omega) g2 q
    simp only [q, not_true_eq_false, if_true, if_false, t1, t2, b2_s]
    exact ⟨_, _, _, rfl, rfl, h⟩
  · simp only [q, not_false_eq_true, if_true, if_false]
    exact ⟨_, _, _, rfl, rfl, rel_fnd 3 h⟩
theorem i_z (x : Int32) : x + 0 = x := Int32.add_zero x
theorem ap_both {X M : SS} {e : Nat} {b m : Int32} (he : e < 20) (e40 : M.2 26 = X.2 40) (t2 : fX8_middleOf NN M (nI e) = some (m, M)) : ∀ d k acc n, k + d = 5 → d < n → ∃ r, fX3_awayFromMiddle_b12 NN n X (nI e) b m acc (nI k) = some (r, X) ∧ fX8_apart_b47 NN n M (nI e) b acc (nI k) = some (r, M) := by
  intro d
  induction d with
  | zero =>
    intro k acc n hk hn
    obtain ⟨n, rfl⟩ : ∃ m, n = m + 1 := ⟨n - 1, by omega⟩
    rw [fX3_awayFromMiddle_b12, fX8_apart_b47, if_pos ((nle (n := k) (m := 5) (by omega) (by decide)).mpr (by omega)), if_pos ((nle (n := k) (m := 5) (by omega) (by decide)).mpr (by omega))]
    exact ⟨_, rfl, rfl⟩
  | succ d ih =>
    intro k acc n hk hn
    obtain ⟨n, rfl⟩ : ∃ m, n = m + 1 := ⟨n - 1, by omega⟩
    rw [fX3_awayFromMiddle_b12, fX8_apart_b47, if_neg (fun z => by have := (nle (n := k) (m := 5) (by omega) (by decide)).mp z; omega), if_neg (fun z => by have := (nle (n := k) (m := 5) (by omega) (by decide)).mp z; omega), m5, m5', gA_n (by omega) (by decide), gA_n (by omega) (by decide), bb_s, bb_s, t2, b2_s, e40, n1, i_z]
    by_cases c : mab (X.2 40 (5 * e + k) - m) ≤ b
    · rw [if_pos c, if_pos c]
      exact ih (k + 1) acc n (by omega) (by omega)
    · rw [if_neg c, if_neg c]
      exact ih (k + 1) (acc + 1) n (by omega) (by omega)
set_option maxHeartbeats 4000000 in
theorem st_apart : St2 Rel fX7_apart fX8_apart := by
  intro X M h a b
  obtain ⟨h8, h8b, h8m⟩ := r8 h
  unfold fX7_apart fX8_apart fX7_apart_b21 fX8_apart_b18
  simp only [h3, exa8 (by omega) h8m, w7, w8, b2_s, bI_0, fd7_1, fd8_1, fd7_3, fd8_3, h8]
  by_cases c1 : 0 ≤ a ∧ a < nI (sz X 8)
  rotate_left
  · simp only [c1, not_false_eq_true, if_true]
    exact ⟨_, _, _, rfl, rfl, rel_fnd 1 h⟩
  by_cases c2 : 0 ≤ b ∧ b ≤ 100
  rotate_left
  · simp only [c1, c2, and_self, not_true_eq_false, not_false_eq_true, if_true, if_false]
    exact ⟨_, _, _, rfl, rfl, rel_fnd 1 h⟩
  obtain ⟨e, he, rfl⟩ := ix_of c1.1 c1.2 (by omega)
  simp only [c1, c2, and_self, not_true_eq_false, if_false]
  obtain ⟨c, g1, g2, g3, g4, g5⟩ := h.2.2.2.2.2.2.2.2.2.2.2 e (by omega)
  have e38 : M.2 24 = X.2 38 := ra h 38 (by decide)
  rw [wh7 (by omega) g2 g1, b2_s, gA_n (by omega) (by decide), bb_s, e38, g2]
  simp only [bI_0, nle (n := c) (m := 5) (by omega) (by decide)]
  by_cases q : c = 5
  · obtain ⟨m, t1, t2⟩ := mid_both h (by omega) g2 q
    have q' : 5 ≤ c := by omega
    simp only [q, q', Nat.le_refl, not_true_eq_false, if_true, if_false]
    unfold fX3_awayFromMiddle
    obtain ⟨r, u1, u2⟩ := ap_both (X := X) (b := b) (by omega) (ra h 40 (by decide)) t2 5 0 (nI 0) NN (by omega) (by unfold NN; omega)
    rw [t1, b2_s, show (0 : Int32) = nI 0 from rfl, u1, b2_s]
    exact ⟨r, X, M, rfl, u2, h⟩
  · have q' : ¬ 5 ≤ c := by omega
    simp only [q, q', not_false_eq_true, if_true, if_false]
    exact ⟨_, _, _, rfl, rfl, rel_fnd 3 h⟩
theorem plF_none {f : Nat → Int32} {x : Int32} : ∀ d k, (∀ i, k ≤ i → i < k + d → f i ≠ x) → plF f x d k = k + d
  | 0, _, _ => rfl
  | d + 1, k, h => by
    rw [plF, if_neg (h k (by omega) (by omega)), plF_none d (k + 1) (fun i h1 h2 => h i (by omega) (by omega))]
    omega
theorem hd8 {M : SS} {k36 : SS → Int32 → Int32 → Int32 → Option (Int32 × SS)} {e : Nat} {x m : Int32} {f g : Nat → Int32} (he : e < 20) (hc : M.2 24 e = 5) (hf : ∀ i, M.2 25 (5 * e + i) = f i) (hg : ∀ i, M.2 26 (5 * e + i) = g i) (t2 : fX8_middleOf NN M (nI e) = some (m, M)) (hd : ∀ i j, i < 5 → j < 5 → f i = f j → i = j) : ∀ d k acc n, k + d = 5 → d < n → fX8_hard_b47 NN k36 n M x acc (nI e) (nI k) = k36 M x (if plF f x d k < 5 then acc + (g (plF f x d k) - m) else acc) (nI (e + 1)) := by
  intro d
  induction d with
  | zero =>
    intro k acc n hk hn
    obtain ⟨n, rfl⟩ : ∃ m, n = m + 1 := ⟨n - 1, by omega⟩
    rw [fX8_hard_b47, if_pos ((nle (n := k) (m := 5) (by omega) (by decide)).mpr (by omega)), plF, if_neg (by omega), n1]
  | succ d ih =>
    intro k acc n hk hn
    obtain ⟨n, rfl⟩ : ∃ m, n = m + 1 := ⟨n - 1, by omega⟩
    rw [fX8_hard_b47, if_neg (fun z => by have := (nle (n := k) (m := 5) (by omega) (by decide)).mp z; omega), gA_n he (by decide), bb_s, if_pos hc, m5', gA_n (by omega) (by decide), bb_s, gA_n (by omega) (by decide), bb_s, hf, hg, t2, b2_s, n1, plF, i_z]
    by_cases c : f k = x
    · rw [if_pos c, if_pos c, ih (k + 1) _ n (by omega) (by omega)]
      have e5 : plF f x d (k + 1) = k + 1 + d := plF_none d (k + 1) (fun i h1 h2 z => by
        have := hd i k (by omega) (by omega) (z.trans c.symm)
        omega)
      rw [e5, if_neg (by omega), if_pos (by omega)]
    · rw [if_neg c, if_neg c]
      exact ih (k + 1) acc n (by omega) (by omega)
theorem hd8n {M : SS} {k36 : SS → Int32 → Int32 → Int32 → Option (Int32 × SS)} {e : Nat} {x acc : Int32} {n : Nat} (he : e < 20) (hc : M.2 24 e ≠ 5) : fX8_hard_b47 NN k36 (n + 1) M x acc (nI e) (nI 0) = k36 M x acc (nI (e + 1)) := by
  rw [fX8_hard_b47, if_neg (by decide), gA_n he (by decide), bb_s, if_neg hc, n1]
theorem hd_both {X M : SS} {x : Int32} (h : Rel X M) : ∀ d e acc n, e + d = sz X 8 → d < n → ∃ r, fX3_hardness_b4 NN n X x acc (nI e) = some (r, X) ∧ fX8_hard_b36 NN n M x acc (nI e) = some (r, M) := by
  obtain ⟨h8, h8b, h8m⟩ := r8 h
  have e38 : M.2 24 = X.2 38 := ra h 38 (by decide)
  have e39 : M.2 25 = X.2 39 := ra h 39 (by decide)
  have e40 : M.2 26 = X.2 40 := ra h 40 (by decide)
  intro d
  induction d with
  | zero =>
    intro e acc n hk hn
    obtain ⟨n, rfl⟩ : ∃ m, n = m + 1 := ⟨n - 1, by omega⟩
    rw [fX3_hardness_b4, fX8_hard_b36, h8, h8m, if_pos (nI_le (by omega) (by omega)), if_pos (nI_le (by omega) (by omega))]
    exact ⟨_, rfl, rfl⟩
  | succ d ih =>
    intro e acc n hk hn
    obtain ⟨n, rfl⟩ : ∃ m, n = m + 1 := ⟨n - 1, by omega⟩
    obtain ⟨c, g1, g2, g3, g4, g5⟩ := h.2.2.2.2.2.2.2.2.2.2.2 e (by omega)
    have t7 : fX3_placeFor NN X (nI e) x = _ := pl7 (N := NN) (x := x) (by omega) g2 g1 c 0 NN (by omega) (by unfold NN; omega)
    rw [fX3_hardness_b4, fX8_hard_b36, h8, h8m, if_neg (n_nle (by omega) (by omega)), if_neg (n_nle (by omega) (by omega)), t7, b2_s, wh7 (by omega) g2 g1, b2_s, n1]
    have hpl := (plF_le (fun i => X.2 39 (5 * e + i)) x c 0).2
    by_cases q : c = 5
    · subst q
      obtain ⟨m, t1, t2⟩ := mid_both h (by omega) g2 rfl
      rw [if_neg (by rw [bI_t rfl]; decide)]
      have u := hd8 (M := M) (k36 := fun S x1 x2 x3 => fX8_hard_b36 NN n S x1 x2 x3) (x := x) (f := fun i => X.2 39 (5 * e + i)) (g := fun i => X.2 40 (5 * e + i)) (by omega) ((congrFun e38 e).trans g2) (fun i => congrFun e39 _) (fun i => congrFun e40 _) t2 g5 5 0 acc NN (by omega) (by unfold NN; omega)
      rw [show (0 : Int32) = nI 0 from rfl, u]
      by_cases z : plF (fun i => X.2 39 (5 * e + i)) x 5 0 < 5
      · rw [if_neg (fun w => by have := (nle (m := 5) (by omega) (by decide)).mp w; omega), if_pos z, m5, gA_n (by omega) (by decide), bb_s, t1, b2_s]
        exact ih (e + 1) _ n (by omega) (by omega)
      · rw [if_pos ((nle (m := 5) (by omega) (by decide)).mpr (by omega)), if_neg z]
        exact ih (e + 1) _ n (by omega) (by omega)
    · rw [if_pos (bI_f q)]
      have u := hd8n (M := M) (k36 := fun S x1 x2 x3 => fX8_hard_b36 NN n S x1 x2 x3) (x := x) (acc := acc) (n := NN - 1) (e := e) (by omega) (by rw [e38, g2]; exact fun z => q ((neq (m := 5) (by omega) (by decide)).mp z))
      rw [show (0 : Int32) = nI 0 from rfl]
      rw [show NN - 1 + 1 = NN from rfl] at u
      rw [u]
      exact ih (e + 1) _ n (by omega) (by omega)
set_option maxHeartbeats 4000000 in
theorem st_hard : St1 Rel fX7_hard fX8_hard := by
  intro X M h a
  obtain ⟨h1, h1b, h1m⟩ := r1 h
  obtain ⟨h8, h8b, h8m⟩ := r8 h
  unfold fX7_hard fX8_hard
  simp only [h4, per8 (by omega) h1m, b2_s, bI_0, fd7_1, fd8_1, fd7_5, fd8_5, h1]
  by_cases c1 : 0 ≤ a ∧ a < nI (sz X 1)
  rotate_left
  · simp only [c1, not_false_eq_true, if_true]
    exact ⟨_, _, _, rfl, rfl, rel_fnd 1 h⟩
  obtain ⟨p, hp, rfl⟩ := ix_of c1.1 c1.2 (by omega)
  simp only [c1, and_self, not_true_eq_false, if_false]
  rw [ex7 (by omega), b2_s, gA_n (by omega) (by decide), bb_s, show M.2 1 = X.2 10 from ra h 10 (by decide)]
  simp only [bI_0]
  by_cases c4 : X.2 10 p = 1
  · simp only [c4, not_true_eq_false, if_true, if_false]
    obtain ⟨r, u1, u2⟩ := hd_both (x := nI p) h (sz X 8) 0 (nI 0) NN (by omega) (by unfold NN; omega)
    unfold fX3_hardness
    rw [show (0 : Int32) = nI 0 from rfl, u1, b2_s]
    exact ⟨r, X, M, rfl, u2, h⟩
  · simp only [c4, not_false_eq_true, if_true, if_false]
    exact ⟨_, _, _, rfl, rfl, rel_fnd 5 h⟩
