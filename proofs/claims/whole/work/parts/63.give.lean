/-! PANEL, GIVE -/
theorem bitN {m k : Nat} (hm : m < 2 ^ 31) (hk : k < 32) : (nI m >>> (nI k &&& 31)) &&& 1 = nI (m / 2 ^ k % 2) := by
  rw [pk_shrN hm _ k (s_l k hk), pk_andN (by have := Nat.div_le_self m (2 ^ k); omega) (m := 1) 1 (by decide)]
theorem bit1 : ∀ x, x < 20 → ∀ p, p < 20 → ((¬ (((1 : Int32) <<< (nI x &&& 31)) >>> (nI p &&& 31)) &&& 1 = 0) ↔ p = x) := by decide +kernel
theorem hit_one {f g h : Nat → Int32} {ns x np : Nat} {day known : Int32} (hx : x < 20) (hnp : np ≤ 20) (hk : ∀ s, s < ns → ∃ p, p < np ∧ f s = nI p) : hitB f g h (1 <<< (nI x &&& 31)) day known ns 0 = strB f g h (nI x) day known ns 0 := by
  rw [Bool.eq_iff_iff, hitB_iff, strB_iff]
  constructor
  · rintro ⟨s, s1, s2, s3, s4, s5⟩
    obtain ⟨p, p1, p2⟩ := hk s (by omega)
    rw [p2] at s3
    exact ⟨s, s1, s2, by rw [p2, (bit1 x hx p (by omega)).mp s3], s4, s5⟩
  · rintro ⟨s, s1, s2, s3, s4, s5⟩
    exact ⟨s, s1, s2, by rw [s3]; exact (bit1 x hx x hx).mpr rfl, s4, s5⟩
def okA (a : Nat) : Prop := a = 0 ∨ (3 ≤ a ∧ a ≤ 6)
theorem jud_both {X M : SS} {p u x r : Nat} {day : Int32} (h : Rel X M) (hs : Sd X M) (hp : p < sz X 1) (hu : u < 3) (hx : x < sz X 1) (hr : r < 40) : ∃ a, okA a ∧ fX0_whyNoJudge NN X (nI p) (nI u) day (nI x) (X.2 20 r) = some (nI (if X.2 10 x = 1 then a else 2), X) ∧ fX8_against NN M (nI x) (nI p) (nI u) (nI r) day = some (nI a, M) := by
  obtain ⟨h1, h1b, h1m⟩ := r1 h
  have e12 : M.2 3 = X.2 12 := ra h 12 (by decide)
  have e13 : M.2 4 = X.2 13 := ra h 13 (by decide)
  have e20 : M.2 13 = X.2 20 := ra h 20 (by decide)
  unfold fX0_whyNoJudge fX8_against
  rw [ex7 (by omega), b2_s, gA_n (S := X) (q := 12) (k := x) (by omega) (by decide), gA_n (S := X) (q := 12) (k := p) (by omega) (by decide), gA_n (S := X) (q := 13) (k := x) (by omega) (by decide), gA_n (S := M) (q := 3) (k := x) (by omega) (by decide), gA_n (S := M) (q := 3) (k := p) (by omega) (by decide), gA_n (S := M) (q := 4) (k := x) (by omega) (by decide), bb_s, bb_s, bb_s, bb_s, bb_s, bb_s, e12, e13, isStr8 h, isHit7 h, b2_s, b2_s]
  rw [hit_one (x := x) (np := sz X 1) (by omega) h1b h.2.2.2.2.2.2.2.2.2.1]
  obtain ⟨v, hv, v1, v2⟩ := held h hs (nI x) day hu
  rw [v1, v2, b2_s, b2_s, gA_n (S := M) (q := 13) (k := r) hr (by decide), bb_s, e20]
  -- what the reference answers
  have key : ∃ a, okA a ∧ (if nI x = nI p then some ((3 : Int32), X) else if X.2 12 x = X.2 12 p then some (3, X) else if day ≤ X.2 13 x then (if bI (strB (X.2 30) (X.2 31) (X.2 32) (nI x) day day (sz X 5) 0 = true) = 0 then (if X.2 20 r ≤ nI v then some (0, X) else some (6, X)) else some (5, X)) else some (4, X)) = some (nI a, X) ∧ (if nI x = nI p then some ((3 : Int32), M) else if X.2 12 x = X.2 12 p then some (3, M) else if day ≤ X.2 13 x then (if bI (strB (X.2 30) (X.2 31) (X.2 32) (nI x) day day (sz X 5) 0 = true) = 0 then (if X.2 20 r ≤ nI v then some (0, M) else some (6, M)) else some (5, M)) else some (4, M)) = some (nI a, M) := by
    by_cases c1 : nI x = nI p
    · rw [if_pos c1, if_pos c1]; exact ⟨3, Or.inr (by omega), rfl, rfl⟩
    rw [if_neg c1, if_neg c1]
    by_cases c2 : X.2 12 x = X.2 12 p
    · rw [if_pos c2, if_pos c2]; exact ⟨3, Or.inr (by omega), rfl, rfl⟩
    rw [if_neg c2, if_neg c2]
    by_cases c3 : day ≤ X.2 13 x
    · rw [if_pos c3, if_pos c3]
      by_cases c4 : bI (strB (X.2 30) (X.2 31) (X.2 32) (nI x) day day (sz X 5) 0 = true) = 0
      · rw [if_pos c4, if_pos c4]
        by_cases c5 : X.2 20 r ≤ nI v
        · rw [if_pos c5, if_pos c5]; exact ⟨0, Or.inl rfl, rfl, rfl⟩
        · rw [if_neg c5, if_neg c5]; exact ⟨6, Or.inr (by omega), rfl, rfl⟩
      · rw [if_neg c4, if_neg c4]; exact ⟨5, Or.inr (by omega), rfl, rfl⟩
    · rw [if_neg c3, if_neg c3]; exact ⟨4, Or.inr (by omega), rfl, rfl⟩
  obtain ⟨a, ha, k1, k2⟩ := key
  refine ⟨a, ha, ?_, k2⟩
  by_cases c : X.2 10 x = 1
  · rw [if_neg (by rw [bI_t c]; decide), if_pos c]
    exact k1
  · rw [if_pos (bI_f c), if_neg c]
    rfl
theorem mn_n {a b : Nat} (ha : a < 2 ^ 31) (hb : b < 2 ^ 31) : mn (nI a) (nI b) = nI (min a b) := by
  unfold mn
  by_cases c : b < a
  · rw [if_pos ((nI_ltI hb ha).mpr c), Nat.min_eq_right (by omega)]
  · rw [if_neg (fun z => c ((nI_ltI hb ha).mp z)), Nat.min_eq_left (by omega)]
def RlN (A al l : Nat) : Prop := (al = 0 ∧ A = 2 ∧ 3 ≤ l ∧ l ≤ 9) ∨ (al = 1 ∧ l = 9 ∧ A = 0) ∨ (al = 1 ∧ 3 ≤ l ∧ l ≤ 6 ∧ A = l)
theorem dv_suc (m k : Nat) : m / 2 ^ k / 2 = m / 2 ^ (k + 1) := by rw [Nat.div_div_eq_div_mul, Nat.pow_succ]
def nxA (A q : Nat) : Nat := if q = 0 then A else if A = 0 then q else if A ≤ q then A else q
def nxl (l a : Nat) : Nat := if a = 0 then l else min l a
theorem nx_row {α : Type} (F : Int32 → α) {A q : Nat} (hA : A ≤ 6) (hq : q ≤ 6) : (if nI q = 0 then F (nI A) else if nI A = 0 then F (nI q) else if nI A ≤ nI q then F (nI A) else F (nI q)) = F (nI (nxA A q)) := by
  unfold nxA
  simp only [neq (n := q) (m := 0) (by omega) (by decide), neq (n := A) (m := 0) (by omega) (by decide), nI_leI (a := A) (b := q) (by omega) (by omega)]
  by_cases c1 : q = 0
  · rw [if_pos c1, if_pos c1]
  · by_cases c2 : A = 0
    · rw [if_neg c1, if_neg c1, if_pos c2, if_pos c2]
    · by_cases c3 : A ≤ q
      · rw [if_neg c1, if_neg c1, if_neg c2, if_neg c2, if_pos c3, if_pos c3]
      · rw [if_neg c1, if_neg c1, if_neg c2, if_neg c2, if_neg c3, if_neg c3]
theorem nxA_2 {A : Nat} (h : A = 0 ∨ 2 ≤ A) : nxA A 2 = 2 := by
  unfold nxA
  rw [if_neg (by decide)]
  by_cases c : A = 0
  · rw [if_pos c]
  · rw [if_neg c]
    by_cases d : A ≤ 2
    · rw [if_pos d]; omega
    · rw [if_neg d]
theorem nxA_a {A a : Nat} (ha : 3 ≤ a) : (A = 0 → nxA A a = a) ∧ (A ≠ 0 → nxA A a = min A a) := by
  unfold nxA
  rw [if_neg (by omega)]
  refine ⟨fun c => by rw [if_pos c], fun c => ?_⟩
  rw [if_neg c]
  by_cases d : A ≤ a
  · rw [if_pos d]; omega
  · rw [if_neg d]; omega
theorem nxl_a {l a : Nat} : (a = 0 → nxl l a = l) ∧ (a ≠ 0 → nxl l a = min l a) := by
  unfold nxl
  exact ⟨fun c => if_pos c, fun c => if_neg c⟩
theorem Rl_ex {A al l a : Nat} (ha : okA a) (hR : RlN A al l) : RlN (nxA A a) al (nxl l a) := by
  rcases ha with rfl | ha
  · rw [nxl_a.1 rfl]
    exact hR
  · obtain ⟨n1', n2'⟩ := nxA_a (A := A) (a := a) ha.1
    rw [nxl_a.2 (by omega)]
    unfold RlN at hR ⊢
    rcases hR with ⟨r1, r2, r3, r4⟩ | ⟨r1, r2, r3⟩ | ⟨r1, r2, r3, r4⟩
    · rw [n2' (by omega)]; omega
    · rw [n1' r3]; omega
    · rw [n2' (by omega)]; omega
theorem Rl_no {A al l a : Nat} (ha : okA a) (hR : RlN A al l) : RlN (nxA A 2) 0 (nxl l a) := by
  rw [nxA_2 (by unfold RlN at hR; omega)]
  have hl : 3 ≤ nxl l a ∧ nxl l a ≤ 9 := by
    unfold RlN at hR
    rcases ha with rfl | ha
    · rw [nxl_a.1 rfl]; omega
    · rw [nxl_a.2 (by omega)]; omega
  exact Or.inl ⟨rfl, rfl, hl⟩
theorem ref_row {α : Type} (F : Int32 → Int32 → α) {al l a : Nat} (hal : al ≤ 1) (hl : l ≤ 9) (ha : a ≤ 6) (e : Prop) [Decidable e] : (if nI al = 0 then (if nI a ≤ 0 then F 0 (nI l) else F 0 (mn (nI l) (nI a))) else (if e then (if nI a ≤ 0 then F 1 (nI l) else F 1 (mn (nI l) (nI a))) else (if nI a ≤ 0 then F 0 (nI l) else F 0 (mn (nI l) (nI a))))) = F (nI (if al = 0 then 0 else if e then 1 else 0)) (nI (nxl l a)) := by
  have a0 : (nI a ≤ (0 : Int32)) ↔ a = 0 := by
    rw [show (0 : Int32) = nI 0 from rfl, nI_leI (by omega) (by omega)]
    omega
  simp only [a0, mn_n (a := l) (b := a) (by omega) (by omega), neq (n := al) (m := 0) (by omega) (by decide)]
  obtain ⟨x1, x2⟩ := nxl_a (l := l) (a := a)
  by_cases q0 : a = 0
  · rw [x1 q0]
    simp only [q0, if_true]
    by_cases z : al = 0
    · simp only [z, if_true]; rfl
    · simp only [z, if_false]
      by_cases c : e
      · simp only [c, if_true]; rfl
      · simp only [c, if_false]; rfl
  · rw [x2 q0]
    simp only [q0, if_false]
    by_cases z : al = 0
    · simp only [z, if_true]; rfl
    · simp only [z, if_false]
      by_cases c : e
      · simp only [c, if_true]; rfl
      · simp only [c, if_false]; rfl
set_option maxHeartbeats 4000000 in
theorem pan_both {X M : SS} {p u r m : Nat} {day : Int32} (h : Rel X M) (hs : Sd X M) (hp : p < sz X 1) (hu : u < 3) (hr : r < 40) (hm : m < 1048576) : ∀ d k A al l c n, k + d = sz X 1 → d < n → RlN A al l → ∃ A' al' l', RlN A' al' l' ∧ fX0_whyNoPanel_b17 NN n X (nI p) (nI u) day (nI m) (X.2 20 r) (nI A) (nI k) = some (nI A', X) ∧ fX8_panelOf_b13 NN n M (nI p) (nI u) (nI r) day (nI m) (nI c) (nI al) (nI l) (nI k) = fX8_panelOf_b99 NN M (nI (c + pb (m / 2 ^ k) d)) (nI al') (nI l') := by
  obtain ⟨h1, h1b, h1m⟩ := r1 h
  have e10 : M.2 1 = X.2 10 := ra h 10 (by decide)
  intro d
  induction d with
  | zero =>
    intro k A al l c n hk hn hR
    obtain ⟨n, rfl⟩ : ∃ m, n = m + 1 := ⟨n - 1, by omega⟩
    have z : nI (sz X 1) ≤ nI k := nI_le (by omega) (by omega)
    rw [fX0_whyNoPanel_b17, fX8_panelOf_b13, h1, h1m, if_pos z, if_pos z]
    exact ⟨A, al, l, hR, rfl, rfl⟩
  | succ d ih =>
    intro k A al l c n hk hn hR
    obtain ⟨n, rfl⟩ : ∃ m, n = m + 1 := ⟨n - 1, by omega⟩
    have z : ¬ nI (sz X 1) ≤ nI k := n_nle (by omega) (by omega)
    rw [fX0_whyNoPanel_b17, fX8_panelOf_b13, h1, h1m, if_neg z, if_neg z, bitN (by omega) (by omega), pb, dv_suc, n1]
    by_cases cb : m / 2 ^ k % 2 = 0
    · rw [cb, if_pos (show nI 0 = (0 : Int32) from rfl), if_pos (show nI 0 = (0 : Int32) from rfl), Nat.zero_add]
      exact ih (k + 1) A al l c n (by omega) (by omega) hR
    have cb1 : m / 2 ^ k % 2 = 1 := by omega
    rw [cb1, if_neg (show ¬ nI 1 = (0 : Int32) by decide), if_neg (show ¬ nI 1 = (0 : Int32) by decide)]
    obtain ⟨a, ha, j1, j2⟩ := jud_both (day := day) h hs hp hu (show k < sz X 1 by omega) hr
    have hA6 : A ≤ 6 := by unfold RlN at hR; omega
    have ha6 : a ≤ 6 := by unfold okA at ha; omega
    have hl9 : l ≤ 9 := by unfold RlN at hR; omega
    have hal1 : al ≤ 1 := by unfold RlN at hR; omega
    have hq6 : (if X.2 10 k = 1 then a else 2) ≤ 6 := by split <;> omega
    rw [j1, b2_s]
    have tx := nx_row (fun z => fX0_whyNoPanel_b17 NN n X (nI p) (nI u) day (nI m) (X.2 20 r) z (nI (k + 1))) hA6 hq6
    have tm := ref_row (fun x y => fX8_panelOf_b13 NN n M (nI p) (nI u) (nI r) day (nI m) (nI (c + 1)) x y (nI (k + 1))) hal1 hl9 ha6 (X.2 10 k = 1)
    rw [tx]
    unfold fX8_panelOf_b59
    rw [j2, b2_s, b2_s, gA_n (S := M) (q := 1) (k := k) (by omega) (by decide), bb_s, e10, n1, n1, tm]
    have hR2 : RlN (nxA A (if X.2 10 k = 1 then a else 2)) (if al = 0 then 0 else if X.2 10 k = 1 then 1 else 0) (nxl l a) := by
      by_cases e1 : X.2 10 k = 1
      · rw [if_pos e1, if_pos e1]
        have : (if al = 0 then 0 else 1) = al := by split <;> omega
        rw [this]
        exact Rl_ex ha hR
      · rw [if_neg e1, if_neg e1]
        have : (if al = 0 then 0 else 0) = 0 := by split <;> rfl
        rw [this]
        exact Rl_no ha hR
    obtain ⟨A', al', l', g1, g2, g3⟩ := ih (k + 1) _ _ _ (c + 1) n (by omega) (by omega) hR2
    refine ⟨A', al', l', g1, g2, ?_⟩
    rw [show c + (1 + pb (m / 2 ^ (k + 1)) d) = c + 1 + pb (m / 2 ^ (k + 1)) d by omega, ← g3]
