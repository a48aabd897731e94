/-! WHAT STANDS: know() and findStanding() -/
theorem and1 (x : Int32) : x &&& 1 = 0 ∨ x &&& 1 = 1 := by
  obtain ⟨j, hj, e⟩ := pk_andE x (m := 1) 1 (by decide)
  rcases (show j = 0 ∨ j = 1 by omega) with rfl | rfl
  · exact Or.inl e
  · exact Or.inr e
theorem and1_ne (x : Int32) : (¬ x &&& 1 = 0) ↔ x &&& 1 = 1 := by
  rcases and1 x with h | h
  · rw [h]; decide
  · rw [h]; decide
def hitB (f g h : Nat → Int32) (bits day known : Int32) : Nat → Nat → Bool
  | 0, _ => false
  | d + 1, k => (decide (¬ (bits >>> (f k &&& 31)) &&& 1 = 0) && decide (g k ≤ day) && decide (h k ≤ known)) || hitB f g h bits day known d (k + 1)
def strB (f g h : Nat → Int32) (p day known : Int32) : Nat → Nat → Bool
  | 0, _ => false
  | d + 1, k => (decide (f k = p) && decide (g k ≤ day) && decide (h k ≤ known)) || strB f g h p day known d (k + 1)
theorem hitB_iff {f g h : Nat → Int32} {bits day known : Int32} : ∀ d k, hitB f g h bits day known d k = true ↔ ∃ s, k ≤ s ∧ s < k + d ∧ (¬ (bits >>> (f s &&& 31)) &&& 1 = 0) ∧ g s ≤ day ∧ h s ≤ known
  | 0, k => ⟨fun z => (by cases z), fun ⟨s, h1, h2, _⟩ => by omega⟩
  | d + 1, k => by
    rw [hitB, Bool.or_eq_true, hitB_iff d (k + 1)]
    simp only [Bool.and_eq_true, decide_eq_true_eq]
    constructor
    · rintro (⟨⟨h1, h2⟩, h3⟩ | ⟨s, h1, h2, h3⟩)
      · exact ⟨k, by omega, by omega, h1, h2, h3⟩
      · exact ⟨s, by omega, by omega, h3⟩
    · rintro ⟨s, h1, h2, h3, h4, h5⟩
      by_cases e : s = k
      · subst e; exact Or.inl ⟨⟨h3, h4⟩, h5⟩
      · exact Or.inr ⟨s, by omega, by omega, h3, h4, h5⟩
theorem strB_iff {f g h : Nat → Int32} {p day known : Int32} : ∀ d k, strB f g h p day known d k = true ↔ ∃ s, k ≤ s ∧ s < k + d ∧ f s = p ∧ g s ≤ day ∧ h s ≤ known
  | 0, k => ⟨fun z => (by cases z), fun ⟨s, h1, h2, _⟩ => by omega⟩
  | d + 1, k => by
    rw [strB, Bool.or_eq_true, strB_iff d (k + 1)]
    simp only [Bool.and_eq_true, decide_eq_true_eq]
    constructor
    · rintro (⟨⟨h1, h2⟩, h3⟩ | ⟨s, h1, h2, h3⟩)
      · exact ⟨k, by omega, by omega, h1, h2, h3⟩
      · exact ⟨s, by omega, by omega, h3⟩
    · rintro ⟨s, h1, h2, h3, h4, h5⟩
      by_cases e : s = k
      · subst e; exact Or.inl ⟨⟨h3, h4⟩, h5⟩
      · exact Or.inr ⟨s, by omega, by omega, h3, h4, h5⟩
theorem hit7 {N : Nat} {X : SS} {bits day known : Int32} (h5 : X.1 5 = nI (sz X 5)) (h5b : sz X 5 ≤ 20) : ∀ d k n, k + d = sz X 5 → d < n → fX6_hit_b3 N n X bits day known (nI k) = some (bI (hitB (X.2 30) (X.2 31) (X.2 32) bits day known d k = true), X) := by
  intro d
  induction d with
  | zero =>
    intro k n hk hn
    obtain ⟨n, rfl⟩ : ∃ m, n = m + 1 := ⟨n - 1, by omega⟩
    rw [fX6_hit_b3, h5, if_pos (nI_le (by omega) (by omega))]
    rfl
  | succ d ih =>
    intro k n hk hn
    obtain ⟨n, rfl⟩ : ∃ m, n = m + 1 := ⟨n - 1, by omega⟩
    rw [fX6_hit_b3, h5, if_neg (n_nle (by omega) (by omega)), gA_n (by omega) (by decide), bb_s, gA_n (by omega) (by decide), bb_s, gA_n (by omega) (by decide), bb_s, n1, ih (k + 1) n (by omega) (by omega)]
    by_cases c1 : (bits >>> (X.2 30 k &&& 31)) &&& 1 = 0
    · rw [if_pos c1, bI_c (p := hitB (X.2 30) (X.2 31) (X.2 32) bits day known d (k + 1) = true) (q := hitB (X.2 30) (X.2 31) (X.2 32) bits day known (d + 1) k = true) (by simp [hitB, c1])]
    · rw [if_neg c1]
      by_cases c2 : day < X.2 31 k
      · rw [if_pos c2, bI_c (p := hitB (X.2 30) (X.2 31) (X.2 32) bits day known d (k + 1) = true) (q := hitB (X.2 30) (X.2 31) (X.2 32) bits day known (d + 1) k = true) (by simp [hitB, (nle_iff _ _).mpr c2])]
      · rw [if_neg c2]
        by_cases c3 : known < X.2 32 k
        · rw [if_pos c3, bI_c (p := hitB (X.2 30) (X.2 31) (X.2 32) bits day known d (k + 1) = true) (q := hitB (X.2 30) (X.2 31) (X.2 32) bits day known (d + 1) k = true) (by simp [hitB, (nle_iff _ _).mpr c3])]
        · rw [if_neg c3, bI_t (by simp [hitB, c1, (nlt_iff _ _).mp c2, (nlt_iff _ _).mp c3])]
          rfl
theorem str8 {N : Nat} {M : SS} {f g h : Nat → Int32} {w : Nat} {p day known : Int32} (h5 : M.1 4 = nI w) (h5b : w ≤ 20) (ef : M.2 19 = f) (eg : M.2 20 = g) (eh : M.2 21 = h) : ∀ d k b n, k + d = w → d < n → fX8_isStruck_b6 N n M p day known (bI (b = true)) (nI k) = some (bI ((b || strB f g h p day known d k) = true), M) := by
  intro d
  induction d with
  | zero =>
    intro k b n hk hn
    obtain ⟨n, rfl⟩ : ∃ m, n = m + 1 := ⟨n - 1, by omega⟩
    rw [fX8_isStruck_b6, h5, if_pos (nI_le (by omega) (by omega)), rZ_b, bI_c (p := b = true) (q := (b || strB f g h p day known 0 k) = true) (by simp [strB])]
  | succ d ih =>
    intro k b n hk hn
    obtain ⟨n, rfl⟩ : ∃ m, n = m + 1 := ⟨n - 1, by omega⟩
    have i0 := ih (k + 1) false n (by omega) (by omega)
    have i1 := ih (k + 1) true n (by omega) (by omega)
    rw [bI_f (by decide)] at i0
    rw [bI_t (by rfl)] at i1
    rw [fX8_isStruck_b6, h5, if_neg (n_nle (by omega) (by omega)), gA_n (by omega) (by decide), bb_s, gA_n (by omega) (by decide), bb_s, gA_n (by omega) (by decide), bb_s, n1, i0, i1, ef, eg, eh]
    cases b with
    | true =>
      rw [if_neg (by rw [bI_t rfl]; decide)]
      rfl
    | false =>
      rw [if_pos (bI_f (by decide))]
      by_cases c1 : f k = p
      · rw [if_pos c1]
        by_cases c2 : day < g k
        · rw [if_pos c2, bI_c (p := (false || strB f g h p day known d (k + 1)) = true) (q := (false || strB f g h p day known (d + 1) k) = true) (by simp [strB, (nle_iff _ _).mpr c2])]
        · rw [if_neg c2]
          by_cases c3 : known < h k
          · rw [if_pos c3, bI_c (p := (false || strB f g h p day known d (k + 1)) = true) (q := (false || strB f g h p day known (d + 1) k) = true) (by simp [strB, (nle_iff _ _).mpr c3])]
          · rw [if_neg c3, bI_c (p := (true || strB f g h p day known d (k + 1)) = true) (q := (false || strB f g h p day known (d + 1) k) = true) (by simp [strB, c1, (nlt_iff _ _).mp c2, (nlt_iff _ _).mp c3])]
      · rw [if_neg c1, bI_c (p := (false || strB f g h p day known d (k + 1)) = true) (q := (false || strB f g h p day known (d + 1) k) = true) (by simp [strB, c1])]
theorem isStr8 {X M : SS} (h : Rel X M) (p day known : Int32) : fX8_isStruck NN M p day known = some (bI (strB (X.2 30) (X.2 31) (X.2 32) p day known (sz X 5) 0 = true), M) := by
  obtain ⟨h5, h5b, h5m⟩ := r5 h
  have t := str8 (N := NN) (M := M) (p := p) (day := day) (known := known) h5m h5b (ra h 30 (by decide)) (ra h 31 (by decide)) (ra h 32 (by decide)) (sz X 5) 0 false NN (by omega) (by unfold NN; omega)
  rw [bI_f (by decide), Bool.false_or] at t
  exact t
theorem isHit7 {X M : SS} (h : Rel X M) (bits day known : Int32) : fX6_hit NN X bits day known = some (bI (hitB (X.2 30) (X.2 31) (X.2 32) bits day known (sz X 5) 0 = true), X) := by
  obtain ⟨h5, h5b, h5m⟩ := r5 h
  exact hit7 h5 h5b (sz X 5) 0 NN (by omega) (by unfold NN; omega)
/-- what the reference's falls asks of the persons from p on -/
def falB (f g h : Nat → Int32) (ns : Nat) (bits day known : Int32) : Nat → Nat → Bool
  | 0, _ => false
  | d + 1, p => (decide ((bits >>> (nI p &&& 31)) &&& 1 = 1) && strB f g h (nI p) day known ns 0) || falB f g h ns bits day known d (p + 1)
theorem falB_iff {f g h : Nat → Int32} {ns : Nat} {bits day known : Int32} : ∀ d p, falB f g h ns bits day known d p = true ↔ ∃ q, p ≤ q ∧ q < p + d ∧ (bits >>> (nI q &&& 31)) &&& 1 = 1 ∧ strB f g h (nI q) day known ns 0 = true
  | 0, k => ⟨fun z => (by cases z), fun ⟨s, h1, h2, _⟩ => by omega⟩
  | d + 1, k => by
    rw [falB, Bool.or_eq_true, falB_iff d (k + 1)]
    simp only [Bool.and_eq_true, decide_eq_true_eq]
    constructor
    · rintro (⟨h1, h2⟩ | ⟨s, h1, h2, h3⟩)
      · exact ⟨k, by omega, by omega, h1, h2⟩
      · exact ⟨s, by omega, by omega, h3⟩
    · rintro ⟨s, h1, h2, h3, h4⟩
      by_cases e : s = k
      · subst e; exact Or.inl ⟨h3, h4⟩
      · exact Or.inr ⟨s, by omega, by omega, h3, h4⟩
theorem fal_hit {f g h : Nat → Int32} {ns np : Nat} {bits day known : Int32} (hk : ∀ s, s < ns → ∃ p, p < np ∧ f s = nI p) : falB f g h ns bits day known np 0 = hitB f g h bits day known ns 0 := by
  rw [Bool.eq_iff_iff, falB_iff, hitB_iff]
  constructor
  · rintro ⟨q, _, h2, h3, h4⟩
    obtain ⟨s, s1, s2, s3, s4, s5⟩ := (strB_iff _ _).mp h4
    exact ⟨s, s1, s2, by rw [s3]; exact (and1_ne _).mpr h3, s4, s5⟩
  · rintro ⟨s, s1, s2, s3, s4, s5⟩
    obtain ⟨p, p1, p2⟩ := hk s (by omega)
    rw [p2] at s3
    exact ⟨p, by omega, by omega, (and1_ne _).mp s3, (strB_iff _ _).mpr ⟨s, s1, s2, p2, s4, s5⟩⟩
def ow (X : SS) (e : Nat) : Nat := (X.2 23 e).toNatClampNeg
def un (X : SS) (e : Nat) : Nat := (X.2 24 e).toNatClampNeg
def gr (X : SS) (e : Nat) : Nat := (X.2 25 e).toNatClampNeg
theorem ent_ok {X : SS} (h : InvE X) (h1 : sz X 1 ≤ 20) {e : Nat} (he : e < sz X 4) : X.2 23 e = nI (ow X e) ∧ ow X e < 20 ∧ X.2 24 e = nI (un X e) ∧ un X e < 3 ∧ X.2 25 e = nI (gr X e) ∧ 1 ≤ gr X e ∧ gr X e ≤ 10 := by
  obtain ⟨o, u, g, b1, b2, b3, b4, b5, b6, b7⟩ := h e he
  have e1 : ow X e = o := by unfold ow; rw [b1, nI_clamp (by omega)]
  have e2 : un X e = u := by unfold un; rw [b3, nI_clamp (by omega)]
  have e3 : gr X e = g := by unfold gr; rw [b5, nI_clamp (by omega)]
  rw [e1, e2, e3]
  exact ⟨b1, by omega, b3, b4, b5, b6, b7⟩
def flB (X : SS) (kn : Int32) (e : Nat) : Bool := decide (X.2 21 (un X e) = 1) && hitB (X.2 30) (X.2 31) (X.2 32) (X.2 27 e) (X.2 26 e) kn (sz X 5) 0
/-- what a person has in a union by the entries ahead of e that stand -/
def Hf (X : SS) (kn : Int32) : Nat → Nat → Nat → Int32
  | 0, _, _ => 0
  | e + 1, p, u => if (¬ Hf X kn e (ow X e) (un X e) < X.2 25 e - 1) ∧ flB X kn e = false ∧ ow X e = p then mx (Hf X kn e p u) (X.2 22 ((u * 3 + un X e) * 11 + gr X e)) else Hf X kn e p u
def stB (X : SS) (kn : Int32) (e : Nat) : Bool := decide (¬ Hf X kn e (ow X e) (un X e) < X.2 25 e - 1) && !flB X kn e
theorem Hf_s (X : SS) (kn : Int32) (e p u : Nat) : Hf X kn (e + 1) p u = if stB X kn e = true ∧ ow X e = p then mx (Hf X kn e p u) (X.2 22 ((u * 3 + un X e) * 11 + gr X e)) else Hf X kn e p u := by
  rw [Hf]
  unfold stB
  by_cases c : (¬ Hf X kn e (ow X e) (un X e) < X.2 25 e - 1) ∧ flB X kn e = false ∧ ow X e = p
  · rw [if_pos c, if_pos ⟨by rw [Bool.and_eq_true]; exact ⟨decide_eq_true c.1, by rw [c.2.1]; rfl⟩, c.2.2⟩]
  · rw [if_neg c, if_neg (fun z => c (by simp at z; exact ⟨by rw [nlt_iff]; exact z.1.1, z.1.2, z.2⟩))]
theorem mx_ge (a b : Int32) : a ≤ mx a b := by
  unfold mx
  by_cases c : a < b
  · rw [if_pos c]; rw [i_lt] at c; rw [i_le]; omega
  · rw [if_neg c]; rw [i_le]; omega
theorem i_tr {a b c : Int32} (h1 : a ≤ b) (h2 : b ≤ c) : a ≤ c := by
  rw [i_le] at *; omega
theorem Hf_nn (X : SS) (kn : Int32) : ∀ e p u, 0 ≤ Hf X kn e p u
  | 0, _, _ => by show (0 : Int32) ≤ 0; decide
  | e + 1, p, u => by
    rw [Hf_s]
    split
    · exact i_tr (Hf_nn X kn e p u) (mx_ge _ _)
    · exact Hf_nn X kn e p u
def bt2 (b : Bool) : Int32 := if b then 1 else 0
theorem nar1 : vp_nar .boolean 1 = 1 := by decide
theorem nar0 : vp_nar .boolean 0 = 0 := by decide
-- the class's side
theorem fl29 {N : Nat} : ∀ d i S n, i + d = 60 → d < n → ∃ S', fJ7_fill_29_b5 N n S 0 (nI i) 60 = some S' ∧ S'.1 = S.1 ∧ (∀ q, q ≠ 29 → S'.2 q = S.2 q) ∧ ∀ j, S'.2 29 j = if i ≤ j ∧ j < 60 then 0 else S.2 29 j := by
  intro d
  induction d with
  | zero =>
    intro i S n hi hn
    obtain ⟨n, rfl⟩ : ∃ m, n = m + 1 := ⟨n - 1, by omega⟩
    rw [fJ7_fill_29_b5, if_pos ((nle (n := i) (m := 60) (by omega) (by decide)).mpr (by omega))]
    exact ⟨S, rfl, rfl, fun _ _ => rfl, fun j => by rw [if_neg (by omega)]⟩
  | succ d ih =>
    intro i S n hi hn
    obtain ⟨n, rfl⟩ : ∃ m, n = m + 1 := ⟨n - 1, by omega⟩
    rw [fJ7_fill_29_b5, if_neg (fun z => by have := (nle (n := i) (m := 60) (by omega) (by decide)).mp z; omega), pA_n (by omega) (by decide), bb_s, n1]
    obtain ⟨S', h1, h2, h3, h4⟩ := ih (i + 1) (setA S 29 i 0) n (by omega) (by omega)
    refine ⟨S', h1, h2, fun q hq => (h3 q hq).trans (setA_o hq), fun j => ?_⟩
    rw [h4, setA_s]
    by_cases c : i + 1 ≤ j ∧ j < 60
    · rw [if_pos c, if_pos (by omega)]
    · rw [if_neg c]
      by_cases c2 : j = i
      · rw [if_pos (by omega), c2]; exact if_pos rfl
      · rw [if_neg (by omega)]; exact if_neg c2
theorem rs7 {N : Nat} {X : SS} {e : Nat} (he : e < 60) (k1 : X.2 23 e = nI (ow X e)) (k2 : ow X e < 20) (k3 : X.2 24 e = nI (un X e)) (k4 : un X e < 3) (k5 : X.2 25 e = nI (gr X e)) (k7 : gr X e ≤ 10) : ∀ d u S n, u + d = 3 → d < n → S.2 23 = X.2 23 → S.2 24 = X.2 24 → S.2 25 = X.2 25 → S.2 22 = X.2 22 → ∃ S', fX2_raise_b2 N n S (nI e) (nI u) = some S' ∧ S'.1 = S.1 ∧ (∀ q, q ≠ 29 → S'.2 q = S.2 q) ∧ ∀ p v, p < 20 → v < 3 → S'.2 29 (p * 3 + v) = if p = ow X e ∧ u ≤ v then mx (S.2 29 (p * 3 + v)) (X.2 22 ((v * 3 + un X e) * 11 + gr X e)) else S.2 29 (p * 3 + v) := by
  intro d
  induction d with
  | zero =>
    intro u S n hu hn e1 e2 e3 e4
    obtain ⟨n, rfl⟩ : ∃ m, n = m + 1 := ⟨n - 1, by omega⟩
    rw [fX2_raise_b2, if_pos ((nle (n := u) (m := 3) (by omega) (by decide)).mpr (by omega))]
    exact ⟨S, rfl, rfl, fun _ _ => rfl, fun p v hp hv => by rw [if_neg (by omega)]⟩
  | succ d ih =>
    intro u S n hu hn e1 e2 e3 e4
    obtain ⟨n, rfl⟩ : ∃ m, n = m + 1 := ⟨n - 1, by omega⟩
    have i3 : nI (ow X e) * 3 + nI u = nI (ow X e * 3 + u) := by rw [show (3 : Int32) = nI 3 from rfl, pk_mul, nI_add]
    rw [fX2_raise_b2, if_neg (fun z => by have := (nle (n := u) (m := 3) (by omega) (by decide)).mp z; omega), gA_n he (by decide), bb_s, e1, k1, i3, gA_n (by omega) (by decide), bb_s, gA_n he (by decide), bb_s, gA_n he (by decide), bb_s, e2, e3, k3, k5]
    unfold fX2_value
    rw [wi7, gA_n (by omega) (by decide), bb_s, b2_s, pA_n (by omega) (by decide), bb_s, n1, e4]
    obtain ⟨S', h1, h2, h3, h4⟩ := ih (u + 1) (setA S 29 (ow X e * 3 + u) (mx (S.2 29 (ow X e * 3 + u)) (X.2 22 ((u * 3 + un X e) * 11 + gr X e)))) n (by omega) (by omega) (by rw [setA_o (by decide)]; exact e1) (by rw [setA_o (by decide)]; exact e2) (by rw [setA_o (by decide)]; exact e3) (by rw [setA_o (by decide)]; exact e4)
    refine ⟨S', h1, h2, fun q hq => (h3 q hq).trans (setA_o hq), fun p v hp hv => ?_⟩
    rw [h4 p v hp hv, setA_s]
    by_cases c : p * 3 + v = ow X e * 3 + u
    · have c1 : p = ow X e := by omega
      have c2 : v = u := by omega
      subst c2
      rw [if_neg (by omega), if_pos (by omega), c1]
      exact if_pos rfl
    · rw [show upd (S.2 29) (ow X e * 3 + u) (mx (S.2 29 (ow X e * 3 + u)) (X.2 22 ((u * 3 + un X e) * 11 + gr X e))) (p * 3 + v) = S.2 29 (p * 3 + v) from if_neg c]
      by_cases c3 : p = ow X e ∧ u + 1 ≤ v
      · rw [if_pos c3, if_pos (by omega)]
      · rw [if_neg c3, if_neg (by omega)]
def KI (X : SS) (kn : Int32) (e : Nat) (S : SS) : Prop := S.1 = X.1 ∧ (∀ q, q ≠ 28 → q ≠ 29 → S.2 q = X.2 q) ∧ (∀ i, i < e → S.2 28 i = bt2 (stB X kn i)) ∧ ∀ p u, p < 20 → u < 3 → S.2 29 (p * 3 + u) = Hf X kn e p u
theorem rel_kn {X M X' M' : SS} (h : Rel X M) (x1 : X'.1 = X.1) (x2 : ∀ q, q ≠ 28 → q ≠ 29 → X'.2 q = X.2 q) (m1 : M'.1 = M.1) (m2 : ∀ q, q ≠ 29 → M'.2 q = M.2 q) : Rel X' M' := by
  obtain ⟨a1, a2, a3, a4, a5, a6, a7, a8, a9, a10, a11, a12⟩ := h
  have ez : ∀ k, sz X' k = sz X k := fun k => by unfold sz; rw [x1]
  refine ⟨fun k hk => by rw [x1, m1]; exact a1 k hk, fun q hq => ?_, ?_, ?_, ?_, ?_, ?_, ?_, ?_, ?_, ?_, ?_⟩
  · obtain ⟨z1, z2, z3, z4, z5, z6, _⟩ := arrs_ok q hq
    rw [x2 q z4 z5, m2 _ z6]
    exact a2 q hq
  · unfold RV; rw [x2 22 (by decide) (by decide), m2 6 (by decide)]; exact a3
  · unfold RG; rw [x1, ez, x2 36 (by decide) (by decide), m2 23 (by decide)]; exact a4
  · unfold InvS; rw [x1, ez, ez, ez, ez, ez, ez, ez, ez]; exact a5
  · unfold InvP; rw [ez, x2 11 (by decide) (by decide)]; exact a6
  · unfold InvC; rw [ez, ez, exC_cong (x2 10 (by decide) (by decide))]; exact a7
  · unfold InvR; rw [ez, x2 18 (by decide) (by decide), x2 15 (by decide) (by decide)]; exact a8
  · unfold InvE; rw [ez, ez, x2 23 (by decide) (by decide), x2 24 (by decide) (by decide), x2 25 (by decide) (by decide)]; exact a9
  · unfold InvK; rw [ez, ez, x2 30 (by decide) (by decide)]; exact a10
  · unfold InvW; rw [ez, ez, x2 33 (by decide) (by decide)]; exact a11
  · unfold InvM; rw [ez, x2 38 (by decide) (by decide), x2 39 (by decide) (by decide), x2 40 (by decide) (by decide)]; exact a12
theorem fa7 {X M S : SS} {kn : Int32} {e : Nat} (h : Rel X M) (hS1 : S.1 = X.1) (hS2 : ∀ q, q ≠ 28 → q ≠ 29 → S.2 q = X.2 q) (he : e < sz X 4) : fX2_falls NN S (nI e) kn = some (bI (flB X kn e = true), S) := by
  have hb4 := (r4 h).2.1
  obtain ⟨k1, k2, k3, k4, k5, k6, k7⟩ := ent_ok h.2.2.2.2.2.2.2.2.1 (r1 h).2.1 he
  have hR : Rel S M := rel_kn h hS1 hS2 rfl (fun _ _ => rfl)
  have t := isHit7 hR (X.2 27 e) (X.2 26 e) kn
  have es : sz S 5 = sz X 5 := by unfold sz; rw [hS1]
  rw [hS2 30 (by decide) (by decide), hS2 31 (by decide) (by decide), hS2 32 (by decide) (by decide), es] at t
  unfold fX2_falls
  rw [gA_n (by omega) (by decide), bb_s, hS2 24 (by decide) (by decide), k3, gA_n (by omega) (by decide), bb_s, gA_n (by omega) (by decide), bb_s, gA_n (by omega) (by decide), bb_s, hS2 21 (by decide) (by decide), hS2 27 (by decide) (by decide), hS2 26 (by decide) (by decide), t, b2_s]
  unfold flB
  by_cases c : X.2 21 (un X e) = 1
  · rw [if_pos c]
    by_cases c2 : hitB (X.2 30) (X.2 31) (X.2 32) (X.2 27 e) (X.2 26 e) kn (sz X 5) 0 = true
    · rw [if_neg (by rw [bI_t c2]; decide), bI_t (by simp [c, c2])]; rfl
    · rw [if_pos (bI_f c2), bI_f (by simp [c2])]; rfl
  · rw [if_neg c, bI_f (by simp [c])]; rfl
theorem kn7 {X M : SS} {kn : Int32} (h : Rel X M) : ∀ d e S n, e + d = sz X 4 → d < n → KI X kn e S → ∃ S', fX2_know_b10 NN n S kn (nI e) = some S' ∧ KI X kn (sz X 4) S' := by
  obtain ⟨h4, h4b, h4m⟩ := r4 h
  intro d
  induction d with
  | zero =>
    intro e S n hk hn hI
    obtain ⟨n, rfl⟩ : ∃ m, n = m + 1 := ⟨n - 1, by omega⟩
    rw [fX2_know_b10, hI.1, h4, if_pos (nI_le (by omega) (by omega))]
    exact ⟨S, rfl, by rw [show sz X 4 = e by omega]; exact hI⟩
  | succ d ih =>
    intro e S n hk hn hI
    obtain ⟨n, rfl⟩ : ∃ m, n = m + 1 := ⟨n - 1, by omega⟩
    obtain ⟨k1, k2, k3, k4, k5, k6, k7⟩ := ent_ok h.2.2.2.2.2.2.2.2.1 (r1 h).2.1 (show e < sz X 4 by omega)
    obtain ⟨i1, i2, i3, i4⟩ := hI
    have i33 : nI (ow X e) * 3 + nI (un X e) = nI (ow X e * 3 + un X e) := by rw [show (3 : Int32) = nI 3 from rfl, pk_mul, nI_add]
    rw [fX2_know_b10, i1, h4, if_neg (n_nle (by omega) (by omega)), gA_n (by omega) (by decide), bb_s, gA_n (by omega) (by decide), bb_s, i2 23 (by decide) (by decide), i2 24 (by decide) (by decide), k1, k3, i33, gA_n (by omega) (by decide), bb_s, gA_n (by omega) (by decide), bb_s, i2 25 (by decide) (by decide), i4 _ _ k2 k4, fa7 h i1 i2 (by omega), b2_s]
    -- the step with the bit b
    have step : ∀ b : Bool, stB X kn e = b → ∃ S', fX2_know_b70 NN (fun S x1 x2 => fX2_know_b10 NN n S x1 x2) S kn (nI e) (nI e) (bt2 b) = some S' ∧ KI X kn (sz X 4) S' := by
      intro b hb
      unfold fX2_know_b70
      rw [pA_n (by omega) (by decide), bb_s, gA_n (by omega) (by decide), bb_s, n1, setA_s, show upd (S.2 28) e (vp_nar .boolean (bt2 b)) e = vp_nar .boolean (bt2 b) from if_pos rfl]
      have hbit : vp_nar .boolean (bt2 b) = bt2 b := by cases b <;> decide
      rw [hbit]
      have base28 : ∀ i, i < e + 1 → (setA S 28 e (bt2 b)).2 28 i = bt2 (stB X kn i) := by
        intro i hi
        rw [setA_s]
        by_cases c : i = e
        · subst c; rw [hb]; exact if_pos rfl
        · exact (if_neg c).trans (i3 i (by omega))
      cases b with
      | false =>
        rw [if_pos (by rfl)]
        refine ih (e + 1) _ n (by omega) (by omega) ⟨i1, fun q h1 h2 => (setA_o h1).trans (i2 q h1 h2), base28, fun p u hp hu => ?_⟩
        rw [setA_o (by decide), i4 p u hp hu, Hf_s, if_neg (by rw [hb]; simp)]
      | true =>
        rw [if_neg (by decide)]
        obtain ⟨S', t1, t2, t3, t4⟩ := rs7 (N := NN) (X := X) (e := e) (by omega) k1 k2 k3 k4 k5 k7 3 0 (setA S 28 e (bt2 true)) NN (by omega) (by unfold NN; omega) (by rw [setA_o (by decide)]; exact i2 23 (by decide) (by decide)) (by rw [setA_o (by decide)]; exact i2 24 (by decide) (by decide)) (by rw [setA_o (by decide)]; exact i2 25 (by decide) (by decide)) (by rw [setA_o (by decide)]; exact i2 22 (by decide) (by decide))
        rw [show fX2_raise NN (setA S 28 e (bt2 true)) (nI e) = some S' from t1, bb_s]
        refine ih (e + 1) S' n (by omega) (by omega) ⟨t2.trans i1, fun q h1 h2 => (t3 q h2).trans ((setA_o h1).trans (i2 q h1 h2)), fun i hi => ?_, fun p u hp hu => ?_⟩
        · rw [t3 28 (by decide)]; exact base28 i hi
        · rw [t4 p u hp hu, setA_o (by decide), i4 p u hp hu, Hf_s, hb]
          by_cases c : p = ow X e
          · rw [if_pos ⟨c, by omega⟩, if_pos ⟨rfl, c.symm⟩]
          · rw [if_neg (fun z => c z.1), if_neg (fun z => c z.2.symm)]
    by_cases c1 : Hf X kn e (ow X e) (un X e) < X.2 25 e - 1
    · rw [if_pos c1]
      exact step false (by unfold stB; simp [c1])
    · rw [if_neg c1]
      by_cases c2 : flB X kn e = true
      · rw [if_neg (by rw [bI_t c2]; decide)]
        exact step false (by unfold stB; simp [c2])
      · rw [if_pos (bI_f c2)]
        exact step true (by unfold stB; simp [(nlt_iff _ _).mp c1, c2])
