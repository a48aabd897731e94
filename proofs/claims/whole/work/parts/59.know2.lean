/-! the reference's side, and both -/
theorem fa8 {X M : SS} {kn : Int32} {e : Nat} (h : Rel X M) (he : e < sz X 4) : ∀ d p b n, p + d = sz X 1 → d < n → fX8_falls_b5 NN n M (nI e) kn (bI (b = true)) (nI p) = some (bI ((decide (X.2 21 (un X e) = 1) && (b || falB (X.2 30) (X.2 31) (X.2 32) (sz X 5) (X.2 27 e) (X.2 26 e) kn d p)) = true), M) := by
  obtain ⟨h1, h1b, h1m⟩ := r1 h
  have hb4 := (r4 h).2.1
  obtain ⟨k1, k2, k3, k4, k5, k6, k7⟩ := ent_ok h.2.2.2.2.2.2.2.2.1 (r1 h).2.1 he
  have e24 : M.2 15 = X.2 24 := ra h 24 (by decide)
  have e21 : M.2 7 = X.2 21 := ra h 21 (by decide)
  have e27 : M.2 18 = X.2 27 := ra h 27 (by decide)
  have e26 : M.2 17 = X.2 26 := ra h 26 (by decide)
  intro d
  induction d with
  | zero =>
    intro p b n hk hn
    obtain ⟨n, rfl⟩ : ∃ m, n = m + 1 := ⟨n - 1, by omega⟩
    rw [fX8_falls_b5, h1m, if_pos (nI_le (by omega) (by omega))]
    unfold fX8_falls_b61
    rw [gA_n (by omega) (by decide), bb_s, e24, k3, gA_n (by omega) (by decide), bb_s, e21]
    cases b with
    | false =>
      rw [if_pos (bI_f (by decide)), bI_f (by simp [falB])]; rfl
    | true =>
      rw [if_neg (by rw [bI_t rfl]; decide)]
      by_cases c : X.2 21 (un X e) = 1
      · rw [if_pos c, bI_t (by simp [c])]; rfl
      · rw [if_neg c, bI_f (by simp [c])]; rfl
  | succ d ih =>
    intro p b n hk hn
    obtain ⟨n, rfl⟩ : ∃ m, n = m + 1 := ⟨n - 1, by omega⟩
    have i0 := ih (p + 1) false n (by omega) (by omega)
    have i1 := ih (p + 1) true n (by omega) (by omega)
    rw [bI_f (by decide)] at i0
    rw [bI_t (by rfl)] at i1
    rw [fX8_falls_b5, h1m, if_neg (n_nle (by omega) (by omega)), gA_n (by omega) (by decide), bb_s, gA_n (by omega) (by decide), bb_s, n1, i0, i1, e27, e26, isStr8 h, b2_s, i0, i1]
    cases b with
    | true =>
      rw [if_neg (by rw [bI_t rfl]; decide)]
      rfl
    | false =>
      rw [if_pos (bI_f (by decide)), falB]
      by_cases c1 : (X.2 27 e >>> (nI p &&& 31)) &&& 1 = 1
      · rw [if_pos c1]
        by_cases c2 : strB (X.2 30) (X.2 31) (X.2 32) (nI p) (X.2 26 e) kn (sz X 5) 0 = true
        · rw [if_neg (by rw [bI_t c2]; decide), decide_eq_true c1, c2]
          rfl
        · rw [if_pos (bI_f c2), Bool.not_eq_true _ |>.mp c2, Bool.and_false]
          rfl
      · rw [if_neg c1, decide_eq_false c1]
        rfl
theorem falls8 {X M : SS} {kn : Int32} {e : Nat} (h : Rel X M) (he : e < sz X 4) : fX8_falls NN M (nI e) kn = some (bI (flB X kn e = true), M) := by
  have t := fa8 (kn := kn) h he (sz X 1) 0 false NN (by omega) (by have := (r1 h).2.1; unfold NN; omega)
  rw [bI_f (by decide), Bool.false_or, fal_hit h.2.2.2.2.2.2.2.2.2.1] at t
  exact t
theorem cnt8 {N : Nat} {X M : SS} {u v g : Nat} (h : Rel X M) (hu : u < 3) (hv : v < 3) (hg : 1 ≤ g) (hg2 : g ≤ 10) : fX8_counts N M (nI u) (nI v) (nI g) = some (X.2 22 ((u * 3 + v) * 11 + g), M) := by
  have q := (h.2.2.1 u v g hu hv hg hg2).1
  unfold fX8_counts fX8_worthAt
  by_cases c : u = v
  · rw [if_pos (by rw [c]), q, if_pos c]
  · rw [if_neg (fun z => c ((nI_eq (by omega) (by omega)).mp z)), b2_s, wi8, gA_n (by omega) (by decide), bb_s, q, if_neg c]
theorem in15 {X M S : SS} {kn : Int32} {k2 : SS → Int32 → Int32 → Option SS} {e : Nat} (h : Rel X M) (hR : Rel X S) (he : e < sz X 4) (hst : ∀ i, i < e → S.2 29 i = bt2 (stB X kn i)) : ∀ d k n, k + d = e → d < n → fX8_findStanding_b15 NN k2 n S kn (nI e) (Hf X kn k (ow X e) (un X e)) (nI k) = fX8_findStanding_b82 NN k2 S kn (nI e) (Hf X kn e (ow X e) (un X e)) := by
  have hb4 := (r4 h).2.1
  obtain ⟨k1, k2', k3, k4, k5, k6, k7⟩ := ent_ok h.2.2.2.2.2.2.2.2.1 (r1 h).2.1 he
  have e23 : S.2 14 = X.2 23 := ra hR 23 (by decide)
  have e24 : S.2 15 = X.2 24 := ra hR 24 (by decide)
  have e25 : S.2 16 = X.2 25 := ra hR 25 (by decide)
  intro d
  induction d with
  | zero =>
    intro k n hk hn
    obtain ⟨n, rfl⟩ : ∃ m, n = m + 1 := ⟨n - 1, by omega⟩
    rw [fX8_findStanding_b15, if_pos (nI_le (by omega) (by omega)), show k = e by omega]
  | succ d ih =>
    intro k n hk hn
    obtain ⟨n, rfl⟩ : ∃ m, n = m + 1 := ⟨n - 1, by omega⟩
    obtain ⟨j1, j2, j3, j4, j5, j6, j7⟩ := ent_ok h.2.2.2.2.2.2.2.2.1 (r1 h).2.1 (show k < sz X 4 by omega)
    have i := ih (k + 1) n (by omega) (by omega)
    rw [Hf_s] at i
    rw [fX8_findStanding_b15, if_neg (n_nle (by omega) (by omega)), gA_n (by omega) (by decide), bb_s, hst k (by omega), n1]
    cases hb : stB X kn k with
    | false =>
      rw [if_pos (by rfl)]
      rw [if_neg (by rw [hb]; simp)] at i
      exact i
    | true =>
      rw [if_neg (by decide), gA_n (by omega) (by decide), bb_s, gA_n (by omega) (by decide), bb_s, e23, j1, k1]
      by_cases c : ow X k = ow X e
      · rw [if_pos (by rw [c]), gA_n (by omega) (by decide), bb_s, gA_n (by omega) (by decide), bb_s, gA_n (by omega) (by decide), bb_s, e24, e25, k3, j3, j5, cnt8 hR k4 j4 j6 j7, b2_s]
        rw [if_pos ⟨hb, c⟩] at i
        exact i
      · rw [if_neg (fun z => c ((nI_eq (by omega) (by omega)).mp z))]
        rw [if_neg (fun z => c z.2)] at i
        exact i
def KM (X M : SS) (kn : Int32) (e : Nat) (S : SS) : Prop := S.1 = M.1 ∧ (∀ q, q ≠ 29 → S.2 q = M.2 q) ∧ ∀ i, i < e → S.2 29 i = bt2 (stB X kn i)
theorem kn8 {X M : SS} {kn : Int32} (h : Rel X M) : ∀ d e S n, e + d = sz X 4 → d < n → KM X M kn e S → ∃ S', fX8_findStanding_b2 NN n S kn (nI e) = some S' ∧ KM X M kn (sz X 4) S' := by
  obtain ⟨h4, h4b, h4m⟩ := r4 h
  intro d
  induction d with
  | zero =>
    intro e S n hk hn hI
    obtain ⟨n, rfl⟩ : ∃ m, n = m + 1 := ⟨n - 1, by omega⟩
    rw [fX8_findStanding_b2, hI.1, h4m, if_pos (nI_le (by omega) (by omega))]
    exact ⟨S, rfl, by rw [show sz X 4 = e by omega]; exact hI⟩
  | succ d ih =>
    intro e S n hk hn hI
    obtain ⟨n, rfl⟩ : ∃ m, n = m + 1 := ⟨n - 1, by omega⟩
    obtain ⟨k1, k2, k3, k4, k5, k6, k7⟩ := ent_ok h.2.2.2.2.2.2.2.2.1 (r1 h).2.1 (show e < sz X 4 by omega)
    obtain ⟨i1, i2, i3⟩ := hI
    have hR : Rel X S := rel_kn h rfl (fun _ _ _ => rfl) i1 i2
    have e25 : S.2 16 = X.2 25 := ra hR 25 (by decide)
    have t := in15 (kn := kn) (k2 := fun S x1 x2 => fX8_findStanding_b2 NN n S x1 x2) h hR (show e < sz X 4 by omega) i3 e 0 NN (by omega) (by unfold NN; omega)
    rw [fX8_findStanding_b2, i1, h4m, if_neg (n_nle (by omega) (by omega))]
    rw [show (0 : Int32) = nI 0 from rfl]
    rw [show Hf X kn 0 (ow X e) (un X e) = nI 0 from rfl] at t
    rw [t]
    unfold fX8_findStanding_b82
    rw [falls8 hR (by omega), b2_s]
    have step : ∀ b : Bool, stB X kn e = b → ∃ S', fX8_findStanding_b123 NN (fun S x1 x2 => fX8_findStanding_b2 NN n S x1 x2) S kn (nI e) (nI e) (bt2 b) = some S' ∧ KM X M kn (sz X 4) S' := by
      intro b hb
      unfold fX8_findStanding_b123
      have hbit : vp_nar .boolean (bt2 b) = bt2 b := by cases b <;> decide
      rw [pA_n (by omega) (by decide), bb_s, n1, hbit]
      refine ih (e + 1) _ n (by omega) (by omega) ⟨i1, fun q hq => (setA_o hq).trans (i2 q hq), fun i hi => ?_⟩
      rw [setA_s]
      by_cases c : i = e
      · subst c; rw [hb]; exact if_pos rfl
      · exact (if_neg c).trans (i3 i (by omega))
    by_cases c2 : flB X kn e = true
    · rw [if_neg (by rw [bI_t c2]; decide)]
      exact step false (by unfold stB; simp [c2])
    · rw [if_pos (bI_f c2), gA_n (by omega) (by decide), bb_s, e25, bb_s]
      by_cases c3 : X.2 25 e = 1
      · rw [if_pos c3]
        refine step true ?_
        unfold stB
        have z := Hf_nn X kn e (ow X e) (un X e)
        rw [c3, show (1 : Int32) - 1 = 0 from rfl]
        simp [z, c2]
      · rw [if_neg c3]
        by_cases c1 : Hf X kn e (ow X e) (un X e) < X.2 25 e - 1
        · rw [if_pos c1]
          exact step false (by unfold stB; simp [c1])
        · rw [if_neg c1]
          exact step true (by unfold stB; simp [(nlt_iff _ _).mp c1, c2])
def Sd (X M : SS) : Prop := ∀ e, e < sz X 4 → M.2 29 e = X.2 28 e
theorem know_both {X M : SS} (h : Rel X M) (kn : Int32) : ∃ X' M', fX2_know NN X kn = some X' ∧ fX8_findStanding NN M kn = some M' ∧ Rel X' M' ∧ Sd X' M' ∧ X'.1 = X.1 ∧ M'.1 = M.1 ∧ (∀ q, q ≠ 28 → q ≠ 29 → X'.2 q = X.2 q) ∧ ∀ q, q ≠ 29 → M'.2 q = M.2 q := by
  have hb4 := (r4 h).2.1
  obtain ⟨S, s1, s2, s3, s4⟩ := fl29 (N := NN) 60 0 X NN (by omega) (by unfold NN; omega)
  have hKI : KI X kn 0 S := ⟨s2, fun q h1 h2 => s3 q h2, fun i hi => absurd hi (Nat.not_lt_zero i), fun p u hp hu => by rw [s4, if_pos (by omega)]; rfl⟩
  obtain ⟨X', t1, t2, t3, t4, t5⟩ := kn7 h (sz X 4) 0 S NN (by omega) (by unfold NN; omega) hKI
  obtain ⟨M', u1, u2, u3, u4⟩ := kn8 (kn := kn) h (sz X 4) 0 M NN (by omega) (by unfold NN; omega) ⟨rfl, fun _ _ => rfl, fun i hi => absurd hi (Nat.not_lt_zero i)⟩
  refine ⟨X', M', ?_, u1, rel_kn h t2 t3 u2 u3, ?_, t2, u2, t3, u3⟩
  · unfold fX2_know fJ7_fill_29
    rw [show (0 : Int32) = nI 0 from rfl]
    rw [show (0 : Int32) = nI 0 from rfl] at s1
    rw [s1, bb_s]
    exact t1
  · intro e he
    have es : sz X' 4 = sz X 4 := by unfold sz; rw [t2]
    rw [es] at he
    rw [t4 e he, u4 e he]
