/-! BEST, 6: lists of panels -/
def mk (a b c : Nat) : Nat := (2 ^ a ||| 2 ^ b) ||| 2 ^ c
theorem mk_bit (a b c x : Nat) : (mk a b c).testBit x = (decide (a = x) || decide (b = x) || decide (c = x)) := by
  unfold mk
  rw [Nat.testBit_or, Nat.testBit_or, Nat.testBit_two_pow, Nat.testBit_two_pow, Nat.testBit_two_pow]
theorem mk_lt {a b c n : Nat} (ha : a < n) (hb : b < n) (hc : c < n) : mk a b c < 2 ^ n := by
  unfold mk
  exact Nat.or_lt_two_pow (Nat.or_lt_two_pow (Nat.pow_lt_pow_right (by decide) ha) (Nat.pow_lt_pow_right (by decide) hb)) (Nat.pow_lt_pow_right (by decide) hc)
theorem mk_pb : ∀ c, c < 20 → ∀ b, b < c → ∀ a, a < b → pb (mk a b c) 20 = 3 := by decide +kernel
theorem sh1 {a : Nat} (h : a < 20) : (1 : Int32) <<< (nI a &&& 31) = nI (2 ^ a) := by
  have h2 : 2 ^ a ≤ 2 ^ 20 := Nat.pow_le_pow_right (by decide) (by omega)
  have := pk_shlN (n := 1) (nI a &&& 31) a (s_l a (by omega)) (by omega)
  rw [Nat.one_mul] at this
  exact this
theorem mk_I {a b c : Nat} (ha : a < 20) (hb : b < 20) (hc : c < 20) : ((1 <<< (nI a &&& 31)) ||| (1 <<< (nI b &&& 31))) ||| (1 <<< (nI c &&& 31)) = nI (mk a b c) := by
  rw [sh1 ha, sh1 hb, sh1 hc, fa_or, fa_or]
  rfl
def lq1 (e : Nat → Bool) (y x : Nat) : Nat → List Nat
  | 0 => []
  | a + 1 => lq1 e y x a ++ (if (e a && (e y && e x)) = true then [mk a y x] else [])
def lq2 (e : Nat → Bool) (x : Nat) : Nat → List Nat
  | 0 => []
  | b + 1 => lq2 e x b ++ lq1 e b x b
def lq3 (e : Nat → Bool) : Nat → List Nat
  | 0 => []
  | c + 1 => lq3 e c ++ lq2 e c c
def lt1 (g : Nat → Nat) (y x : Nat) : Nat → List Nat
  | 0 => []
  | a + 1 => lt1 g y x a ++ [mk (g a) y x]
def lt2 (g : Nat → Nat) (x : Nat) : Nat → List Nat
  | 0 => []
  | b + 1 => lt2 g x b ++ lt1 g (g b) x b
def lt3 (g : Nat → Nat) : Nat → List Nat
  | 0 => []
  | c + 1 => lt3 g c ++ lt2 g (g c) c
def cn (e : Nat → Bool) : Nat → Nat
  | 0 => 0
  | n + 1 => cn e n + (if e n = true then 1 else 0)
theorem cn_le {e : Nat → Bool} : ∀ d n, cn e n ≤ cn e (n + d)
  | 0, n => Nat.le_refl _
  | d + 1, n => by
    have := cn_le (e := e) d n
    rw [← Nat.add_assoc, cn]
    omega
theorem cn_sub {e f : Nat → Bool} : ∀ n, (∀ x, x < n → e x = true → f x = true) → cn e n ≤ cn f n
  | 0, _ => Nat.le_refl _
  | n + 1, h => by
    have := cn_sub (e := e) (f := f) n (fun x hx => h x (by omega))
    rw [cn, cn]
    by_cases c : e n = true
    · rw [if_pos c, if_pos (h n (by omega) c)]
      omega
    · rw [if_neg c]
      omega
theorem cn_at {e : Nat → Bool} : ∀ n j, j < cn e n → ∃ y, y < n ∧ e y = true ∧ cn e y = j
  | 0, j, h => absurd h (Nat.not_lt_zero j)
  | n + 1, j, h => by
    rw [cn] at h
    by_cases c : j < cn e n
    · obtain ⟨y, h1, h2⟩ := cn_at n j c
      exact ⟨y, by omega, h2⟩
    · by_cases c2 : e n = true
      · rw [if_pos c2] at h
        exact ⟨n, by omega, c2, by omega⟩
      · rw [if_neg c2] at h
        omega
theorem cn_ex {X : SS} {e : Nat → Bool} : ∀ n, (∀ x, x < n → (e x = true ↔ X.2 10 x = 1)) → cn e n = exC X n
  | 0, _ => rfl
  | n + 1, h => by
    rw [cn, exC, cn_ex n (fun x hx => h x (by omega))]
    by_cases c : X.2 10 n = 1
    · rw [if_pos c, if_pos ((h n (by omega)).mpr c)]
    · rw [if_neg c, if_neg (fun z => c ((h n (by omega)).mp z))]
theorem lq1_no {e : Nat → Bool} {y x : Nat} (h : (e y && e x) = false) : ∀ n, lq1 e y x n = []
  | 0 => rfl
  | n + 1 => by
    rw [lq1, lq1_no h n, h, Bool.and_false]
    rfl
theorem lq2_no {e : Nat → Bool} {x : Nat} (h : e x = false) : ∀ n, lq2 e x n = []
  | 0 => rfl
  | n + 1 => by
    rw [lq2, lq2_no h n, lq1_no (by rw [h, Bool.and_false])]
    rfl
theorem lt1_q {e : Nat → Bool} {g : Nat → Nat} {N y x : Nat} (hg : ∀ z, z < N → e z = true → g (cn e z) = z) (h : (e y && e x) = true) : ∀ n, n ≤ N → lt1 g y x (cn e n) = lq1 e y x n
  | 0, _ => rfl
  | n + 1, hn => by
    rw [cn, lq1, h, Bool.and_true]
    by_cases c : e n = true
    · rw [if_pos c, if_pos c, lt1, lt1_q hg h n (by omega), hg n (by omega) c]
    · rw [if_neg c, if_neg c, Nat.add_zero, List.append_nil, lt1_q hg h n (by omega)]
theorem lt2_q {e : Nat → Bool} {g : Nat → Nat} {N x : Nat} (hg : ∀ z, z < N → e z = true → g (cn e z) = z) (h : e x = true) : ∀ n, n ≤ N → lt2 g x (cn e n) = lq2 e x n
  | 0, _ => rfl
  | n + 1, hn => by
    rw [cn, lq2]
    by_cases c : e n = true
    · rw [if_pos c, lt2, lt2_q hg h n (by omega), hg n (by omega) c, lt1_q hg (by rw [c, h]; rfl) n (by omega)]
    · rw [Bool.not_eq_true] at c
      rw [if_neg (by rw [c]; decide), Nat.add_zero, lq1_no (by rw [c, Bool.false_and]), List.append_nil, lt2_q hg h n (by omega)]
theorem lt3_q {e : Nat → Bool} {g : Nat → Nat} {N : Nat} (hg : ∀ z, z < N → e z = true → g (cn e z) = z) : ∀ n, n ≤ N → lt3 g (cn e n) = lq3 e n
  | 0, _ => rfl
  | n + 1, hn => by
    rw [cn, lq3]
    by_cases c : e n = true
    · rw [if_pos c, lt3, lt3_q hg n (by omega), hg n (by omega) c, lt2_q hg c n (by omega)]
    · rw [Bool.not_eq_true] at c
      rw [if_neg (by rw [c]; decide), Nat.add_zero, lq2_no c, List.append_nil, lt3_q hg n (by omega)]
theorem fl1 {e f : Nat → Bool} {F : Nat → Bool} {y x : Nat} (h : ∀ a, a < y → ((e a && (e y && e x)) && F (mk a y x)) = (f a && (f y && f x))) : ∀ n, n ≤ y → (lq1 e y x n).filter F = lq1 f y x n
  | 0, _ => rfl
  | n + 1, hn => by
    rw [lq1, lq1, List.filter_append, fl1 h n (by omega), ← h n (by omega)]
    congr 1
    by_cases c : (e n && (e y && e x)) = true
    · rw [if_pos c, c, Bool.true_and, List.filter_cons]
      rfl
    · rw [if_neg c]
      rw [Bool.not_eq_true] at c
      rw [c, Bool.false_and]
      rfl
theorem fl2 {e f : Nat → Bool} {F : Nat → Bool} {x : Nat} (h : ∀ a b, a < b → b < x → ((e a && (e b && e x)) && F (mk a b x)) = (f a && (f b && f x))) : ∀ n, n ≤ x → (lq2 e x n).filter F = lq2 f x n
  | 0, _ => rfl
  | n + 1, hn => by
    rw [lq2, lq2, List.filter_append, fl2 h n (by omega), fl1 (fun a ha => h a n ha (by omega)) n (Nat.le_refl _)]
theorem fl3 {e f : Nat → Bool} {F : Nat → Bool} {N : Nat} (h : ∀ a b c, a < b → b < c → c < N → ((e a && (e b && e c)) && F (mk a b c)) = (f a && (f b && f c))) : ∀ n, n ≤ N → (lq3 e n).filter F = lq3 f n
  | 0, _ => rfl
  | n + 1, hn => by
    rw [lq3, lq3, List.filter_append, fl3 h n (by omega), fl2 (fun a b ha hb => h a b n ha hb (by omega)) n (Nat.le_refl _)]
/-- how long they are -/
def zz2 : Nat → Nat
  | 0 => 0
  | n + 1 => zz2 n + n
def zz3 : Nat → Nat
  | 0 => 0
  | n + 1 => zz3 n + zz2 n
theorem lq1_len {e : Nat → Bool} {y x : Nat} (h : (e y && e x) = true) : ∀ n, (lq1 e y x n).length = cn e n
  | 0 => rfl
  | n + 1 => by
    rw [lq1, cn, List.length_append, lq1_len h n, h, Bool.and_true]
    split <;> rfl
theorem lq2_len {e : Nat → Bool} {x : Nat} (h : e x = true) : ∀ n, (lq2 e x n).length = zz2 (cn e n)
  | 0 => rfl
  | n + 1 => by
    rw [lq2, cn, List.length_append, lq2_len h n]
    by_cases c : e n = true
    · rw [if_pos c, zz2, lq1_len (by rw [c, h]; rfl)]
    · rw [Bool.not_eq_true] at c
      rw [if_neg (by rw [c]; decide), lq1_no (by rw [c, Bool.false_and])]
      rfl
theorem lq3_len {e : Nat → Bool} : ∀ n, (lq3 e n).length = zz3 (cn e n)
  | 0 => rfl
  | n + 1 => by
    rw [lq3, cn, List.length_append, lq3_len n]
    by_cases c : e n = true
    · rw [if_pos c, zz3, lq2_len c]
    · rw [Bool.not_eq_true] at c
      rw [if_neg (by rw [c]; decide), lq2_no c]
      rfl
theorem zz3_le {n : Nat} (h : n ≤ 6) : zz3 n ≤ 20 := by
  have hc : n = 0 ∨ n = 1 ∨ n = 2 ∨ n = 3 ∨ n = 4 ∨ n = 5 ∨ n = 6 := by omega
  rcases hc with rfl | rfl | rfl | rfl | rfl | rfl | rfl <;> decide
theorem lq1_mono {e : Nat → Bool} {y x : Nat} : ∀ d n, (lq1 e y x n).length ≤ (lq1 e y x (n + d)).length
  | 0, n => Nat.le_refl _
  | d + 1, n => by
    have := lq1_mono (e := e) (y := y) (x := x) d n
    rw [← Nat.add_assoc, lq1, List.length_append]
    omega
theorem lq2_mono {e : Nat → Bool} {x : Nat} : ∀ d n, (lq2 e x n).length ≤ (lq2 e x (n + d)).length
  | 0, n => Nat.le_refl _
  | d + 1, n => by
    have := lq2_mono (e := e) (x := x) d n
    rw [← Nat.add_assoc, lq2, List.length_append]
    omega
theorem lq3_mono {e : Nat → Bool} : ∀ d n, (lq3 e n).length ≤ (lq3 e (n + d)).length
  | 0, n => Nat.le_refl _
  | d + 1, n => by
    have := lq3_mono (e := e) d n
    rw [← Nat.add_assoc, lq3, List.length_append]
    omega
theorem lt1_mono {g : Nat → Nat} {y x : Nat} : ∀ d n, (lt1 g y x n).length ≤ (lt1 g y x (n + d)).length
  | 0, n => Nat.le_refl _
  | d + 1, n => by
    have := lt1_mono (g := g) (y := y) (x := x) d n
    rw [← Nat.add_assoc, lt1, List.length_append]
    omega
theorem lt2_mono {g : Nat → Nat} {x : Nat} : ∀ d n, (lt2 g x n).length ≤ (lt2 g x (n + d)).length
  | 0, n => Nat.le_refl _
  | d + 1, n => by
    have := lt2_mono (g := g) (x := x) d n
    rw [← Nat.add_assoc, lt2, List.length_append]
    omega
theorem lt3_mono {g : Nat → Nat} : ∀ d n, (lt3 g n).length ≤ (lt3 g (n + d)).length
  | 0, n => Nat.le_refl _
  | d + 1, n => by
    have := lt3_mono (g := g) d n
    rw [← Nat.add_assoc, lt3, List.length_append]
    omega
/-- each is a panel of three that e holds for -/
theorem lq1_mem {e : Nat → Bool} {y x q : Nat} : ∀ n, q ∈ lq1 e y x n → ∃ a, a < n ∧ e a = true ∧ e y = true ∧ e x = true ∧ q = mk a y x
  | 0, h => absurd h List.not_mem_nil
  | n + 1, h => by
    rw [lq1, List.mem_append] at h
    rcases h with h | h
    · obtain ⟨a, h1, h2⟩ := lq1_mem n h
      exact ⟨a, by omega, h2⟩
    · by_cases c : (e n && (e y && e x)) = true
      · rw [if_pos c, List.mem_singleton] at h
        simp at c
        exact ⟨n, by omega, c.1, c.2.1, c.2.2, h⟩
      · rw [if_neg c] at h
        exact absurd h List.not_mem_nil
theorem lq2_mem {e : Nat → Bool} {x q : Nat} : ∀ n, q ∈ lq2 e x n → ∃ a b, a < b ∧ b < n ∧ e a = true ∧ e b = true ∧ e x = true ∧ q = mk a b x
  | 0, h => absurd h List.not_mem_nil
  | n + 1, h => by
    rw [lq2, List.mem_append] at h
    rcases h with h | h
    · obtain ⟨a, b, h1, h2, h3⟩ := lq2_mem n h
      exact ⟨a, b, h1, by omega, h3⟩
    · obtain ⟨a, h1, h2⟩ := lq1_mem n h
      exact ⟨a, n, h1, by omega, h2⟩
theorem lq3_mem {e : Nat → Bool} {q : Nat} : ∀ n, q ∈ lq3 e n → ∃ a b c, a < b ∧ b < c ∧ c < n ∧ e a = true ∧ e b = true ∧ e c = true ∧ q = mk a b c
  | 0, h => absurd h List.not_mem_nil
  | n + 1, h => by
    rw [lq3, List.mem_append] at h
    rcases h with h | h
    · obtain ⟨a, b, c, h1, h2, h3, h4⟩ := lq3_mem n h
      exact ⟨a, b, c, h1, h2, by omega, h4⟩
    · obtain ⟨a, b, h1, h2, h3⟩ := lq2_mem n h
      exact ⟨a, b, n, h1, h2, by omega, h3⟩
