/-! PURE ROWS: what the functions of part 12 answer -/
def bI (p : Prop) [Decidable p] : Int32 := if p then 1 else 0
theorem bI_0 (p : Prop) [Decidable p] : (bI p = 0) ↔ ¬ p := by
  unfold bI
  by_cases h : p
  · simp [h]
  · simp [h]
theorem bI_t {p : Prop} [Decidable p] (h : p) : bI p = 1 := if_pos h
theorem bI_f {p : Prop} [Decidable p] (h : ¬ p) : bI p = 0 := if_neg h
theorem bI_01 (p : Prop) [Decidable p] : bI p = 0 ∨ bI p = 1 := by
  by_cases h : p
  · exact Or.inr (bI_t h)
  · exact Or.inl (bI_f h)
theorem bb_s {α β : Type} (x : β) (f : β → Option α) : bb (some x) f = f x := rfl
theorem b2_s {α : Type} (r : Int32) (S : SS) (f : Int32 → SS → Option α) : b2 (some (r, S)) f = f r S := rfl
theorem rZ_b (p : Prop) [Decidable p] (S : SS) : rZ (bI p) S = some (bI p, S) := if_pos (bI_01 p)
theorem rZ_0 (S : SS) : rZ 0 S = some (0, S) := rfl
theorem rZ_1 (S : SS) : rZ 1 S = some (1, S) := rfl
theorem i_lt (a b : Int32) : a < b ↔ a.toInt < b.toInt := Int32.lt_iff_toInt_lt
theorem i_le (a b : Int32) : a ≤ b ↔ a.toInt ≤ b.toInt := Int32.le_iff_toInt_le
theorem i_eq (a b : Int32) : a = b ↔ a.toInt = b.toInt := Int32.toInt_inj.symm
theorem i_rng (x : Int32) : -2147483648 ≤ x.toInt ∧ x.toInt < 2147483648 := ⟨by have := Int32.le_toInt x; omega, by have := Int32.toInt_lt x; omega⟩
theorem i_bmod {z : Int} (h1 : -2147483648 ≤ z) (h2 : z < 2147483648) : z.bmod (2 ^ 32) = z := by
  rw [Int.bmod_def]; omega
theorem i_add {x y : Int32} (h1 : -2147483648 ≤ x.toInt + y.toInt) (h2 : x.toInt + y.toInt < 2147483648) : (x + y).toInt = x.toInt + y.toInt := by
  rw [Int32.toInt_add]; exact i_bmod h1 h2
theorem i_sub {x y : Int32} (h1 : -2147483648 ≤ x.toInt - y.toInt) (h2 : x.toInt - y.toInt < 2147483648) : (x - y).toInt = x.toInt - y.toInt := by
  rw [Int32.toInt_sub]; exact i_bmod h1 h2
theorem i_mul {x y : Int32} (h1 : -2147483648 ≤ x.toInt * y.toInt) (h2 : x.toInt * y.toInt < 2147483648) : (x * y).toInt = x.toInt * y.toInt := by
  rw [Int32.toInt_mul]; exact i_bmod h1 h2
theorem n_lit (n : Nat) : (OfNat.ofNat n : Int32) = nI n := rfl
theorem gA_n {S : SS} {q n k : Nat} (h : k < n) (hn : n < 2 ^ 31) : gA S q n (nI k) = some (S.2 q k) := by
  unfold gA
  rw [if_neg, nI_clamp (by omega)]
  exact nI_in h hn
def setA (S : SS) (q k : Nat) (v : Int32) : SS := (S.1, fun j => if j = q then upd (S.2 q) k v else S.2 j)
theorem pA_n {S : SS} {q n k : Nat} {v : Int32} (h : k < n) (hn : n < 2 ^ 31) : pA S q n (nI k) v = some (setA S q k v) := by
  unfold pA setA
  rw [if_neg, nI_clamp (by omega)]
  exact nI_in h hn
theorem pO_s (S : SS) (k : Nat) (v : Int32) : pO S k v = some (pI S k v) := rfl
theorem ix_of {a : Int32} {n : Nat} (h1 : 0 ≤ a) (h2 : a < nI n) (hn : n < 2 ^ 31) : ∃ p, p < n ∧ a = nI p := by
  have h0 : ¬ a < 0 := by rw [i_le] at h1; rw [i_lt]; omega
  obtain ⟨j, hj, rfl⟩ := nI_of h0
  exact ⟨j, (nI_ltI hj hn).mp h2, rfl⟩
theorem ix_le {a M : Int32} {n : Nat} (hM : M.toInt = n) (h1 : 0 ≤ a) (h2 : a ≤ M) : ∃ p, p ≤ n ∧ a = nI p := by
  have h0 : ¬ a < 0 := by rw [i_le] at h1; rw [i_lt]; omega
  exact nI_of2 hM h0 h2
theorem le_pred {a : Int32} {n : Nat} (hn : n < 2 ^ 30) : (a ≤ nI n - 1) ↔ a < nI n := by
  have e1 : (1 : Int32) = nI 1 := rfl
  rw [i_le, i_lt, e1, pk_sub_toInt (by omega) (by omega), nI_toInt (by omega)]
  omega
theorem nI_lt20 {n m : Nat} (hn : n < 2 ^ 31) (hm : m < 2 ^ 31) : (nI n < nI m) ↔ n < m := nI_ltI hn hm
-- the tests that both sides make
theorem w7 (N : Nat) (S : SS) (a lo hi : Int32) : fX7_isWithin N S a lo hi = some (bI (lo ≤ a ∧ a ≤ hi), S) := by
  unfold fX7_isWithin
  by_cases c : a < lo
  · rw [if_pos c, bI_f]; · rfl
    rw [i_lt] at c; rw [i_le]; omega
  · rw [if_neg c]
    by_cases d : hi < a
    · rw [if_pos d, bI_f]; · rfl
      rw [i_lt] at d; rw [i_le, i_le]; omega
    · rw [if_neg d, bI_t]; · rfl
      rw [i_lt] at c d; rw [i_le, i_le]; omega
theorem w8 (N : Nat) (S : SS) (a lo hi : Int32) : fX8_within N S a lo hi = some (bI (lo ≤ a ∧ a ≤ hi), S) := w7 N S a lo hi
theorem kind7 (N : Nat) (S : SS) (a : Int32) : fX7_isKind N S a = some (bI (0 ≤ a ∧ a ≤ 2), S) := by unfold fX7_isKind; rw [w7, b2_s, rZ_b]
theorem day7 (N : Nat) (S : SS) (a : Int32) : fX7_isDay N S a = some (bI (0 ≤ a ∧ a ≤ 30000), S) := by unfold fX7_isDay; rw [w7, b2_s, rZ_b]
theorem uni7 (N : Nat) (S : SS) (a : Int32) : fX7_isUnion N S a = some (bI (0 ≤ a ∧ a ≤ 2), S) := by unfold fX7_isUnion; rw [w7, b2_s, rZ_b]
theorem gra7 (N : Nat) (S : SS) (a : Int32) : fX7_isGrade N S a = some (bI (1 ≤ a ∧ a ≤ 10), S) := by unfold fX7_isGrade; rw [w7, b2_s, rZ_b]
theorem day8 (N : Nat) (S : SS) (a : Int32) : fX8_isDay N S a = some (bI (0 ≤ a ∧ a ≤ 30000), S) := by unfold fX8_isDay; rw [w8, b2_s, rZ_b]
theorem uni8 (N : Nat) (S : SS) (a : Int32) : fX8_isUnion N S a = some (bI (0 ≤ a ∧ a ≤ 2), S) := by unfold fX8_isUnion; rw [w8, b2_s, rZ_b]
theorem gra8 (N : Nat) (S : SS) (a : Int32) : fX8_isGrade N S a = some (bI (1 ≤ a ∧ a ≤ 10), S) := by unfold fX8_isGrade; rw [w8, b2_s, rZ_b]
theorem hold_row {x b : Int32} {α : Type} (A B : α) : (if x < (0 : Int32) then A else if b ≤ x then A else B) = if (0 ≤ x ∧ x < b) then B else A := by
  by_cases c : x < 0
  · rw [if_pos c, if_neg]; rw [i_lt] at c; rw [i_le, i_lt]; simp only [Int32.toInt_zero] at *; omega
  · rw [if_neg c]
    by_cases d : b ≤ x
    · rw [if_pos d, if_neg]; rw [i_le] at d; rw [i_lt] at c; rw [i_le, i_lt]; omega
    · rw [if_neg d, if_pos]; rw [i_le] at d; rw [i_lt] at c; rw [i_le, i_lt]; simp only [Int32.toInt_zero] at *; omega
theorem if_bI {α : Type} (p : Prop) [Decidable p] : (if p then rZ 1 = rZ 1 else rZ 0 = rZ 0) := by split <;> rfl
theorem h4 (N : Nat) (S : SS) (x : Int32) : fX4_holds N S x = some (bI (0 ≤ x ∧ x < S.1 1), S) := by
  unfold fX4_holds; rw [hold_row]; unfold bI; split <;> rfl
theorem h2 (N : Nat) (S : SS) (x : Int32) : fX2_holds N S x = some (bI (0 ≤ x ∧ x < S.1 4), S) := by
  unfold fX2_holds; rw [hold_row]; unfold bI; split <;> rfl
theorem h3 (N : Nat) (S : SS) (x : Int32) : fX3_holds N S x = some (bI (0 ≤ x ∧ x < S.1 8), S) := by
  unfold fX3_holds; rw [hold_row]; unfold bI; split <;> rfl
theorem bI_c {p q : Prop} [Decidable p] [Decidable q] (h : p ↔ q) : bI p = bI q := by
  unfold bI
  by_cases c : p
  · rw [if_pos c, if_pos (h.mp c)]
  · rw [if_neg c, if_neg (fun z => c (h.mpr z))]
theorem per8 {N : Nat} {S : SS} {x : Int32} {n : Nat} (hn : n < 2 ^ 30) (h : S.1 0 = nI n) : fX8_isPerson N S x = some (bI (0 ≤ x ∧ x < nI n), S) := by
  unfold fX8_isPerson; rw [w8, b2_s, rZ_b, h, bI_c (and_congr Iff.rfl (le_pred hn))]
theorem exa8 {N : Nat} {S : SS} {x : Int32} {n : Nat} (hn : n < 2 ^ 30) (h : S.1 7 = nI n) : fX8_isExam N S x = some (bI (0 ≤ x ∧ x < nI n), S) := by
  unfold fX8_isExam; rw [w8, b2_s, rZ_b, h, bI_c (and_congr Iff.rfl (le_pred hn))]
theorem win8 {N : Nat} {S : SS} {x b : Int32} {n : Nat} (hn : n < 2 ^ 30) (h : b = nI n) : fX8_within N S x 0 (b - 1) = some (bI (0 ≤ x ∧ x < nI n), S) := by
  rw [w8, h, bI_c (and_congr Iff.rfl (le_pred hn))]
theorem win7 {N : Nat} {S : SS} {x b : Int32} {n : Nat} (hn : n < 2 ^ 30) (h : b = nI n) : fX7_isWithin N S x 0 (b - 1) = some (bI (0 ≤ x ∧ x < nI n), S) := by
  rw [w7, h, bI_c (and_congr Iff.rfl (le_pred hn))]
-- findings
def fnd (S : SS) (q k : Nat) : SS := setA S q k (S.2 q k + 1)
theorem fd7_1 (N : Nat) (S : SS) : fX7_finding N S (-1000001) = some (-1000001, fnd S 9 1) := by
  unfold fX7_finding
  rw [w7, b2_s, if_neg (by decide), show ((-1000000 : Int32) - (-1000001)) = nI 1 from by decide, gA_n (by decide) (by decide), bb_s, pA_n (by decide) (by decide), bb_s]
  rfl
theorem fd8_1 (N : Nat) (S : SS) : fX8_finding N S (-1000001) = some (-1000001, fnd S 28 1) := by
  unfold fX8_finding
  rw [show ((-1000000 : Int32) - (-1000001)) = nI 1 from by decide, gA_n (by decide) (by decide), bb_s, pA_n (by decide) (by decide), bb_s]
  rfl
theorem fd7_2 (N : Nat) (S : SS) : fX7_finding N S (-1000002) = some (-1000002, fnd S 9 2) := by
  unfold fX7_finding
  rw [w7, b2_s, if_neg (by decide), show ((-1000000 : Int32) - (-1000002)) = nI 2 from by decide, gA_n (by decide) (by decide), bb_s, pA_n (by decide) (by decide), bb_s]
  rfl
theorem fd8_2 (N : Nat) (S : SS) : fX8_finding N S (-1000002) = some (-1000002, fnd S 28 2) := by
  unfold fX8_finding
  rw [show ((-1000000 : Int32) - (-1000002)) = nI 2 from by decide, gA_n (by decide) (by decide), bb_s, pA_n (by decide) (by decide), bb_s]
  rfl
theorem fd7_3 (N : Nat) (S : SS) : fX7_finding N S (-1000003) = some (-1000003, fnd S 9 3) := by
  unfold fX7_finding
  rw [w7, b2_s, if_neg (by decide), show ((-1000000 : Int32) - (-1000003)) = nI 3 from by decide, gA_n (by decide) (by decide), bb_s, pA_n (by decide) (by decide), bb_s]
  rfl
theorem fd8_3 (N : Nat) (S : SS) : fX8_finding N S (-1000003) = some (-1000003, fnd S 28 3) := by
  unfold fX8_finding
  rw [show ((-1000000 : Int32) - (-1000003)) = nI 3 from by decide, gA_n (by decide) (by decide), bb_s, pA_n (by decide) (by decide), bb_s]
  rfl
theorem fd7_4 (N : Nat) (S : SS) : fX7_finding N S (-1000004) = some (-1000004, fnd S 9 4) := by
  unfold fX7_finding
  rw [w7, b2_s, if_neg (by decide), show ((-1000000 : Int32) - (-1000004)) = nI 4 from by decide, gA_n (by decide) (by decide), bb_s, pA_n (by decide) (by decide), bb_s]
  rfl
theorem fd8_4 (N : Nat) (S : SS) : fX8_finding N S (-1000004) = some (-1000004, fnd S 28 4) := by
  unfold fX8_finding
  rw [show ((-1000000 : Int32) - (-1000004)) = nI 4 from by decide, gA_n (by decide) (by decide), bb_s, pA_n (by decide) (by decide), bb_s]
  rfl
theorem fd7_5 (N : Nat) (S : SS) : fX7_finding N S (-1000005) = some (-1000005, fnd S 9 5) := by
  unfold fX7_finding
  rw [w7, b2_s, if_neg (by decide), show ((-1000000 : Int32) - (-1000005)) = nI 5 from by decide, gA_n (by decide) (by decide), bb_s, pA_n (by decide) (by decide), bb_s]
  rfl
theorem fd8_5 (N : Nat) (S : SS) : fX8_finding N S (-1000005) = some (-1000005, fnd S 28 5) := by
  unfold fX8_finding
  rw [show ((-1000000 : Int32) - (-1000005)) = nI 5 from by decide, gA_n (by decide) (by decide), bb_s, pA_n (by decide) (by decide), bb_s]
  rfl
