/-! THE RELATION between the class's state X and the reference's state M -/
def am (q : Nat) : Nat := match q with
  | 8 => 27
  | 9 => 28
  | 10 => 1
  | 11 => 2
  | 12 => 3
  | 13 => 4
  | 14 => 5
  | 15 => 8
  | 16 => 9
  | 17 => 10
  | 18 => 11
  | 19 => 12
  | 20 => 13
  | 21 => 7
  | 23 => 14
  | 24 => 15
  | 25 => 16
  | 26 => 17
  | 27 => 18
  | 30 => 19
  | 31 => 20
  | 32 => 21
  | 33 => 22
  | 38 => 24
  | 39 => 25
  | 40 => 26
  | _ => 0
def arrs : List Nat := [8, 9, 10, 11, 12, 13, 14, 15, 16, 17, 18, 19, 20, 21, 23, 24, 25, 26, 27, 30, 31, 32, 33, 38, 39, 40]
def sm (k : Nat) : Nat := match k with
  | 0 => 8
  | n + 1 => n
def RS (X M : SS) : Prop := ∀ k, k < 9 → X.1 k = M.1 (sm k)
def RA (X M : SS) : Prop := ∀ q, q ∈ arrs → X.2 q = M.2 (am q)
theorem am_inj : ∀ j ∈ arrs, ∀ q ∈ arrs, am j = am q → j = q := by decide
theorem sm_inj : ∀ j, j < 9 → ∀ k, k < 9 → sm j = sm k → j = k := by decide
theorem setA_s (S : SS) (q k : Nat) (v : Int32) : (setA S q k v).2 q = upd (S.2 q) k v := if_pos rfl
theorem setA_o {S : SS} {q j k : Nat} {v : Int32} (h : j ≠ q) : (setA S q k v).2 j = S.2 j := if_neg h
theorem setA_1 (S : SS) (q k : Nat) (v : Int32) : (setA S q k v).1 = S.1 := rfl
theorem pI_s (S : SS) (k : Nat) (v : Int32) : (pI S k v).1 k = v := if_pos rfl
theorem pI_o {S : SS} {k j : Nat} {v : Int32} (h : j ≠ k) : (pI S k v).1 j = S.1 j := if_neg h
theorem pI_2 (S : SS) (k : Nat) (v : Int32) : (pI S k v).2 = S.2 := rfl
theorem RA_set {X M : SS} {q i : Nat} {v : Int32} (h : RA X M) (hq : q ∈ arrs) : RA (setA X q i v) (setA M (am q) i v) := by
  intro j hj
  by_cases c : j = q
  · subst c
    rw [setA_s, setA_s, h j hj]
  · rw [setA_o c, setA_o (fun e => c (am_inj j hj q hq e)), h j hj]
theorem RA_setX {X M : SS} {q i : Nat} {v : Int32} (h : RA X M) (hq : q ∉ arrs) : RA (setA X q i v) M := by
  intro j hj
  have c : j ≠ q := fun e => hq (e ▸ hj)
  rw [setA_o c, h j hj]
theorem RA_pI {X M : SS} {k j : Nat} {v w : Int32} (h : RA X M) : RA (pI X k v) (pI M j w) := h
theorem RS_set {X M : SS} {q i p j : Nat} {v w : Int32} (h : RS X M) : RS (setA X q i v) (setA M p j w) := h
theorem RS_pI {X M : SS} {k : Nat} {v : Int32} (h : RS X M) (hk : k < 9) : RS (pI X k v) (pI M (sm k) v) := by
  intro j hj
  by_cases c : j = k
  · subst c
    rw [pI_s, pI_s]
  · rw [pI_o c, pI_o (fun e => c (sm_inj j hj k hk e)), h j hj]
def sz (X : SS) (k : Nat) : Nat := (X.1 k).toNatClampNeg
def InvS (X : SS) : Prop := (X.1 0 = nI (sz X 0) ∧ sz X 0 ≤ 20) ∧ (X.1 1 = nI (sz X 1) ∧ sz X 1 ≤ 20) ∧ (X.1 2 = nI (sz X 2) ∧ sz X 2 ≤ 6) ∧ (X.1 3 = nI (sz X 3) ∧ sz X 3 ≤ 40) ∧ (X.1 4 = nI (sz X 4) ∧ sz X 4 ≤ 60) ∧ (X.1 5 = nI (sz X 5) ∧ sz X 5 ≤ 20) ∧ (X.1 6 = nI (sz X 6) ∧ sz X 6 ≤ 4) ∧ (X.1 8 = nI (sz X 8) ∧ sz X 8 ≤ 20) ∧ (X.1 7 = 0 ∨ X.1 7 = 1)
def exC (X : SS) : Nat → Nat
  | 0 => 0
  | n + 1 => exC X n + (if X.2 10 n = 1 then 1 else 0)
def InvP (X : SS) : Prop := ∀ p, p < sz X 1 → 0 ≤ (X.2 11 p).toInt ∧ (X.2 11 p).toInt ≤ 30000
def InvC (X : SS) : Prop := sz X 2 = exC X (sz X 1)
def InvR (X : SS) : Prop := ∀ r, r < sz X 3 → (0 ≤ (X.2 18 r).toInt ∧ (X.2 18 r).toInt ≤ 20000) ∧ ∃ u g, u < 3 ∧ 1 ≤ g ∧ g ≤ 10 ∧ X.2 15 r = nI (100 * u + g)
def InvE (X : SS) : Prop := ∀ e, e < sz X 4 → ∃ o u g, X.2 23 e = nI o ∧ o < sz X 1 ∧ X.2 24 e = nI u ∧ u < 3 ∧ X.2 25 e = nI g ∧ 1 ≤ g ∧ g ≤ 10
def InvK (X : SS) : Prop := ∀ s, s < sz X 5 → ∃ p, p < sz X 1 ∧ X.2 30 s = nI p
def InvW (X : SS) : Prop := ∀ i, i < sz X 6 → ∃ p, p < sz X 1 ∧ X.2 33 i = nI p
def InvM (X : SS) : Prop := ∀ x, x < 20 → ∃ c, c ≤ 5 ∧ X.2 38 x = nI c ∧ (sz X 8 ≤ x → c = 0) ∧ (∀ i, i < c → 0 ≤ (X.2 40 (5 * x + i)).toInt ∧ (X.2 40 (5 * x + i)).toInt ≤ 100) ∧ ∀ i j, i < c → j < c → X.2 39 (5 * x + i) = X.2 39 (5 * x + j) → i = j
def RV (X M : SS) : Prop := ∀ u v g, u < 3 → v < 3 → 1 ≤ g → g ≤ 10 → X.2 22 ((u * 3 + v) * 11 + g) = (if u = v then nI g else M.2 6 ((u * 3 + v) * 11 + g)) ∧ ∃ w, w ≤ 10 ∧ X.2 22 ((u * 3 + v) * 11 + g) = nI w
def RG (X M : SS) : Prop := X.1 7 = 1 → ∀ i, i < sz X 6 → X.2 36 i = M.2 23 i
def Rel (X M : SS) : Prop := RS X M ∧ RA X M ∧ RV X M ∧ RG X M ∧ InvS X ∧ InvP X ∧ InvC X ∧ InvR X ∧ InvE X ∧ InvK X ∧ InvW X ∧ InvM X
theorem exC_cong {X Y : SS} (h : Y.2 10 = X.2 10) : ∀ n, exC Y n = exC X n
  | 0 => rfl
  | n + 1 => by rw [exC, exC, exC_cong h n, h]
/-- arrays that no other part of the relation speaks of -/
def frees : List Nat := [8, 9, 12, 13, 14, 16, 17, 19, 20, 21, 26, 27, 31, 32]
theorem frees_ok : ∀ q ∈ frees, q ∈ arrs ∧ am q ≠ 6 ∧ am q ≠ 23 ∧ q ≠ 10 ∧ q ≠ 11 ∧ q ≠ 15 ∧ q ≠ 18 ∧ q ≠ 22 ∧ q ≠ 23 ∧ q ≠ 24 ∧ q ≠ 25 ∧ q ≠ 30 ∧ q ≠ 33 ∧ q ≠ 36 ∧ q ≠ 38 ∧ q ≠ 39 ∧ q ≠ 40 := by decide
theorem rel_set {X M : SS} {q i : Nat} {v : Int32} (h : Rel X M) (hq : q ∈ frees) : Rel (setA X q i v) (setA M (am q) i v) := by
  obtain ⟨a1, a2, a3, a4, a5, a6, a7, a8, a9, a10, a11, a12⟩ := h
  obtain ⟨f0, f1, f2, f3, f4, f5, f6, f7, f8, f9, f10, f11, f12, f13, f14, f15, f16⟩ := frees_ok q hq
  refine ⟨a1, RA_set a2 f0, ?_, ?_, a5, ?_, ?_, ?_, ?_, ?_, ?_, ?_⟩
  · unfold RV; rw [setA_o f7.symm, setA_o f1.symm]; exact a3
  · unfold RG; rw [setA_o f13.symm, setA_o f2.symm]; exact a4
  · unfold InvP; rw [setA_o f4.symm]; exact a6
  · unfold InvC; rw [exC_cong (setA_o f3.symm)]; exact a7
  · unfold InvR; rw [setA_o f6.symm, setA_o f5.symm]; exact a8
  · unfold InvE; rw [setA_o f8.symm, setA_o f9.symm, setA_o f10.symm]; exact a9
  · unfold InvK; rw [setA_o f11.symm]; exact a10
  · unfold InvW; rw [setA_o f12.symm]; exact a11
  · unfold InvM; rw [setA_o f14.symm, setA_o f15.symm, setA_o f16.symm]; exact a12
theorem rel_fnd {X M : SS} (k : Nat) (h : Rel X M) : Rel (fnd X 9 k) (fnd M 28 k) := by
  have e : X.2 9 = M.2 28 := h.2.1 9 (by decide)
  unfold fnd
  rw [← e]
  exact rel_set h (by decide)
theorem e_sub {a b c : Int32} {P : Prop} (h : a = b) (k : b = c → P) (z : a = c) : P := k (h ▸ z)
-- sizes
theorem sz_set (S : SS) (q i : Nat) (v : Int32) (k : Nat) : sz (setA S q i v) k = sz S k := rfl
theorem sz_pIs {S : SS} {k n : Nat} (hn : n < 2 ^ 31) : sz (pI S k (nI n)) k = n := by unfold sz; rw [pI_s, nI_clamp hn]
theorem sz_pIo {S : SS} {k j : Nat} {v : Int32} (h : j ≠ k) : sz (pI S k v) j = sz S j := by unfold sz; rw [pI_o h]
set_option maxHeartbeats 4000000 in
theorem st_licence : St2 Rel fX7_licence fX8_licence := by
  intro X M h a b
  have hs : X.1 1 = nI (sz X 1) ∧ sz X 1 ≤ 20 := h.2.2.2.2.1.2.1
  have hm : M.1 0 = nI (sz X 1) := (h.1 1 (by decide)).symm.trans hs.1
  have e13 : M.2 4 = X.2 13 := (h.2.1 13 (by decide)).symm
  unfold fX7_licence fX8_licence fX7_licence_b21 fX8_licence_b15
  simp only [h4, per8 (by omega) hm, day7, day8, b2_s, bI_0, fd7_1, fd8_1, hs.1]
  by_cases c1 : 0 ≤ a ∧ a < nI (sz X 1)
  · by_cases c2 : 0 ≤ b ∧ b ≤ 30000
    · obtain ⟨p, hp, rfl⟩ := ix_of c1.1 c1.2 (by omega)
      simp only [c1, c2, not_true_eq_false, if_false]
      rw [gA_n (by omega) (by decide), gA_n (by omega) (by decide), bb_s, bb_s, pA_n (by omega) (by decide), pA_n (by omega) (by decide), bb_s, bb_s, e13]
      exact ⟨_, _, _, rfl, rfl, rel_set h (by decide)⟩
    · simp only [c1, c2, not_true_eq_false, not_false_eq_true, if_false, if_true]
      exact ⟨_, _, _, rfl, rfl, rel_fnd 1 h⟩
  · simp only [c1, not_false_eq_true, if_true]
    exact ⟨_, _, _, rfl, rfl, rel_fnd 1 h⟩
