/-! BEST, 1: all ways in their order; the first of the greatest count -/
def en (O : Nat → List Nat) (F : List Nat → Nat → Bool) : Nat → Nat → List Nat → Nat → List (List Nat × Nat)
  | 0, _, pre, now => [(pre, now)]
  | d + 1, i, pre, now => ((O i).filter (F pre)).flatMap (fun p => en O F d (i + 1) (pre ++ [p]) (now + 1)) ++ en O F d (i + 1) (pre ++ [0]) now
def upE (acc : Int × List Nat) (e : List Nat × Nat) : Int × List Nat := if acc.1 < (e.2 : Int) then ((e.2 : Int), e.1) else acc
theorem en_rng {O : Nat → List Nat} {F : List Nat → Nat → Bool} : ∀ d i pre now e, e ∈ en O F d i pre now → now ≤ e.2 ∧ e.2 ≤ now + d ∧ e.1.length = pre.length + d ∧ (e.2 = now → e.1 = pre ++ List.replicate d 0) ∧ ∃ l, e.1 = pre ++ l := by
  intro d
  induction d with
  | zero =>
    intro i pre now e h
    rw [en, List.mem_singleton] at h
    subst h
    exact ⟨Nat.le_refl _, Nat.le_refl _, rfl, fun _ => by simp, [], by simp⟩
  | succ d ih =>
    intro i pre now e h
    rw [en, List.mem_append] at h
    rcases h with h | h
    · obtain ⟨p, hp, he⟩ := List.mem_flatMap.mp h
      obtain ⟨h1, h2, h3, h4, l, h5⟩ := ih (i + 1) (pre ++ [p]) (now + 1) e he
      refine ⟨by omega, by omega, by rw [h3, List.length_append]; simp; omega, fun z => by omega, p :: l, by rw [h5, List.append_assoc]; rfl⟩
    · obtain ⟨h1, h2, h3, h4, l, h5⟩ := ih (i + 1) (pre ++ [0]) now e h
      refine ⟨by omega, by omega, by rw [h3, List.length_append]; simp; omega, fun z => ?_, 0 :: l, by rw [h5, List.append_assoc]; rfl⟩
      rw [h4 z, List.append_assoc]
      rfl
theorem en_ne {O : Nat → List Nat} {F : List Nat → Nat → Bool} : ∀ d i pre now, ∃ e, e ∈ en O F d i pre now := by
  intro d
  induction d with
  | zero =>
    intro i pre now
    exact ⟨(pre, now), by rw [en]; exact List.mem_singleton.mpr rfl⟩
  | succ d ih =>
    intro i pre now
    obtain ⟨e, he⟩ := ih (i + 1) (pre ++ [0]) now
    exact ⟨e, by rw [en]; exact List.mem_append_right _ he⟩
theorem upE_ok : ∀ (E : List (List Nat × Nat)) (acc : Int × List Nat), acc.1 ≤ (E.foldl upE acc).1 ∧ (∀ e, e ∈ E → (e.2 : Int) ≤ (E.foldl upE acc).1) ∧ (E.foldl upE acc = acc ∨ (acc.1 < (E.foldl upE acc).1 ∧ ∃ c : Nat, (E.foldl upE acc).1 = (c : Int) ∧ E.find? (fun e => decide (c ≤ e.2)) = some ((E.foldl upE acc).2, c))) := by
  intro E
  induction E with
  | nil =>
    intro acc
    exact ⟨Int.le_refl _, fun e h => absurd h List.not_mem_nil, Or.inl rfl⟩
  | cons e E ih =>
    intro acc
    rw [List.foldl_cons]
    obtain ⟨h1, h2, h3⟩ := ih (upE acc e)
    by_cases c : acc.1 < (e.2 : Int)
    · have hu : upE acc e = ((e.2 : Int), e.1) := if_pos c
      rw [hu] at h1 h2 h3 ⊢
      refine ⟨by omega, ?_, ?_⟩
      · intro x hx
        rcases List.mem_cons.mp hx with rfl | hx
        · exact h1
        · exact h2 x hx
      · rcases h3 with h3 | ⟨h3, k, h4, h5⟩
        · refine Or.inr ⟨by rw [h3]; exact c, e.2, by rw [h3], ?_⟩
          rw [List.find?_cons_of_pos (by simp), h3]
        · refine Or.inr ⟨by omega, k, h4, ?_⟩
          rw [List.find?_cons_of_neg, h5]
          have : (e.2 : Int) < (k : Int) := by rw [← h4]; exact h3
          simp
          omega
    · have hu : upE acc e = acc := if_neg c
      rw [hu] at h1 h2 h3 ⊢
      refine ⟨h1, ?_, ?_⟩
      · intro x hx
        rcases List.mem_cons.mp hx with rfl | hx
        · omega
        · exact h2 x hx
      · rcases h3 with h3 | ⟨h3, k, h4, h5⟩
        · exact Or.inl h3
        · refine Or.inr ⟨h3, k, h4, ?_⟩
          rw [List.find?_cons_of_neg, h5]
          have : (e.2 : Int) < (k : Int) := by rw [← h4]; omega
          simp
          omega
/-- bits -/
def ldc : List Nat → Nat → Nat
  | [], _ => 0
  | p :: r, x => (if p.testBit x then 1 else 0) + ldc r x
theorem ldc_app : ∀ (a b : List Nat) (x : Nat), ldc (a ++ b) x = ldc a x + ldc b x
  | [], b, x => by rw [List.nil_append, ldc, Nat.zero_add]
  | p :: r, b, x => by
    rw [List.cons_append, ldc, ldc, ldc_app r b x]
    omega
def feas (L : Nat) (pre : List Nat) (p : Nat) : Bool := (List.range 20).all fun x => !p.testBit x || decide (ldc pre x < L)
theorem feas_iff {L : Nat} {pre : List Nat} {p : Nat} : feas L pre p = true ↔ ∀ x, x < 20 → p.testBit x = true → ldc pre x < L := by
  unfold feas
  rw [List.all_eq_true]
  constructor
  · intro h x hx hp
    have := h x (List.mem_range.mpr hx)
    simp [hp] at this
    exact this
  · intro h x hx
    by_cases c : p.testBit x = true
    · simp [c, h x (List.mem_range.mp hx) c]
    · simp [c]
/-- how many from i on, d of them, have an option -/
def able (O : Nat → List Nat) : Nat → Nat → Nat
  | 0, _ => 0
  | d + 1, i => (if O i = [] then 0 else 1) + able O d (i + 1)
theorem en_able {O : Nat → List Nat} {F : List Nat → Nat → Bool} : ∀ d i pre now e, e ∈ en O F d i pre now → e.2 ≤ now + able O d i := by
  intro d
  induction d with
  | zero =>
    intro i pre now e h
    rw [en, List.mem_singleton] at h
    subst h
    exact Nat.le_refl _
  | succ d ih =>
    intro i pre now e h
    rw [en, List.mem_append] at h
    rw [able]
    rcases h with h | h
    · obtain ⟨p, hp, he⟩ := List.mem_flatMap.mp h
      have h1 := ih (i + 1) (pre ++ [p]) (now + 1) e he
      have h2 : O i ≠ [] := fun z => by
        rw [z] at hp
        simp at hp
      rw [if_neg h2]
      omega
    · have h1 := ih (i + 1) (pre ++ [0]) now e h
      omega
theorem able_le (O : Nat → List Nat) : ∀ d i, able O d i ≤ d
  | 0, _ => Nat.le_refl _
  | d + 1, i => by
    have := able_le O d (i + 1)
    rw [able]
    split <;> omega
