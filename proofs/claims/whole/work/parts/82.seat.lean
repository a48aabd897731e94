/-! BEST, 3: the class's seats -/
theorem fill_ok {N : Nat} : ∀ d i n S, i + d = 4 → d < n → ∃ T, fJ7_fill_36_b5 N n S 0 (nI i) 4 = some T ∧ sm36 S T ∧ (∀ j, j < i → T.2 36 j = S.2 36 j) ∧ ∀ j, i ≤ j → j < 4 → T.2 36 j = 0 := by
  intro d
  induction d with
  | zero =>
    intro i n S hi hn
    obtain ⟨n, rfl⟩ : ∃ m, n = m + 1 := ⟨n - 1, by omega⟩
    rw [fJ7_fill_36_b5, if_pos ((nle (n := i) (m := 4) (by omega) (by decide)).mpr (by omega))]
    exact ⟨S, rfl, sm36_r S, fun _ _ => rfl, fun j h1 h2 => by omega⟩
  | succ d ih =>
    intro i n S hi hn
    obtain ⟨n, rfl⟩ : ∃ m, n = m + 1 := ⟨n - 1, by omega⟩
    rw [fJ7_fill_36_b5, if_neg (fun z => by have := (nle (n := i) (m := 4) (by omega) (by decide)).mp z; omega), pA_n (by omega) (by decide), bb_s, n1]
    obtain ⟨T, t1, t2, t3, t4⟩ := ih (i + 1) n (setA S 36 i 0) (by omega) (by omega)
    refine ⟨T, t1, sm36_t (sm36_s S i 0) t2, fun j hj => ?_, fun j h1 h2 => ?_⟩
    · rw [t3 j (by omega), setA_s, pk_un (by omega)]
    · by_cases c : j = i
      · rw [t3 j (by omega), setA_s, c, pk_us]
      · exact t4 j (by omega) h2
theorem gl_rep (w j : Nat) : gl (List.replicate w 0) j = 0 := by
  unfold gl
  by_cases c : j < w
  · rw [List.getElem?_replicate, if_pos c]
    rfl
  · rw [List.getElem?_replicate, if_neg c]
    rfl
theorem seat_ok {w L : Nat} {O : Nat → List Nat} (hL : 1 ≤ L) (hL4 : L ≤ 4) : ∀ g n S, okO S w O → g ≤ w → g < n → (∀ e, e ∈ en O (feas L) w 0 [] 0 → e.2 ≤ g) → ∃ c l T, fX1_seat_b38 NN n S (nI L) (nI g) = some (nI c, T) ∧ sm36 S T ∧ (en O (feas L) w 0 [] 0).find? (fun e => decide (c ≤ e.2)) = some (l, c) ∧ (∀ e, e ∈ en O (feas L) w 0 [] 0 → e.2 ≤ c) ∧ c ≤ w ∧ ∀ j, j < w → T.2 36 j = nI (gl l j) := by
  intro g
  induction g with
  | zero =>
    intro n S hO hg hn hE
    obtain ⟨n, rfl⟩ : ∃ m, n = m + 1 := ⟨n - 1, by omega⟩
    rw [fX1_seat_b38, if_pos (by decide)]
    unfold fX1_seat_b61 fJ7_fill_36
    obtain ⟨T, t1, t2, t3, t4⟩ := fill_ok (N := NN) 4 0 NN S (by omega) (by unfold NN; omega)
    have t1' : fJ7_fill_36_b5 NN NN S 0 0 4 = some T := t1
    rw [if_pos (by rfl), t1', bb_s]
    obtain ⟨e, he⟩ := en_ne (O := O) (F := feas L) w 0 [] 0
    cases hf : (en O (feas L) w 0 [] 0).find? (fun e => decide (0 ≤ e.2)) with
    | none =>
      rw [List.find?_eq_none] at hf
      exact absurd (by simp) (hf e he)
    | some a =>
      obtain ⟨l, c⟩ := a
      have hm := List.mem_of_find?_eq_some hf
      have h0 := hE _ hm
      have h1 := (en_rng w 0 [] 0 _ hm).2.2.2.1
      have hc0 : c = 0 := by
        have : c ≤ 0 := h0
        omega
      subst hc0
      have hl : l = List.replicate w 0 := by
        have := h1 rfl
        rw [List.nil_append] at this
        exact this
      refine ⟨0, l, T, rfl, t2, hf, hE, by omega, fun j hj => ?_⟩
      rw [t4 j (by omega) (by have := hO.1.2; omega), hl, gl_rep]
      rfl
  | succ g ih =>
    intro n S hO hg hn hE
    obtain ⟨n, rfl⟩ : ∃ m, n = m + 1 := ⟨n - 1, by omega⟩
    have hw := hO.1.2
    have ht : (nI (g + 1)).toInt = ((g + 1 : Nat) : Int) := nI_toInt (by omega)
    rw [fX1_seat_b38, if_neg (nI_nle (by omega) (by omega))]
    have hz := place_ok (w := w) (O := O) hL hL4 w 0 [] 0 (nI (g + 1)) 6 S hO (by omega) (by omega) rfl (fun j hj => by omega) (by omega) (by omega)
    have he : fnd1 0 (nI (g + 1)) = fun e : List Nat × Nat => decide (g + 1 ≤ e.2) := by
      funext e
      unfold fnd1
      rw [ht]
      apply decide_eq_decide.mpr
      omega
    unfold plR at hz
    rw [he] at hz
    rcases hz with ⟨e, U, z1, z2, z3, z4⟩ | ⟨U, z1, z2, z3, z4⟩
    · have z2' : fX1_place NN 6 S 0 (nI (g + 1)) (nI L) = some (1, U) := z2
      rw [z2', b2_s, if_neg (by decide)]
      unfold fX1_seat_b61
      rw [if_neg (nI_ne0 (by omega) (by omega))]
      have hm := List.mem_of_find?_eq_some z1
      have h0 := hE _ hm
      have h1 := List.find?_some z1
      have hc : e.2 = g + 1 := by
        simp at h1
        omega
      refine ⟨g + 1, e.1, U, rfl, z3, ?_, hE, hg, z4⟩
      rw [z1, ← hc]
    · have z2' : fX1_place NN 6 S 0 (nI (g + 1)) (nI L) = some (0, U) := z2
      rw [z2', b2_s, if_pos (by rfl), pk_m1]
      rw [List.find?_eq_none] at z1
      obtain ⟨c, l, T, t1, t2, t3⟩ := ih n U (okO_s hO z3) (by omega) (by omega) (fun e he => by
        have := z1 e he
        simp at this
        omega)
      exact ⟨c, l, T, t1, sm36_t z3 t2, t3⟩
