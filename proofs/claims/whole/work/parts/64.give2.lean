theorem panel_both {X M : SS} {p u r m : Nat} {day : Int32} (h : Rel X M) (hs : Sd X M) (hp : p < sz X 1) (hu : u < 3) (hr : r < 40) (hm : m < 2 ^ sz X 1) : ∃ q, fX0_whyNoPanel NN X (nI p) (nI u) day (nI m) (X.2 20 r) = some (q, X) ∧ fX8_panelOf NN M (nI p) (nI u) (nI r) day (nI m) = some (q, M) := by
  obtain ⟨h1, h1b, h1m⟩ := r1 h
  have hm20 : m < 1048576 := Nat.lt_of_lt_of_le hm (Nat.pow_le_pow_right (by decide) h1b : 2 ^ sz X 1 ≤ 2 ^ 20)
  unfold fX0_whyNoPanel fX8_panelOf
  obtain ⟨A', al', l', g1, g2, g3⟩ := pan_both (day := day) (r := r) h hs hp hu hr hm20 (sz X 1) 0 0 1 9 0 NN (by omega) (by unfold NN; omega) (Or.inr (Or.inl ⟨rfl, rfl, rfl⟩))
  rw [Nat.pow_zero, Nat.div_one, Nat.zero_add] at g3
  rw [pop_ok hm20, b2_s, show (0 : Int32) = nI 0 from rfl, show (1 : Int32) = nI 1 from rfl, show (9 : Int32) = nI 9 from rfl, g2, g3, pb_np hm h1b]
  have hb := pb_le (sz X 1) m
  unfold fX8_panelOf_b99
  have hA : A' ≤ 6 ∧ al' ≤ 1 ∧ l' ≤ 9 := by unfold RlN at g1; omega
  simp only [neq (n := pb m (sz X 1)) (m := 3) (by omega) (by decide), neq (n := al') (m := 0) (by omega) (by decide), nle (n := l') (m := 9) (by omega) (by decide)]
  by_cases c : pb m (sz X 1) = 3
  · simp only [c, if_true]
    unfold RlN at g1
    rcases g1 with ⟨q1, q2, q3, q4⟩ | ⟨q1, q2, q3⟩ | ⟨q1, q2, q3, q4⟩
    · refine ⟨2, ?_, ?_⟩
      · rw [q2]; rfl
      · rw [if_pos q1]
    · refine ⟨0, ?_, ?_⟩
      · rw [q3]; rfl
      · rw [if_neg (by omega), if_pos (by omega)]
    · refine ⟨nI l', ?_, ?_⟩
      · rw [q4]
      · rw [if_neg (by omega), if_neg (by omega)]
  · simp only [c, if_false]
    exact ⟨_, rfl, rfl⟩
/-- the bits are those of persons: in the class's words and in the reference's -/
theorem bits_iff {x : Int32} {n : Nat} (hn : n ≤ 20) : (((x.toUInt32 >>> ((nI n).toUInt32 &&& Int32.toUInt32 31)).toInt32 = 0) ↔ ∃ m, m < 2 ^ n ∧ x = nI m) ∧ ((0 ≤ x ∧ ¬ (1 <<< (nI n &&& 31)) ≤ x) ↔ ∃ m, m < 2 ^ n ∧ x = nI m) := by
  have hp : (2 : Nat) ^ n ≤ 2 ^ 20 := Nat.pow_le_pow_right (by decide) hn
  have e1 : (1 : Int32) <<< (nI n &&& 31) = nI (2 ^ n) := by
    have := pk_shlN (n := 1) (nI n &&& 31) n (s_l n (by omega)) (by rw [Nat.one_mul]; omega)
    rw [Nat.one_mul] at this
    exact this
  have t := pk_ushr x (nI n) n (s_u n (by omega))
  constructor
  · constructor
    · intro z
      rw [z] at t
      have t0 : x.toBitVec.toNat / 2 ^ n = 0 := t.symm
      have hlt : x.toBitVec.toNat < 2 ^ n := by
        rcases Nat.lt_or_ge x.toBitVec.toNat (2 ^ n) with q | q
        · exact q
        · have := Nat.div_pos q (Nat.pos_of_ne_zero (by intro w; have := Nat.two_pow_pos n; omega))
          omega
      refine ⟨x.toBitVec.toNat, hlt, ?_⟩
      apply Int32.toBitVec_inj.1
      show x.toBitVec = BitVec.ofNat 32 x.toBitVec.toNat
      rw [BitVec.ofNat_toNat, BitVec.setWidth_eq]
    · rintro ⟨m, hm, rfl⟩
      rw [us (k := n) (s := nI n) (by omega) (by omega) rfl, Nat.div_eq_of_lt hm]
      rfl
  · rw [e1]
    constructor
    · rintro ⟨z1, z2⟩
      obtain ⟨m, hm, rfl⟩ := ix_of z1 ((nle_iff _ _).mp z2) (by omega)
      exact ⟨m, hm, rfl⟩
    · rintro ⟨m, hm, rfl⟩
      exact ⟨nI_pos' (by omega), n_nle hm (by omega)⟩
theorem all7 {N : Nat} {X : SS} {x : Int32} (h1 : X.1 1 = nI (sz X 1)) (h1b : sz X 1 ≤ 20) : (fX4_areAll N X x = some (1, X) ∧ ∃ m, m < 2 ^ sz X 1 ∧ x = nI m) ∨ (fX4_areAll N X x = some (0, X) ∧ ¬ ∃ m, m < 2 ^ sz X 1 ∧ x = nI m) := by
  unfold fX4_areAll
  rw [h1]
  by_cases c : (x.toUInt32 >>> ((nI (sz X 1)).toUInt32 &&& Int32.toUInt32 31)).toInt32 = 0
  · rw [if_pos c]
    exact Or.inl ⟨rfl, (bits_iff h1b).1.mp c⟩
  · rw [if_neg c]
    exact Or.inr ⟨rfl, fun z => c ((bits_iff h1b).1.mpr z)⟩
theorem isp8 {N : Nat} {M : SS} {w : Nat} {x : Int32} (h1 : M.1 0 = nI w) (hw : w ≤ 20) : ((∃ m, m < 2 ^ w ∧ x = nI m) → fX8_isPanel N M x = some (1, M)) ∧ ((¬ ∃ m, m < 2 ^ w ∧ x = nI m) → fX8_isPanel N M x = some (0, M)) := by
  unfold fX8_isPanel
  rw [h1]
  constructor
  · intro z
    have q := (bits_iff hw).2.mpr z
    rw [if_neg ((nlt_iff _ _).mpr q.1), if_neg q.2]
    rfl
  · intro z
    by_cases c : x < 0
    · rw [if_pos c]; rfl
    · rw [if_neg c]
      by_cases d : (1 <<< (nI w &&& 31)) ≤ x
      · rw [if_pos d]; rfl
      · exact absurd ((bits_iff hw).2.mp ⟨(nlt_iff _ _).mp c, d⟩) z
set_option maxHeartbeats 4000000 in
theorem st_panel : St5 Rel fX7_panel fX8_panel := by
  intro X M h a b c d e
  obtain ⟨h1, h1b, h1m⟩ := r1 h
  unfold fX7_panel fX8_panel fX7_panel_b27 fX8_panel_b21
  rw [ask7 h1, ask8 h1m h1b, b2_s, b2_s]
  simp only [bI_0, fd7_1, fd8_1, fd7_2, fd8_2, b2_s, inF7 h, inF8 h]
  by_cases c1 : (0 ≤ a ∧ a < nI (sz X 1)) ∧ (0 ≤ b ∧ b ≤ 2) ∧ (1 ≤ c ∧ c ≤ 10) ∧ (0 ≤ d ∧ d ≤ 30000)
  rotate_left
  · rw [if_pos c1, if_pos c1]
    exact ⟨_, _, _, rfl, rfl, rel_fnd 1 h⟩
  rw [if_neg (not_not_intro c1), if_neg (not_not_intro c1)]
  rcases all7 (N := NN) (x := e) h1 h1b with ⟨q1, hq⟩ | ⟨q1, hq⟩
  rotate_left
  · rw [q1, (isp8 h1m h1b).2 hq, b2_s, b2_s, if_pos rfl, if_pos rfl]
    exact ⟨_, _, _, rfl, rfl, rel_fnd 1 h⟩
  rw [q1, (isp8 h1m h1b).1 hq, b2_s, b2_s, if_neg (by decide), if_neg (by decide)]
  obtain ⟨m, hm, rfl⟩ := hq
  obtain ⟨p, hp, rfl⟩ := ix_of c1.1.1 c1.1.2 (by omega)
  obtain ⟨u, hu, rfl⟩ := ix_le (n := 2) rfl c1.2.1.1 c1.2.1.2
  obtain ⟨X', M', k1, k2, k3, k4, k5, k6, k7, _⟩ := know_both h d
  have es : sz X' 1 = sz X 1 := by unfold sz; rw [k5]
  rw [inF7 h, inF8 h, b2_s, b2_s]
  rcases rI_P X (nI u) c d with hr | ⟨r, hr, er, _⟩
  · rw [hr, if_neg (by decide), if_neg (by decide)]
    exact ⟨_, _, _, rfl, rfl, rel_fnd 2 h⟩
  · have h3b := (r3 h).2.1
    have hnn : ¬ nI r < 0 := nI_pos (by omega)
    have hn0 := (nlt_iff _ _).mp hnn
    rw [er, if_pos hn0, if_pos hn0, k1, k2, bb_s, bb_s, gA_n (by omega) (by decide), bb_s]
    obtain ⟨q, w1, w2⟩ := panel_both (p := p) (u := u) (r := r) (m := m) (day := d) k3 k4 (by omega) (by omega) (by omega) (by rw [es]; exact hm)
    rw [w1, w2, b2_s, b2_s]
    exact ⟨_, _, _, rfl, rfl, k3⟩
theorem rel_give {X M : SS} {p u g : Nat} {x4 x5 : Int32} (h : Rel X M) (hn : sz X 4 < 60) (hp : p < sz X 1) (hu : u < 3) (hg : 1 ≤ g) (hg2 : g ≤ 10) : Rel (pI (setA (setA (setA (setA (setA X 23 (sz X 4) (nI p)) 24 (sz X 4) (nI u)) 25 (sz X 4) (nI g)) 26 (sz X 4) x4) 27 (sz X 4) x5) 4 (nI (sz X 4 + 1))) (pI (setA (setA (setA (setA (setA M 14 (sz X 4) (nI p)) 15 (sz X 4) (nI u)) 16 (sz X 4) (nI g)) 17 (sz X 4) x4) 18 (sz X 4) x5) 3 (nI (sz X 4 + 1))) := by
  obtain ⟨a1, a2, a3, a4, a5, a6, a7, a8, a9, a10, a11, a12⟩ := h
  have s4 : sz (pI (setA (setA (setA (setA (setA X 23 (sz X 4) (nI p)) 24 (sz X 4) (nI u)) 25 (sz X 4) (nI g)) 26 (sz X 4) x4) 27 (sz X 4) x5) 4 (nI (sz X 4 + 1))) 4 = sz X 4 + 1 := sz_pIs (by omega)
  refine ⟨RS_pI (k := 4) a1 (by decide), ?_, a3, a4, ⟨a5.1, a5.2.1, a5.2.2.1, a5.2.2.2.1, ⟨?_, ?_⟩, a5.2.2.2.2.2⟩, a6, ?_, a8, ?_, a10, a11, a12⟩
  · exact RA_set (q := 27) (RA_set (q := 26) (RA_set (q := 25) (RA_set (q := 24) (RA_set (q := 23) a2 (by decide)) (by decide)) (by decide)) (by decide)) (by decide)
  · rw [s4]; rfl
  · rw [s4]; omega
  · refine InvC_p ?_ (by decide) (by decide)
    unfold InvC
    rw [exC_cong (Y := setA (setA (setA (setA (setA X 23 (sz X 4) (nI p)) 24 (sz X 4) (nI u)) 25 (sz X 4) (nI g)) 26 (sz X 4) x4) 27 (sz X 4) x5) (X := X) (by rw [setA_o (by decide), setA_o (by decide), setA_o (by decide), setA_o (by decide), setA_o (by decide)])]
    exact a7
  · intro e he
    rw [s4] at he
    show ∃ o v w, (setA (setA (setA (setA (setA X 23 (sz X 4) (nI p)) 24 (sz X 4) (nI u)) 25 (sz X 4) (nI g)) 26 (sz X 4) x4) 27 (sz X 4) x5).2 23 e = nI o ∧ o < sz X 1 ∧ (setA (setA (setA (setA (setA X 23 (sz X 4) (nI p)) 24 (sz X 4) (nI u)) 25 (sz X 4) (nI g)) 26 (sz X 4) x4) 27 (sz X 4) x5).2 24 e = nI v ∧ v < 3 ∧ (setA (setA (setA (setA (setA X 23 (sz X 4) (nI p)) 24 (sz X 4) (nI u)) 25 (sz X 4) (nI g)) 26 (sz X 4) x4) 27 (sz X 4) x5).2 25 e = nI w ∧ 1 ≤ w ∧ w ≤ 10
    have q23 : (setA (setA (setA (setA (setA X 23 (sz X 4) (nI p)) 24 (sz X 4) (nI u)) 25 (sz X 4) (nI g)) 26 (sz X 4) x4) 27 (sz X 4) x5).2 23 = upd (X.2 23) (sz X 4) (nI p) := by
      rw [setA_o (by decide), setA_o (by decide), setA_o (by decide), setA_o (by decide), setA_s]
    have q24 : (setA (setA (setA (setA (setA X 23 (sz X 4) (nI p)) 24 (sz X 4) (nI u)) 25 (sz X 4) (nI g)) 26 (sz X 4) x4) 27 (sz X 4) x5).2 24 = upd (X.2 24) (sz X 4) (nI u) := by
      rw [setA_o (by decide), setA_o (by decide), setA_o (by decide), setA_s, setA_o (by decide)]
    have q25 : (setA (setA (setA (setA (setA X 23 (sz X 4) (nI p)) 24 (sz X 4) (nI u)) 25 (sz X 4) (nI g)) 26 (sz X 4) x4) 27 (sz X 4) x5).2 25 = upd (X.2 25) (sz X 4) (nI g) := by
      rw [setA_o (by decide), setA_o (by decide), setA_s, setA_o (by decide), setA_o (by decide)]
    rw [q23, q24, q25]
    by_cases c : e = sz X 4
    · exact ⟨p, u, g, if_pos c, hp, if_pos c, hu, if_pos c, hg, hg2⟩
    · obtain ⟨o, v, w, b1, b2, b3, b4, b5, b6, b7⟩ := a9 e (by omega)
      exact ⟨o, v, w, (if_neg c).trans b1, b2, (if_neg c).trans b3, b4, (if_neg c).trans b5, b6, b7⟩
set_option maxHeartbeats 4000000 in
theorem give_core {X M : SS} {p u g m : Nat} {d : Int32} (h : Rel X M) (hp : p < sz X 1) (hu : u < 3) (hg : 1 ≤ g) (hg2 : g ≤ 10) (hd : 0 ≤ d ∧ d ≤ 30000) (hm : m < 2 ^ sz X 1) : ∃ r X1 M1, (bb (fX2_know NN X d) fun S4 => b2 (fX5_inForce NN S4 (nI u) (nI g) d) fun r4 S5 => if r4 < (0 : Int32) then (fX7_give_b126 NN S5) else (b2 (fX0_whyNot NN S5 (nI p) (nI u) (nI g) d) fun r5 S6 => if r5 = (0 : Int32) then (bb (gA S6 20 40 r4) fun v1 => b2 (fX0_whyNoPanel NN S6 (nI p) (nI u) d (nI m) v1) fun r6 S7 => if r6 = (0 : Int32) then (if (S7.1 4) < (60 : Int32) then (b2 (fX2_add NN S7 (nI p) (nI u) (nI g) d (nI m)) fun r7 S8 => some (r7, S8)) else (b2 (fX7_finding NN S7 (-1000004)) fun r8 S9 => some (r8, S9))) else (fX7_give_b126 NN S7)) else (fX7_give_b126 NN S6))) = some (r, X1) ∧ fX8_give_b51 NN M (nI p) (nI u) (nI g) d (nI m) = some (r, M1) ∧ Rel X1 M1 := by
  obtain ⟨X', M', k1, k2, k3, k4, k5, k6, k7, _⟩ := know_both h d
  have es1 : sz X' 1 = sz X 1 := by unfold sz; rw [k5]
  obtain ⟨h4, h4b, h4m⟩ := r4 k3
  unfold fX8_give_b51 fX7_give_b126 fX8_give_b90
  rw [k1, k2, bb_s, bb_s, inF7 k3, b2_s]
  obtain ⟨r, w1, w2, w3⟩ := why_both (g := nI g) (day := d) k3 k4 (p := p) (u := u) (by omega) hu hd
  rw [w1, w2, b2_s, b2_s, fd7_3, fd8_3, b2_s, b2_s]
  by_cases c1 : r = 0
  rotate_left
  · rw [if_neg c1, if_neg c1]
    refine ⟨_, _, _, ?_, rfl, rel_fnd 3 k3⟩
    split <;> rfl
  have c2 := w3 c1
  rcases rI_P X' (nI u) (nI g) d with hr | ⟨j, hj, ej, _⟩
  · rw [hr] at c2; exact absurd c2 (by decide)
  have h3b := (r3 k3).2.1
  have hnn : ¬ nI j < 0 := nI_pos (by omega)
  rw [if_pos c1, if_pos c1, inF8 k3, b2_s, ej, if_neg hnn, gA_n (by omega) (by decide), bb_s]
  obtain ⟨q, p1, p2⟩ := panel_both (p := p) (u := u) (r := j) (m := m) (day := d) k3 k4 (by omega) hu (by omega) (by rw [es1]; exact hm)
  rw [p1, p2, b2_s, b2_s, fd7_3, fd8_3, b2_s, b2_s, fd7_4, fd8_4, b2_s, b2_s]
  by_cases c3 : q = 0
  rotate_left
  · rw [if_neg c3, if_neg c3]
    exact ⟨_, _, _, rfl, rfl, rel_fnd 3 k3⟩
  rw [if_pos c3, if_pos c3, h4, h4m]
  simp only [nlt (n := sz X' 4) (m := 60) (by omega) (by decide), neq (n := sz X' 4) (m := 60) (by omega) (by decide)]
  by_cases c4 : sz X' 4 = 60
  · simp only [c4, Nat.lt_irrefl, if_true, if_false]
    exact ⟨_, _, _, rfl, rfl, rel_fnd 4 k3⟩
  have c5 : sz X' 4 < 60 := by omega
  unfold fX2_add
  simp only [c4, c5, if_true, if_false, h4, h4m, setA_1, pA_n (n := 60) (k := sz X' 4) c5 (by decide), bb_s, n1, pO_s, pI_s, b2_s, nI_pred]
  exact ⟨_, _, _, rfl, rfl, rel_give k3 c5 (by omega) hu hg hg2⟩
set_option maxHeartbeats 4000000 in
theorem st_give : St5 Rel fX7_give fX8_give := by
  intro X M h a b c d e
  obtain ⟨h1, h1b, h1m⟩ := r1 h
  obtain ⟨h4, h4b, h4m⟩ := r4 h
  unfold fX7_give fX8_give fX7_give_b42 fX8_give_b44
  rw [ask7 h1, ask8 h1m h1b, b2_s, b2_s]
  simp only [bI_0, fd7_1, fd8_1, b2_s]
  by_cases c1 : (0 ≤ a ∧ a < nI (sz X 1)) ∧ (0 ≤ b ∧ b ≤ 2) ∧ (1 ≤ c ∧ c ≤ 10) ∧ (0 ≤ d ∧ d ≤ 30000)
  rotate_left
  · rw [if_pos c1, if_pos c1]
    exact ⟨_, _, _, rfl, rfl, rel_fnd 1 h⟩
  rw [if_neg (not_not_intro c1), if_neg (not_not_intro c1)]
  rcases all7 (N := NN) (x := e) h1 h1b with ⟨q1, hq⟩ | ⟨q1, hq⟩
  rotate_left
  · rw [q1, (isp8 h1m h1b).2 hq, b2_s, b2_s, if_pos rfl, if_pos rfl]
    exact ⟨_, _, _, rfl, rfl, rel_fnd 1 h⟩
  rw [q1, (isp8 h1m h1b).1 hq, b2_s, b2_s, if_neg (by decide), if_neg (by decide)]
  obtain ⟨m, hm, rfl⟩ := hq
  obtain ⟨p, hp, rfl⟩ := ix_of c1.1.1 c1.1.2 (by omega)
  obtain ⟨u, hu, rfl⟩ := ix_le (n := 2) rfl c1.2.1.1 c1.2.1.2
  obtain ⟨g, hg1, hg2, rfl⟩ := ix_1 (n := 10) (by decide) rfl c1.2.2.1.1 c1.2.2.1.2
  obtain ⟨r, X1, M1, t1, t2, t3⟩ := give_core (d := d) (p := p) (u := u) (g := g) (m := m) h hp (by omega) hg1 hg2 c1.2.2.2 hm
  unfold fX2_latestDay
  rw [h4, h4m]
  have z0 : (nI (sz X 4) ≤ (0 : Int32)) ↔ sz X 4 = 0 := by
    rw [show (0 : Int32) = nI 0 from rfl, nI_leI (by omega) (by omega)]
    omega
  by_cases c2 : sz X 4 = 0
  · rw [if_pos (z0.mpr c2), if_pos (z0.mpr c2), b2_s, if_pos c1.2.2.2.1, t1, t2]
    exact ⟨r, X1, M1, rfl, rfl, t3⟩
  · obtain ⟨n, hn⟩ : ∃ n, sz X 4 = n + 1 := ⟨sz X 4 - 1, by omega⟩
    rw [if_neg (fun z => c2 (z0.mp z)), if_neg (fun z => c2 (z0.mp z)), hn, nI_pred, gA_n (by omega) (by decide), gA_n (by omega) (by decide), bb_s, bb_s, b2_s, show M.2 17 = X.2 26 from ra h 26 (by decide)]
    by_cases c3 : X.2 26 n ≤ d
    · rw [if_pos c3, if_pos c3, t1, t2]
      exact ⟨r, X1, M1, rfl, rfl, t3⟩
    · rw [if_neg c3, if_neg c3]
      exact ⟨_, _, _, rfl, rfl, rel_fnd 1 h⟩
