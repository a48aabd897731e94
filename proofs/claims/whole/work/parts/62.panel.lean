/-! BITS OF A PANEL -/
theorem fa_and (a b : Nat) : nI a &&& nI b = nI (a &&& b) := by
  apply Int32.toBitVec_inj.1
  show BitVec.ofNat 32 a &&& BitVec.ofNat 32 b = BitVec.ofNat 32 (a &&& b)
  apply BitVec.eq_of_getLsbD_eq
  intro i hi
  simp [hi]
theorem s_l : ∀ n, n < 32 → ((nI n &&& 31).toBitVec.smod 32).toNat = n := by decide +kernel
theorem s_u : ∀ n, n < 32 → (((nI n).toUInt32 &&& Int32.toUInt32 31).toBitVec % 32).toNat = n := by decide +kernel
theorem and16 {x y p q : Nat} (hx : x < 16) (hp : p < 16) : (x + 16 * y) &&& (p + 16 * q) = (x &&& p) + 16 * (y &&& q) := by
  have h1 : ((x + 16 * y) &&& (p + 16 * q)) % 2 ^ 4 = x &&& p := by
    rw [Nat.and_mod_two_pow, show (x + 16 * y) % 2 ^ 4 = x by omega, show (p + 16 * q) % 2 ^ 4 = p by omega]
  have h2 : ((x + 16 * y) &&& (p + 16 * q)) / 2 ^ 4 = y &&& q := by
    rw [Nat.and_div_two_pow, show (x + 16 * y) / 2 ^ 4 = y by omega, show (p + 16 * q) / 2 ^ 4 = q by omega]
  omega
def M5 : Nat → Nat
  | 0 => 0
  | k + 1 => 5 + 16 * M5 k
def M3 : Nat → Nat
  | 0 => 0
  | k + 1 => 3 + 16 * M3 k
def tA (k m : Nat) : Nat := m - ((m / 2) &&& M5 k)
def tB (k w : Nat) : Nat := (w &&& M3 k) + ((w / 4) &&& M3 k)
theorem nib5 : ∀ n, n < 16 → ∀ c, c < 2 → (n / 2 + 8 * c) &&& 5 = (n / 2) &&& 5 := by decide +kernel
theorem nib3 : ∀ n, n < 16 → ∀ c, c < 4 → (n / 4 + 4 * c) &&& 3 = (n / 4) &&& 3 := by decide +kernel
theorem tA_s {k n y : Nat} (hn : n < 16) : tA (k + 1) (n + 16 * y) = (n - ((n / 2) &&& 5)) + 16 * tA k y := by
  unfold tA
  rw [M5, show (n + 16 * y) / 2 = (n / 2 + 8 * (y % 2)) + 16 * (y / 2) by omega, and16 (by omega) (by decide), nib5 n hn (y % 2) (by omega)]
  have h1 : (n / 2) &&& 5 ≤ n / 2 := Nat.and_le_left
  have h2 : (y / 2) &&& M5 k ≤ y / 2 := Nat.and_le_left
  omega
theorem tB_s {k n y : Nat} (hn : n < 16) : tB (k + 1) (n + 16 * y) = ((n &&& 3) + ((n / 4) &&& 3)) + 16 * tB k y := by
  unfold tB
  rw [M3, and16 hn (by decide), show (n + 16 * y) / 4 = (n / 4 + 4 * (y % 4)) + 16 * (y / 4) by omega, and16 (by omega) (by decide), nib3 n hn (y % 4) (by omega)]
  omega
def pn (n : Nat) : Nat := n % 2 + n / 2 % 2 + n / 4 % 2 + n / 8 % 2
theorem nib_ok : ∀ n, n < 16 → (n - ((n / 2) &&& 5)) < 16 ∧ ((n - ((n / 2) &&& 5)) &&& 3) + (((n - ((n / 2) &&& 5)) / 4) &&& 3) = pn n ∧ pn n ≤ 4 := by decide +kernel
theorem tA_0 (k : Nat) : tA k 0 = 0 := by unfold tA; simp
theorem tB_0 (k : Nat) : tB k 0 = 0 := by unfold tB; simp
theorem pop1 {a b c d e : Nat} (ha : a < 16) (hb : b < 16) (hc : c < 16) (hd : d < 16) (he : e < 16) : tB 8 (tA 8 (a + 16 * (b + 16 * (c + 16 * (d + 16 * e))))) = pn a + 16 * (pn b + 16 * (pn c + 16 * (pn d + 16 * pn e))) := by
  obtain ⟨a1, a2, _⟩ := nib_ok a ha
  obtain ⟨b1, b2, _⟩ := nib_ok b hb
  obtain ⟨c1, c2, _⟩ := nib_ok c hc
  obtain ⟨d1, d2, _⟩ := nib_ok d hd
  obtain ⟨e1, e2, _⟩ := nib_ok e he
  have ee : tA 4 e = (e - ((e / 2) &&& 5)) + 16 * 0 := by
    have := tA_s (k := 3) (n := e) (y := 0) he
    rw [tA_0] at this
    exact this
  rw [tA_s ha, tA_s hb, tA_s hc, tA_s hd, ee, tB_s a1, tB_s b1, tB_s c1, tB_s d1, tB_s e1, tB_0, a2, b2, c2, d2, e2, Nat.mul_zero, Nat.add_zero]
theorem and15 {x : Nat} (h : x < 16) : x &&& 15 = x := Nat.and_two_pow_sub_one_of_lt_two_pow (n := 4) h
theorem pop2 {a b c d e : Nat} (ha : a ≤ 4) (hb : b ≤ 4) (hc : c ≤ 4) (hd : d ≤ 4) (he : e ≤ 4) : (((a + 16 * (b + 16 * (c + 16 * (d + 16 * e)))) + (a + 16 * (b + 16 * (c + 16 * (d + 16 * e)))) / 16) &&& 252645135) = (a + b) + 256 * (c + d) + 65536 * e := by
  rw [show (a + 16 * (b + 16 * (c + 16 * (d + 16 * e)))) + (a + 16 * (b + 16 * (c + 16 * (d + 16 * e)))) / 16 = (a + b) + 16 * ((b + c) + 16 * ((c + d) + 16 * ((d + e) + 16 * (e + 16 * 0)))) by omega, show (252645135 : Nat) = 15 + 16 * (0 + 16 * (15 + 16 * (0 + 16 * (15 + 16 * (240))))) from rfl]
  rw [and16 (by omega) (by decide), and16 (by omega) (by decide), and16 (by omega) (by decide), and16 (by omega) (by decide), and16 (by omega) (by decide), and15 (by omega), and15 (by omega), and15 (by omega), Nat.and_zero, Nat.and_zero, Nat.zero_and]
  omega
def pb : Nat → Nat → Nat
  | _, 0 => 0
  | m, d + 1 => m % 2 + pb (m / 2) d
theorem pb_4 {n y d : Nat} (hn : n < 16) : pb (n + 16 * y) (d + 4) = pn n + pb y d := by
  rw [pb, pb, pb, pb, show (n + 16 * y) / 2 / 2 / 2 / 2 = y by omega]
  unfold pn
  omega
theorem pb_0 : ∀ d, pb 0 d = 0
  | 0 => rfl
  | d + 1 => by rw [pb, pb_0 d]
theorem pb_add : ∀ a m b, pb m (a + b) = pb m a + pb (m / 2 ^ a) b
  | 0, m, b => by rw [Nat.zero_add, Nat.pow_zero, Nat.div_one, pb, Nat.zero_add]
  | a + 1, m, b => by
    rw [show a + 1 + b = (a + b) + 1 by omega, pb, pb, pb_add a (m / 2) b, Nat.div_div_eq_div_mul, show 2 * 2 ^ a = 2 ^ (a + 1) by rw [Nat.pow_succ, Nat.mul_comm]]
    omega
theorem pb_le : ∀ d m, pb m d ≤ d
  | 0, _ => Nat.le_refl _
  | d + 1, m => by
    have := pb_le d (m / 2)
    rw [pb]
    omega
theorem pb_np {m np : Nat} (hm : m < 2 ^ np) (hn : np ≤ 20) : pb m 20 = pb m np := by
  rw [show 20 = np + (20 - np) by omega, pb_add, Nat.div_eq_of_lt hm, pb_0]
  rfl
theorem us {n k : Nat} (hn : n < 2 ^ 32) (hk : k < 32) {s : Int32} (hs : s = nI k) : ((nI n).toUInt32 >>> (s.toUInt32 &&& Int32.toUInt32 31)).toInt32 = nI (n / 2 ^ k) := by
  subst hs
  exact pk_ushrN hn (nI k) k (s_u k hk)
set_option maxHeartbeats 4000000 in
theorem pop_ok {N : Nat} {S : SS} {m : Nat} (hm : m < 1048576) : fJ6_bitCount N S (nI m) = some (nI (pb m 20), S) := by
  obtain ⟨a, b, c, d, e, ha, hb, hc, hd, he, rfl⟩ : ∃ a b c d e, a < 16 ∧ b < 16 ∧ c < 16 ∧ d < 16 ∧ e < 16 ∧ m = a + 16 * (b + 16 * (c + 16 * (d + 16 * e))) := ⟨m % 16, m / 16 % 16, m / 256 % 16, m / 4096 % 16, m / 65536, by omega, by omega, by omega, by omega, by omega, by omega⟩
  have hp : pb (a + 16 * (b + 16 * (c + 16 * (d + 16 * e)))) 20 = pn a + pn b + pn c + pn d + pn e := by
    rw [pb_4 (d := 16) ha, pb_4 (d := 12) hb, pb_4 (d := 8) hc, pb_4 (d := 4) hd, show pb e 4 = pn e from pb_4 (n := e) (y := 0) (d := 0) he]
    omega
  have h1 := pop1 ha hb hc hd he
  have h2 := pop2 (nib_ok a ha).2.2 (nib_ok b hb).2.2 (nib_ok c hc).2.2 (nib_ok d hd).2.2 (nib_ok e he).2.2
  have la := (nib_ok a ha).2.2
  have lb := (nib_ok b hb).2.2
  have lc := (nib_ok c hc).2.2
  have ld := (nib_ok d hd).2.2
  have le := (nib_ok e he).2.2
  rw [hp]
  generalize hM : a + 16 * (b + 16 * (c + 16 * (d + 16 * e))) = m at *
  have hA : nI m - (((nI m).toUInt32 >>> ((1 : Int32).toUInt32 &&& Int32.toUInt32 31)).toInt32 &&& 1431655765) = nI (tA 8 m) := by
    rw [us (s := 1) (k := 1) (by omega) (by decide) rfl, show (1431655765 : Int32) = nI (M5 8) from rfl, fa_and, pk_sub (Nat.le_trans Nat.and_le_left (by omega))]
    rfl
  have hAl : tA 8 m ≤ m := Nat.sub_le _ _
  have hB : (nI (tA 8 m) &&& 858993459) + (((nI (tA 8 m)).toUInt32 >>> ((2 : Int32).toUInt32 &&& Int32.toUInt32 31)).toInt32 &&& 858993459) = nI (tB 8 (tA 8 m)) := by
    rw [us (s := 2) (k := 2) (by omega) (by decide) rfl, show (858993459 : Int32) = nI (M3 8) from rfl, fa_and, fa_and, nI_add]
    rfl
  unfold fJ6_bitCount
  rw [bb_s, hA, bb_s, hB, h1, bb_s]
  generalize pn a = a' at *
  generalize pn b = b' at *
  generalize pn c = c' at *
  generalize pn d = d' at *
  generalize pn e = e' at *
  rw [us (s := 4) (k := 4) (by omega) (by decide) rfl, nI_add, show (252645135 : Int32) = nI 252645135 from rfl, fa_and, show (2 : Nat) ^ 4 = 16 from rfl, h2, us (s := 8) (k := 8) (by omega) (by decide) rfl, nI_add, bb_s, bb_s, us (s := 16) (k := 16) (by omega) (by decide) rfl, nI_add, show (63 : Int32) = nI (2 ^ 6 - 1) from rfl, fa_and, Nat.and_two_pow_sub_one_eq_mod]
  have q1 : ((a' + b') + 256 * (c' + d') + 65536 * e') / 2 ^ 8 = (c' + d') + 256 * e' := by
    clear h1 h2 hB hA hAl hM hp
    omega
  rw [q1]
  have q2 : ((a' + b') + 256 * (c' + d') + 65536 * e' + ((c' + d') + 256 * e')) / 2 ^ 16 = e' := by
    clear h1 h2 hB hA hAl hM hp q1
    omega
  rw [q2]
  have q3 : ((a' + b') + 256 * (c' + d') + 65536 * e' + ((c' + d') + 256 * e') + e') % 2 ^ 6 = a' + b' + c' + d' + e' := by
    clear h1 h2 hB hA hAl hM hp q1 q2
    omega
  rw [q3]
