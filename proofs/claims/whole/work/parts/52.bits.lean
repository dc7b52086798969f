/-! ===== bits of small numbers ===== -/
theorem i_sh {m d : Nat} (hm : m < 2 ^ 31) (hd : d < 32) : nI m >>> (nI d &&& 31) = nI (m / 2 ^ d) := pk_shrN hm _ d (s_l d hd)
theorem i_and1 (m : Nat) (hm : m < 2 ^ 32) : nI m &&& nI 1 = nI (m % 2) := pk_andN hm (m := nI 1) 1 (by decide)
theorem i_bit {m d : Nat} (hm : m < 2 ^ 31) (hd : d < 32) : (nI m >>> (nI d &&& 31)) &&& nI 1 = nI (if m.testBit d then 1 else 0) := by
  rw [i_sh hm hd, i_and1 _ (Nat.lt_of_le_of_lt (Nat.div_le_self _ _) (by omega)), Nat.testBit_eq_decide_div_mod_eq]
  rcases Nat.mod_two_eq_zero_or_one (m / 2 ^ d) with h | h
  · rw [h]; rfl
  · rw [h]; rfl
theorem i_bit1 {m d : Nat} (hm : m < 2 ^ 31) (hd : d < 32) : ((nI m >>> (nI d &&& 31)) &&& nI 1 = nI 1) = (m.testBit d = true) := by
  rw [i_bit hm hd]
  cases m.testBit d
  · exact propext ⟨fun h => absurd h (by decide), fun h => absurd h (by decide)⟩
  · exact propext ⟨fun _ => rfl, fun _ => rfl⟩
theorem i_bit0 {m d : Nat} (hm : m < 2 ^ 31) (hd : d < 32) : ((nI m >>> (nI d &&& 31)) &&& nI 1 = nI 0) = (m.testBit d = false) := by
  rw [i_bit hm hd]
  cases m.testBit d
  · exact propext ⟨fun _ => rfl, fun _ => rfl⟩
  · exact propext ⟨fun h => absurd h (by decide), fun h => absurd h (by decide)⟩
theorem i_shl2 {m d : Nat} (h : m * 2 ^ d < 2 ^ 32) (hd : d < 32) : nI m <<< (nI d &&& 31) = nI (m * 2 ^ d) := pk_shlN _ d (s_l d hd) h
theorem i_shl {d : Nat} (hd : d < 31) : nI 1 <<< (nI d &&& 31) = nI (2 ^ d) := by
  have h : (2 : Nat) ^ d < 2 ^ 31 := Nat.pow_lt_pow_right (by omega) hd
  rw [i_shl2 (by omega) (by omega), Nat.one_mul]
theorem i_dif (a b : Nat) : nI a &&& (nI b ^^^ (-1 : Int32)) = nI (a ^^^ (a &&& b)) := by
  rw [← nx_xor, ← nx_and]
  refine b_ext (fun i hi => ?_)
  rw [b_and, b_xor, b_xor, b_and, b_m1 i hi]
  cases bt (nI a) i <;> cases bt (nI b) i <;> rfl
theorem dif_tb (a b i : Nat) : (a ^^^ (a &&& b)).testBit i = (a.testBit i && !b.testBit i) := by
  rw [Nat.testBit_xor, Nat.testBit_and]
  cases a.testBit i <;> cases b.testBit i <;> rfl
theorem land_sp {k : Nat} (a c : Nat) {b d : Nat} (hb : b < 2 ^ k) (hd : d < 2 ^ k) : (2 ^ k * a + b) &&& (2 ^ k * c + d) = 2 ^ k * (a &&& c) + (b &&& d) := by
  refine Nat.eq_of_testBit_eq (fun i => ?_)
  rw [Nat.testBit_and, Nat.testBit_two_pow_mul_add a hb, Nat.testBit_two_pow_mul_add c hd, Nat.testBit_two_pow_mul_add (a &&& c) (Nat.and_lt_two_pow b hd), Nat.testBit_and, Nat.testBit_and]
  split <;> rfl
theorem land_256 (a c : Nat) {b d : Nat} (hb : b < 256) (hd : d < 256) : (256 * a + b) &&& (256 * c + d) = 256 * (a &&& c) + (b &&& d) := land_sp (k := 8) a c hb hd
theorem land_2 (a c : Nat) {b d : Nat} (hb : b < 2) (hd : d < 2) : (2 * a + b) &&& (2 * c + d) = 2 * (a &&& c) + (b &&& d) := land_sp (k := 1) a c hb hd
/-- how many of the lowest k bits are set -/
def pcf : Nat → Nat → Nat
  | 0, _ => 0
  | k + 1, n => n % 2 + pcf k (n / 2)
theorem pcf_s (k n : Nat) : pcf (k + 1) n = n % 2 + pcf k (n / 2) := rfl
theorem pcf_add : ∀ (a b n : Nat), pcf (a + b) n = pcf a n + pcf b (n / 2 ^ a)
  | 0, b, n => by rw [Nat.zero_add, Nat.pow_zero, Nat.div_one]; exact (Nat.zero_add _).symm
  | a + 1, b, n => by
    rw [show a + 1 + b = (a + b) + 1 by omega, pcf_s, pcf_s, pcf_add a b (n / 2), Nat.div_div_eq_div_mul, Nat.pow_succ, Nat.mul_comm (2 ^ a) 2]
    omega
theorem pcf_mod : ∀ (a n : Nat), pcf a (n % 2 ^ a) = pcf a n
  | 0, _ => rfl
  | a + 1, n => by
    rw [pcf_s, pcf_s, ← pcf_mod a (n / 2), ← pcf_mod a (n % 2 ^ (a + 1) / 2)]
    have h1 : n % 2 ^ (a + 1) % 2 = n % 2 := Nat.mod_mod_of_dvd n ⟨2 ^ a, by rw [Nat.pow_succ, Nat.mul_comm]⟩
    have h2 : n % 2 ^ (a + 1) / 2 = n / 2 % 2 ^ a := by
      rw [Nat.pow_succ, Nat.mul_comm, Nat.mod_mul_right_div_self]
    rw [h1, h2, Nat.mod_mod]
theorem pcf_le : ∀ (k n : Nat), pcf k n ≤ k
  | 0, _ => Nat.le_refl _
  | k + 1, n => by
    rw [pcf_s]
    have := pcf_le k (n / 2)
    omega
theorem pcf_0 : ∀ (k : Nat), pcf k 0 = 0
  | 0 => rfl
  | k + 1 => by rw [pcf_s, Nat.zero_div, pcf_0 k]
theorem pcf_zero : ∀ {k n : Nat}, n < 2 ^ k → pcf k n = 0 → n = 0
  | 0, n, h, _ => by omega
  | k + 1, n, h, e => by
    rw [pcf_s] at e
    have := pcf_zero (k := k) (n := n / 2) (by rw [Nat.pow_succ] at h; omega) (by omega)
    omega
theorem pcf_ct : ∀ (k n : Nat), pcf k n = fb_ct n.testBit k
  | 0, _ => rfl
  | k + 1, n => by
    rw [pcf_s, pcf_ct k (n / 2), Nat.add_comm k 1, fb_ct_split]
    have h1 : fb_ct n.testBit 1 = n % 2 := by
      show 0 + (if n.testBit 0 then 1 else 0) = n % 2
      rw [Nat.testBit_zero]
      rcases Nat.mod_two_eq_zero_or_one n with h | h <;> rw [h] <;> rfl
    rw [h1]
    refine congrArg (n % 2 + ·) (fb_ct_cong (fun j _ => ?_))
    rw [Nat.add_comm 1 j]
    exact (Nat.testBit_succ n j).symm
theorem pcf_ker : ∀ (k n : Nat), 0 < n → n < 2 ^ k → pcf k (n &&& (n - 1)) + 1 = pcf k n
  | 0, n, h0, h => by omega
  | k + 1, n, h0, h => by
    rw [Nat.pow_succ] at h
    rcases Nat.mod_two_eq_zero_or_one n with e | e
    · have e1 : n = 2 * (n / 2) + 0 := by omega
      have e2 : n - 1 = 2 * (n / 2 - 1) + 1 := by omega
      have e3 : n &&& (n - 1) = 2 * (n / 2 &&& (n / 2 - 1)) := by
        have := land_2 (n / 2) (n / 2 - 1) (b := 0) (d := 1) (by omega) (by omega)
        rw [← e1, ← e2] at this
        exact this
      have ih := pcf_ker k (n / 2) (by omega) (by omega)
      rw [e3, pcf_s, pcf_s, e, Nat.mul_mod_right, Nat.mul_div_cancel_left _ (by omega : 0 < 2)]
      omega
    · have e1 : n = 2 * (n / 2) + 1 := by omega
      have e2 : n - 1 = 2 * (n / 2) + 0 := by omega
      have e3 : n &&& (n - 1) = 2 * (n / 2) := by
        have := land_2 (n / 2) (n / 2) (b := 1) (d := 0) (by omega) (by omega)
        rw [← e1, ← e2, Nat.and_self] at this
        exact this
      rw [e3, pcf_s, pcf_s, e, Nat.mul_mod_right, Nat.mul_div_cancel_left _ (by omega : 0 < 2)]
      omega
/-- the steps of Integer.bitCount -/
def q1 (M m : Nat) : Nat := m - (m / 2 &&& M)
def q2 (M m : Nat) : Nat := (m &&& M) + (m / 4 &&& M)
def q3 (M m : Nat) : Nat := (m + m / 16) &&& M
theorem q1_sp (M q r : Nat) (hr : r < 256) : q1 (256 * M + 85) (256 * q + r) = 256 * q1 M q + q1 85 r := by
  have h : ∀ c, c < 2 → ∀ r, r < 256 → (128 * c + r / 2) &&& 85 = r / 2 &&& 85 := by decide +kernel
  have e : (256 * q + r) / 2 = 256 * (q / 2) + (128 * (q % 2) + r / 2) := by omega
  have l1 : q / 2 &&& M ≤ q / 2 := Nat.and_le_left
  have l2 : r / 2 &&& 85 ≤ r / 2 := Nat.and_le_left
  unfold q1
  rw [e, land_256 _ _ (by omega) (by omega), h _ (by omega) r hr]
  omega
theorem q2_sp (M q r : Nat) (hr : r < 256) : q2 (256 * M + 51) (256 * q + r) = 256 * q2 M q + q2 51 r := by
  have h : ∀ c, c < 4 → ∀ r, r < 256 → (64 * c + r / 4) &&& 51 = r / 4 &&& 51 := by decide +kernel
  have e : (256 * q + r) / 4 = 256 * (q / 4) + (64 * (q % 4) + r / 4) := by omega
  unfold q2
  rw [e, land_256 _ _ (by omega) (by omega), land_256 _ _ (by omega) (by omega), h _ (by omega) r hr]
  omega
theorem q3_sp (M q r : Nat) (hr : r < 69) (hq : q % 16 < 5) : q3 (256 * M + 15) (256 * q + r) = 256 * q3 M q + q3 15 r := by
  have h : ∀ c, c < 5 → ∀ r, r < 69 → (r + r / 16 + 16 * c) &&& 15 = (r + r / 16) &&& 15 := by decide +kernel
  have e : (256 * q + r) + (256 * q + r) / 16 = 256 * (q + q / 16) + (r + r / 16 + 16 * (q % 16)) := by omega
  unfold q3
  rw [e, land_256 _ _ (by omega) (by omega), h _ hq r hr]
theorem q_b1 : ∀ r, r < 256 → q1 85 r < 256 ∧ q2 51 (q1 85 r) < 69 ∧ q2 51 (q1 85 r) % 16 < 5 ∧ q3 15 (q2 51 (q1 85 r)) = pcf 8 r := by decide +kernel
theorem q_b2 : ∀ r, r < 16 → q1 (256 * 85 + 85) r < 256 ∧ q2 (256 * 51 + 51) (q1 (256 * 85 + 85) r) < 69 ∧ q2 (256 * 51 + 51) (q1 (256 * 85 + 85) r) % 16 < 5 ∧ q3 (256 * 15 + 15) (q2 (256 * 51 + 51) (q1 (256 * 85 + 85) r)) = pcf 4 r := by decide +kernel
theorem q_all {m : Nat} (hm : m < 1048576) : q1 1431655765 m < 16777216 ∧ q2 858993459 (q1 1431655765 m) < 16777216 ∧ q3 252645135 (q2 858993459 (q1 1431655765 m)) = 65536 * pcf 4 (m / 65536) + 256 * pcf 8 (m / 256 % 256) + pcf 8 (m % 256) := by
  have e : m = 256 * (256 * (m / 65536) + m / 256 % 256) + m % 256 := by omega
  have b0 := q_b1 (m % 256) (by omega)
  have b1 := q_b1 (m / 256 % 256) (by omega)
  have b2 := q_b2 (m / 65536) (by omega)
  have h1 : q1 1431655765 m = 256 * (256 * q1 (256 * 85 + 85) (m / 65536) + q1 85 (m / 256 % 256)) + q1 85 (m % 256) := by
    have x1 := q1_sp (256 * (256 * 85 + 85) + 85) (256 * (m / 65536) + m / 256 % 256) (m % 256) (by omega)
    rw [← e, q1_sp (256 * 85 + 85) (m / 65536) (m / 256 % 256) (by omega)] at x1
    exact x1
  have h2 : q2 858993459 (q1 1431655765 m) = 256 * (256 * q2 (256 * 51 + 51) (q1 (256 * 85 + 85) (m / 65536)) + q2 51 (q1 85 (m / 256 % 256))) + q2 51 (q1 85 (m % 256)) := by
    have x1 := q2_sp (256 * (256 * 51 + 51) + 51) (256 * q1 (256 * 85 + 85) (m / 65536) + q1 85 (m / 256 % 256)) (q1 85 (m % 256)) b0.1
    rw [← h1, q2_sp (256 * 51 + 51) _ _ b1.1] at x1
    exact x1
  have h3 : q3 252645135 (q2 858993459 (q1 1431655765 m)) = 256 * (256 * q3 (256 * 15 + 15) (q2 (256 * 51 + 51) (q1 (256 * 85 + 85) (m / 65536))) + q3 15 (q2 51 (q1 85 (m / 256 % 256)))) + q3 15 (q2 51 (q1 85 (m % 256))) := by
    have x1 := q3_sp (256 * (256 * 15 + 15) + 15) (256 * q2 (256 * 51 + 51) (q1 (256 * 85 + 85) (m / 65536)) + q2 51 (q1 85 (m / 256 % 256))) (q2 51 (q1 85 (m % 256))) b0.2.1 (by omega)
    rw [← h2, q3_sp (256 * 15 + 15) _ _ b1.2.1 b2.2.2.1] at x1
    exact x1
  refine ⟨by omega, by omega, ?_⟩
  rw [h3, b0.2.2.2, b1.2.2.2, b2.2.2.2]
  omega
def e1 (x : Int32) : Int32 := x - (((x.toUInt32 >>> ((1 : Int32).toUInt32 &&& Int32.toUInt32 31)).toInt32) &&& (1431655765 : Int32))
def e2 (x : Int32) : Int32 := (x &&& (858993459 : Int32)) + (((x.toUInt32 >>> ((2 : Int32).toUInt32 &&& Int32.toUInt32 31)).toInt32) &&& (858993459 : Int32))
def e3 (x : Int32) : Int32 := (x + (x.toUInt32 >>> ((4 : Int32).toUInt32 &&& Int32.toUInt32 31)).toInt32) &&& (252645135 : Int32)
def e4 (x : Int32) : Int32 := x + (x.toUInt32 >>> ((8 : Int32).toUInt32 &&& Int32.toUInt32 31)).toInt32
def e5 (x : Int32) : Int32 := x + (x.toUInt32 >>> ((16 : Int32).toUInt32 &&& Int32.toUInt32 31)).toInt32
theorem e_all (S : mS) (x : Int32) : f_J6_bitCount_0f7a4 S x = e5 (e4 (e3 (e2 (e1 x)))) &&& (63 : Int32) := rfl
theorem e1_n {m : Nat} (hm : m < 2 ^ 31) : e1 (nI m) = nI (q1 1431655765 m) := by
  unfold e1 q1
  rw [pk_ushrN (by omega) 1 1 (by decide), show (1431655765 : Int32) = nI 1431655765 from rfl, nx_and, Nat.pow_one, pk_sub (Nat.le_trans Nat.and_le_left (by omega))]
theorem e2_n {m : Nat} (hm : m < 2 ^ 31) : e2 (nI m) = nI (q2 858993459 m) := by
  unfold e2 q2
  rw [pk_ushrN (by omega) 2 2 (by decide), show (858993459 : Int32) = nI 858993459 from rfl, nx_and, nx_and, nI_add]
theorem e3_n {m : Nat} (hm : m < 2 ^ 31) : e3 (nI m) = nI (q3 252645135 m) := by
  unfold e3 q3
  rw [pk_ushrN (by omega) 4 4 (by decide), show (252645135 : Int32) = nI 252645135 from rfl, nI_add, nx_and]
theorem bc_n {S : mS} {m : Nat} (hm : m < 1048576) : f_J6_bitCount_0f7a4 S (nI m) = nI (pcf 20 m) := by
  obtain ⟨h1, h2, h3⟩ := q_all hm
  have p4 := pcf_le 4 (m / 65536)
  have p8 := pcf_le 8 (m / 256 % 256)
  have p0 := pcf_le 8 (m % 256)
  have x1 := pcf_add 8 12 m
  have x2 := pcf_add 8 4 (m / 2 ^ 8)
  have x3 := pcf_mod 8 m
  have x4 := pcf_mod 8 (m / 2 ^ 8)
  rw [Nat.div_div_eq_div_mul] at x2
  simp only [Nat.reducePow, Nat.reduceMul, Nat.reduceAdd] at x1 x2 x3 x4
  have x5 : pcf 20 m = pcf 4 (m / 65536) + pcf 8 (m / 256 % 256) + pcf 8 (m % 256) := by omega
  rw [e_all, e1_n (by omega), e2_n (by omega), e3_n (by omega), h3, x5]
  generalize pcf 4 (m / 65536) = a at *
  generalize pcf 8 (m / 256 % 256) = b at *
  generalize pcf 8 (m % 256) = c at *
  unfold e4 e5
  have y1 : (65536 * a + 256 * b + c) / 2 ^ 8 = 256 * a + b := by omega
  have y2 : (65536 * a + 256 * b + c + (256 * a + b)) / 2 ^ 16 = a := by omega
  rw [pk_ushrN (by omega) 8 8 (by decide), nI_add, y1, pk_ushrN (by omega) 16 16 (by decide), nI_add, y2, pk_andN (by omega) 6 (by decide)]
  exact congrArg nI (by omega)
theorem bits_n {F : Nat} {S : mS} {a1 : Int32} (k : Nat) : ∀ (p c m : Nat), m < 1048576 → pcf 20 m = p → p < k → lX9_bits_4 F a1 k S (nI c) (nI m) = some (nI (c + p)) := by
  induction k with
  | zero =>
    intro p c m hm hp hk
    exact absurd hk (Nat.not_lt_zero p)
  | succ k ih =>
    intro p c m hm hp hk
    unfold lX9_bits_4
    by_cases h0 : m = 0
    · subst h0
      rw [pcf_0] at hp
      subst hp
      rfl
    · rw [if_neg (show ¬ nI m = 0 from nI_ne0 (by omega) (by omega))]
      have e : nI m &&& (nI m - (1 : Int32)) = nI (m &&& (m - 1)) := by
        rw [show (1 : Int32) = nI 1 from rfl, pk_sub (by omega), nx_and]
      have h := pcf_ker 20 m (by omega) (by omega)
      rw [e, show nI c + 1 = nI (c + 1) from nI_1 c, ih (p - 1) (c + 1) (m &&& (m - 1)) (Nat.lt_of_le_of_lt Nat.and_le_left hm) (by omega) (by omega)]
      exact congrArg (fun z => some (nI z)) (by omega)
theorem bits_f {F : Nat} {S : mS} {m : Nat} (hF : 32 < F) (hm : m < 1048576) : f_X9_bits F S (nI m) = some (nI (pcf 20 m)) := by
  unfold f_X9_bits
  have h := bits_n (F := F) (S := S) (a1 := nI m) F (pcf 20 m) 0 m hm rfl (by have := pcf_le 20 m; omega)
  rw [Nat.zero_add] at h
  exact h
