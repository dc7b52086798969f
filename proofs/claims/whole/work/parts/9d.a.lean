/-! ===== appointments: the class's search ===== -/
def LU (n : Nat) (mem : Nat → Nat) (left U : Nat) : Prop := left < 128 ∧ U < 128 ∧ (∀ i, U.testBit i = true → i < n) ∧ ∀ h, left.testBit h = true ↔ ∃ i, U.testBit i = true ∧ mem i = h
def asc (n : Nat) (mem : Nat → Nat) : Prop := (∀ i j, i < j → j < n → mem i < mem j) ∧ ∀ i, i < n → mem i < 7
theorem asc.inj {n : Nat} {mem : Nat → Nat} (h : asc n mem) {i j : Nat} (hi : i < n) (hj : j < n) (e : mem i = mem j) : i = j := by
  rcases Nat.lt_trichotomy i j with c | c | c
  · have := h.1 i j c hj; omega
  · exact c
  · have := h.1 j i c hi; omega
theorem LU.rm {n : Nat} {mem : Nat → Nat} {left U i : Nat} (hA : asc n mem) (h : LU n mem left U) (hi : U.testBit i = true) : LU n mem (rmv left (mem i)) (rmv U i) := by
  refine ⟨Nat.lt_of_le_of_lt (rmv_le _ _) h.1, Nat.lt_of_le_of_lt (rmv_le _ _) h.2.1, fun j hj => ?_, fun g => ?_⟩
  · rw [rmv_tb, Bool.and_eq_true] at hj
    exact h.2.2.1 j hj.1
  · rw [rmv_tb, Bool.and_eq_true, h.2.2.2 g]
    constructor
    · rintro ⟨⟨j, a, b⟩, c⟩
      refine ⟨j, ?_, b⟩
      rw [rmv_tb, a, Bool.true_and]
      by_cases e : j = i
      · rw [← b, e, decide_eq_true rfl] at c; exact absurd c (by decide)
      · rw [decide_eq_false e]; rfl
    · rintro ⟨j, a, b⟩
      rw [rmv_tb, Bool.and_eq_true] at a
      refine ⟨⟨j, a.1, b⟩, ?_⟩
      by_cases e : g = mem i
      · have := hA.inj (h.2.2.1 j a.1) (h.2.2.1 i hi) (b.trans e)
        rw [this, decide_eq_true rfl] at a
        exact absurd a.2 (by decide)
      · rw [decide_eq_false e]; rfl
theorem pcf_ex {U : Nat} (h : U < 128) (h0 : ¬ U = 0) : ∃ i, i < 7 ∧ U.testBit i = true := by
  by_cases e : ∃ i, i < 7 ∧ U.testBit i = true
  · exact e
  · exact absurd (Nat.eq_of_testBit_eq (fun i => by
      rw [Nat.zero_testBit]
      by_cases g : i < 7
      · cases q : U.testBit i
        · rfl
        · exact absurd ⟨i, g, q⟩ e
      · exact Nat.testBit_lt_two_pow (Nat.lt_of_lt_of_le h (Nat.pow_le_pow_right (by decide) (by omega) : 2 ^ 7 ≤ 2 ^ i)))) h0
theorem LU.pc {n : Nat} {mem : Nat → Nat} (hA : asc n mem) (k : Nat) : ∀ {left U : Nat}, LU n mem left U → pcf 20 U = k → pcf 20 left = k := by
  induction k with
  | zero =>
    intro left U h e
    have z : U = 0 := pcf_zero (k := 20) (Nat.lt_trans h.2.1 (by decide)) e
    have y : left = 0 := Nat.eq_of_testBit_eq (fun g => by
      rw [Nat.zero_testBit]
      cases q : left.testBit g
      · rfl
      · obtain ⟨i, a, _⟩ := (h.2.2.2 g).mp q
        rw [z, Nat.zero_testBit] at a
        exact absurd a (by decide))
    rw [y]; exact pcf_0 20
  | succ k ih =>
    intro left U h e
    have h0 : ¬ U = 0 := fun z => by rw [z, pcf_0] at e; omega
    obtain ⟨i, hi, q⟩ := pcf_ex h.2.1 h0
    have m7 := hA.2 i (h.2.2.1 i q)
    rw [pcf_rmv (U := U) (d := i) (by omega) q] at e
    rw [pcf_rmv (U := left) (d := mem i) (by omega) ((h.2.2.2 _).mpr ⟨i, q, rfl⟩), ih (h.rm hA q) (by omega)]
def Sp (n : Nat) (op : Nat → Nat → Bool) (mem : Nat → Nat) (res : Option (mS × Bool)) (S : mS) (m b U : Nat) : Prop := ∃ S' r, res = some (S', r) ∧ (∀ u k, u ≠ 371 → S'.1 u k = S.1 u k) ∧ ((r = false ∧ ∀ v, v < (n + 1) ^ m → okL n op b m U v = false) ∨ (r = true ∧ ∃ v, v < (n + 1) ^ m ∧ okL n op b m U v = true ∧ (∀ v', v' < v → okL n op b m U v' = false) ∧ ∀ i, U.testBit i = true → S'.1 371 (mem i) = nI (psL n b m v i)))
/-- all blocks below t are in vain -/
theorem blk {n : Nat} {op : Nat → Nat → Bool} {b m U t : Nat} (ht : t ≤ n) (h : ∀ v, v < t * (n + 1) ^ m → okL n op b (m + 1) U v = false) (h2 : ∀ w, w < (n + 1) ^ m → okL n op b (m + 1) U (t * (n + 1) ^ m + w) = false) : ∀ v, v < (t + 1) * (n + 1) ^ m → okL n op b (m + 1) U v = false := by
  intro v hv
  rw [Nat.succ_mul] at hv
  by_cases e : v < t * (n + 1) ^ m
  · exact h v e
  · have := h2 (v - t * (n + 1) ^ m) (by omega)
    rw [show t * (n + 1) ^ m + (v - t * (n + 1) ^ m) = v by omega] at this
    exact this
