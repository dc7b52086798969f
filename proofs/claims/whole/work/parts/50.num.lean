/-! ===== the pure side: numbers, and a step out of two functions ===== -/
theorem ck_t {α : Type} {a : Option α} : ck true a = a := rfl
theorem bd_s {α β : Type} {a : α} {k : α → Option β} : bd (some a) k = k a := rfl
theorem stp_s {α : Type} {S : mS} {k : mS → α} : stp S k = k S := rfl
theorem inb_n {n N : Nat} (h : n < N) (hN : N < 2 ^ 31) : inb (nI n) N = true := decide_eq_true (show ¬ (nI n < 0 ∨ N ≤ (nI n).toNatClampNeg) from vp_in_nI h hN)
theorem k_0 : kd0 0 = 8 := by decide +kernel
theorem k_375 : kd0 375 = 9 := by decide +kernel
theorem k_41 : kd0 41 = 6 := by decide +kernel
theorem i_ne {a k : Int32} (h : ¬ a = k) : a.toInt ≠ k.toInt := fun q => h (Int32.toInt_inj.mp q)
theorem i_lt {a b : Int32} : a < b ↔ a.toInt < b.toInt := Int32.lt_iff_toInt_lt
theorem i_le {a b : Int32} : a ≤ b ↔ a.toInt ≤ b.toInt := Int32.le_iff_toInt_le
theorem stepR {μ1 μ2 : mM} {d1 d2 : Nat} {Inv : mS → Prop} {S : mS} {as : List Value} {r : Int32} (hI : Inv S) (h1 : mCt μ1 d1 0 0 E0 S (.ref 0 :: as) (mQe S (some (.int r)))) (h2 : mCt μ2 d2 0 0 E0 S (.ref 375 :: as) (mQe S (some (.int r)))) (e1 : d1 ≤ 200) (e2 : d2 ≤ 200) : Step μ1 μ2 Inv S as := ⟨S, S, r, h1.mono e1, h2.mono e2, hI⟩
theorem stepW {μ1 μ2 : mM} {d1 d2 : Nat} {Inv : mS → Prop} {S S1 S2 : mS} {as : List Value} {r : Int32} (h1 : mCt μ1 d1 0 0 E0 S (.ref 0 :: as) (mQe S1 (some (.int r)))) (h2 : mCt μ2 d2 0 0 E0 S1 (.ref 375 :: as) (mQe S2 (some (.int r)))) (hI : Inv S2) (e1 : d1 ≤ 200) (e2 : d2 ≤ 200) : Step μ1 μ2 Inv S as := ⟨S1, S2, r, h1.mono e1, h2.mono e2, hI⟩
/-- the numbers that both keep as they are: how many houses, texts, the text, steps, seen, gossip; day, x, written; bytes of the tape; the fault and its place -/
def Rsc (S : mS) : Prop := S.1 41 5 = S.1 376 0 ∧ S.1 40 4 = S.1 376 1 ∧ S.1 40 5 = S.1 376 2 ∧ S.1 40 3 = S.1 376 3 ∧ S.1 40 9 = S.1 376 4 ∧ S.1 40 12 = S.1 376 5 ∧ S.1 41 7 = S.1 376 8 ∧ S.1 41 8 = S.1 376 9 ∧ S.1 41 4 = S.1 376 10 ∧ S.1 0 1 = S.1 375 4
theorem st_about {Inv : mS → Prop} (hR : ∀ S, Inv S → Rsc S) : ∀ S, Inv S → ∀ a1, Step μX8_about μX9_about Inv S [.int a1] := by
  intro S hI a
  obtain ⟨r0, r1, r2, r3, r4, r5, r6, r7, r8, r9⟩ := hR S hI
  have h2 : f_X9_about 1 S 375 a = some (f_X8_about S 0 a) := by
    unfold f_X9_about f_X8_about f_X9_isIn
    by_cases e0 : a = 0
    · subst e0
      exact congrArg some r0.symm
    by_cases e1 : a = 1
    · subst e1
      exact congrArg some r1.symm
    by_cases e2 : a = 2
    · subst e2
      exact congrArg some r2.symm
    by_cases e3 : a = 3
    · subst e3
      exact congrArg some r3.symm
    by_cases e4 : a = 4
    · subst e4
      exact congrArg some r4.symm
    by_cases e5 : a = 5
    · subst e5
      exact congrArg some r5.symm
    by_cases e6 : a = 6
    · subst e6
      exact congrArg some r9.symm
    rw [if_neg e0, if_neg e1, if_neg e2, if_neg e3, if_neg e4, if_neg e5, if_neg e6, if_neg e6]
    have n0 : a.toInt ≠ 0 := i_ne e0
    have n1 : a.toInt ≠ 1 := i_ne e1
    have n2 : a.toInt ≠ 2 := i_ne e2
    have n3 : a.toInt ≠ 3 := i_ne e3
    have n4 : a.toInt ≠ 4 := i_ne e4
    have n5 : a.toInt ≠ 5 := i_ne e5
    by_cases l0 : a < 0
    · rw [if_pos l0]
      rfl
    · rw [if_neg l0]
      by_cases l5 : 5 < a
      · rw [if_pos l5]
        rfl
      · rw [i_lt] at l0 l5
        have z0 : (0 : Int32).toInt = 0 := by decide
        have z5 : (5 : Int32).toInt = 5 := by decide
        omega
  exact stepR hI (c_X8_about k_0 rfl) (c_X9_about k_375 h2) (by decide) (by decide)
