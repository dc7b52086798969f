/-! ===== appointments: there is a plan ===== -/
theorem okL_ex {n : Nat} {op : Nat → Nat → Bool} {b : Nat} (hn : n ≤ 20) (j : Nat) : ∀ U, U < 1048576 → (∀ i, U.testBit i = true → i < n) → (∀ i, U.testBit i = true → pcf 20 U ≤ fb_ct (fun d => op i (b + d)) j) → ∃ v, v < (n + 1) ^ j ∧ okL n op b j U v = true := by
  induction j with
  | zero =>
    intro U hU hi h
    refine ⟨0, by rw [Nat.pow_zero]; decide, ?_⟩
    show decide (U = 0) = true
    refine decide_eq_true (Nat.eq_of_testBit_eq (fun i => ?_))
    rw [Nat.zero_testBit]
    cases q : U.testBit i
    · rfl
    · have z := h i q
      have e : U = 0 := pcf_zero (k := 20) hU (Nat.le_zero.mp z)
      rw [e, Nat.zero_testBit] at q
      exact absurd q (by decide)
  | succ j ih =>
    intro U hU hi h
    have dig : ∀ v d, d < n + 1 → (v * (n + 1) + d) % (n + 1) = d ∧ (v * (n + 1) + d) / (n + 1) = v := fun v d hd => by
      rw [Nat.mul_comm, Nat.mul_add_mod, Nat.mod_eq_of_lt hd, Nat.mul_add_div (Nat.succ_pos n), Nat.div_eq_of_lt hd]
      exact ⟨rfl, rfl⟩
    have lt : ∀ v d, d < n + 1 → v < (n + 1) ^ j → v * (n + 1) + d < (n + 1) ^ (j + 1) := fun v d hd hv => by
      have := Nat.mul_le_mul_right (n + 1) (show v + 1 ≤ (n + 1) ^ j from hv)
      rw [Nat.succ_mul] at this
      rw [Nat.pow_succ]
      omega
    by_cases c : ∃ i, U.testBit i = true ∧ fb_ct (fun d => op i (b + d)) j < pcf 20 U
    · obtain ⟨i, iU, ic⟩ := c
      have hin := hi i iU
      have hc := h i iU
      rw [fb_ct_succ] at hc
      have op1 : op i (b + j) = true := by
        cases q : op i (b + j)
        · rw [q, if_neg (by decide)] at hc; omega
        · rfl
      have pr := pcf_rmv (U := U) (d := i) (by omega) iU
      obtain ⟨v, v1, v2⟩ := ih (rmv U i) (Nat.lt_of_le_of_lt (rmv_le _ _) hU) (fun k hk => by
        rw [rmv_tb, Bool.and_eq_true] at hk
        exact hi k hk.1) (fun k hk => by
        rw [rmv_tb, Bool.and_eq_true] at hk
        have := h k hk.1
        rw [fb_ct_succ] at this
        have le : (if op k (b + j) = true then 1 else 0) ≤ 1 := by split <;> omega
        omega)
      obtain ⟨d1, d2⟩ := dig v i (by omega)
      refine ⟨v * (n + 1) + i, lt v i (by omega) v1, ?_⟩
      rw [okL_s, d1, d2, if_neg (by omega), iU, op1, v2]; rfl
    · obtain ⟨v, v1, v2⟩ := ih U hU hi (fun i hi => by
        by_cases w : pcf 20 U ≤ fb_ct (fun d => op i (b + d)) j
        · exact w
        · exact absurd ⟨i, hi, by omega⟩ c)
      obtain ⟨d1, d2⟩ := dig v n (by omega)
      refine ⟨v * (n + 1) + n, lt v n (by omega) v1, ?_⟩
      rw [okL_s, d1, d2, if_pos rfl, v2]
