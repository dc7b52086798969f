/-! ===== appointments: isLaid ===== -/
def US (n used U : Nat) : Prop := used < 2 ^ n ∧ (∀ i, U.testBit i = true → i < n) ∧ ∀ i, i < n → U.testBit i = !used.testBit i
theorem US.st {n used U d : Nat} (h : US n used U) (hd : d < n) : US n (used ||| 2 ^ d) (rmv U d) := by
  refine ⟨Nat.or_lt_two_pow h.1 (Nat.pow_lt_pow_right (by decide) hd), fun i hi => ?_, fun i hi => ?_⟩
  · rw [rmv_tb, Bool.and_eq_true] at hi
    exact h.2.1 i hi.1
  · rw [rmv_tb, fb_bit_set, h.2.2 i hi]
    cases used.testBit i <;> rfl
theorem US.z {n used U : Nat} (h : US n used U) : (used = 2 ^ n - 1) = (U = 0) := propext ⟨fun e => Nat.eq_of_testBit_eq (fun i => by
    rw [Nat.zero_testBit]
    cases q : U.testBit i
    · rfl
    · have hi := h.2.1 i q
      have := h.2.2 i hi
      rw [q, e, Nat.testBit_two_pow_sub_one, decide_eq_true hi] at this
      exact absurd this (by decide)), fun e => Nat.eq_of_testBit_eq (fun i => by
    rw [Nat.testBit_two_pow_sub_one]
    by_cases hi : i < n
    · have := h.2.2 i hi
      rw [e, Nat.zero_testBit] at this
      rw [decide_eq_true hi]
      cases q : used.testBit i
      · rw [q] at this; exact absurd this (by decide)
      · rfl
    · rw [decide_eq_false hi]
      exact Nat.testBit_lt_two_pow (Nat.lt_of_lt_of_le h.1 (Nat.pow_le_pow_right (by decide) (by omega))))⟩
section
variable {F : Nat} {T : Tw} {n : Nat} {mem : Nat → Nat}
theorem x9_il {a1 a3 : Int32} (hW : Wf T) (hn : n ≤ 5) (hA : asc n mem) (hmem : ∀ i, i < n → mem i < T 0 0) (j : Nat) : ∀ (k v used U : Nat) {S : mS}, j ≤ 20 → j < k → v < 2 ^ 31 → US n used U → RT S 376 T → (∀ i, i < n → S.1 386 i = nI (mem i)) → ∃ S', lX9_isLaid_11 F 375 a1 (nI n) a3 k S (nI v) (nI used) (nI j + (-1)) = some (S', okL n (opM T mem) 0 j U v) ∧ (∀ u k, u ≠ 387 → S'.1 u k = S.1 u k) ∧ (okL n (opM T mem) 0 j U v = true → ∀ i, U.testBit i = true → S'.1 387 (mem i) = nI (psL n 0 j v i)) ∧ ∀ i, i < n → U.testBit i = false → S'.1 387 (mem i) = S.1 387 (mem i) := by
  have w0 := hW.1
  have w2 := hW.2.2.1
  have p5 : 2 ^ n ≤ 2 ^ 5 := Nat.pow_le_pow_right (by decide) hn
  induction j with
  | zero =>
    intro k v used U S hj hk hv hU hR hM
    obtain ⟨k, rfl⟩ : ∃ k', k = k' + 1 := ⟨k - 1, by omega⟩
    have z := hU.z
    have ul := hU.1
    have p1 : 0 < 2 ^ n := Nat.pow_pos (by decide)
    refine ⟨S, ?_, fun _ _ _ => rfl, fun h i hi => ?_, fun _ _ _ => rfl⟩
    · rw [u_X9_isLaid_11, if_pos (by decide), i_shl (by omega), pk_sub (by omega)]
      show _ = some (S, decide (U = 0))
      by_cases e : U = 0
      · rw [if_pos (congrArg nI (z.mpr e)), decide_eq_true e]
      · rw [if_neg (nI_neq (fun w => e (z.mp w)) (by omega) (by omega)), decide_eq_false e]
    · have e : U = 0 := of_decide_eq_true h
      rw [e, Nat.zero_testBit] at hi
      exact absurd hi (by decide)
  | succ j ih =>
    intro k v used U S hj hk hv hU hR hM
    obtain ⟨k, rfl⟩ : ∃ k', k = k' + 1 := ⟨k - 1, by omega⟩
    have ul := hU.1
    have hd : v % (n + 1) < n + 1 := Nat.mod_lt v (Nat.succ_pos n)
    have dv : v / (n + 1) ≤ v := Nat.div_le_self _ _
    have p1 : ∀ h, h < 21 → nI (h + 1) + (-1) = nI h := by decide
    have rs : ∀ h, h < T 0 0 → S.1 376 (12 + 8 * h + 0) = nI (T 1 h) := fun h hh => hR.2.2.2.2.1 h hh
    have r8 : S.1 376 8 = nI (T 0 2) := hR.2.1
    have u := u_X9_isLaid_11 (F := F) (a1 := a1) (a2 := nI n) (a3 := a3) (n := k) (S := S) (v4 := nI v) (v5 := nI used) (v6 := nI j)
    rw [if_neg (nI_nlt (by omega) (by omega)), nI_add, nz_n (by omega) (by omega), ck_t, ck_t, nI_rem (by omega) (by omega) (by omega), pk_div (by omega) (by omega) (by omega)] at u
    rw [p1 j (by omega), okL_s]
    by_cases d : v % (n + 1) = n
    · rw [if_pos (congrArg nI d)] at u
      obtain ⟨S', a, b, c, e⟩ := ih k (v / (n + 1)) used U (by omega) (by omega) (by omega) hU hR hM
      rw [if_pos d]
      refine ⟨S', u.trans a, b, fun h i hi => ?_, e⟩
      have := hU.2.1 i hi
      rw [psL_s, if_neg (by omega)]
      exact c h i hi
    · have dn : v % (n + 1) < n := by omega
      have m7 := hmem _ dn
      have t1 := (hW.2.2.2.2.2.1 _ m7).1
      have us := hU.2.2 _ dn
      have dm := Nat.mod_lt (T 0 2 + j) (show 20 > 0 by decide)
      rw [if_neg (nI_neq d (by omega) (by omega)), x9_has S (m := used) (d := v % (n + 1)) (by omega) (by omega)] at u
      rw [if_neg d, us, Nat.zero_add]
      cases ub : used.testBit (v % (n + 1))
      · rw [ub, if_neg (by decide), inb_n (n := v % (n + 1)) (by omega) (by omega), ck_t, nI_clamp (n := v % (n + 1)) (by omega), hM _ dn, x9_get S (h := mem (v % (n + 1))) (k := 0) (by omega) (by omega), bd_s, rs _ m7, inb_n (n := 8) (by omega) (by omega), ck_t, nI_clamp (n := 8) (by omega), r8, nI_add, nI_rem (by omega) (by omega) (by omega), x9_has S (m := T 1 (mem (v % (n + 1)))) (d := (T 0 2 + j) % 20) (by omega) (by omega)] at u
        have op : opM T mem (v % (n + 1)) j = !(T 1 (mem (v % (n + 1)))).testBit ((T 0 2 + j) % 20) := rfl
        rw [op]
        cases sh : (T 1 (mem (v % (n + 1)))).testBit ((T 0 2 + j) % 20)
        · rw [sh, if_neg (by decide), ck_t, inb_n (n := mem (v % (n + 1))) (by omega) (by omega), ck_t, nI_clamp (n := mem (v % (n + 1))) (by omega), stp_s, i_shl (by omega), fa_or] at u
          obtain ⟨S', a, b, c, e⟩ := ih k (v / (n + 1)) (used ||| 2 ^ (v % (n + 1))) (rmv U (v % (n + 1))) (S := sI S 387 (mem (v % (n + 1))) (nI j)) (by omega) (by omega) (by omega) (hU.st dn) (hR.fr (fun k => sq_u (by decide))) (fun i hi => by rw [sq_u (by decide)]; exact hM i hi)
          simp only [Bool.not_false, Bool.true_and]
          refine ⟨S', u.trans a, fun u k h => by rw [b u k h, sq_u h], fun h i hi => ?_, fun i hi hu => ?_⟩
          · by_cases x : i = v % (n + 1)
            · rw [psL_s, if_pos x.symm, x, e _ dn (by rw [rmv_tb, decide_eq_true rfl, Bool.not_true, Bool.and_false]), sq_hit, Nat.zero_add]
            · rw [psL_s, if_neg (fun y => x y.symm)]
              exact c h i (by rw [rmv_tb, hi, decide_eq_false x]; rfl)
          · have x : ¬ i = v % (n + 1) := fun y => by rw [y, us, ub] at hu; exact absurd hu (by decide)
            have y : ¬ mem i = mem (v % (n + 1)) := fun y => x (hA.inj hi dn y)
            rw [e i hi (by rw [rmv_tb, hu]; rfl), sq_off (Or.inr y)]
        · rw [sh, if_pos rfl] at u
          simp only [Bool.not_true, Bool.and_false, Bool.false_and]
          exact ⟨S, u, fun _ _ _ => rfl, fun h => absurd h (by decide), fun _ _ _ => rfl⟩
      · rw [ub, if_pos rfl] at u
        simp only [Bool.not_true, Bool.false_and]
        exact ⟨S, u, fun _ _ _ => rfl, fun h => absurd h (by decide), fun _ _ _ => rfl⟩
end
