/-! ===== appointments: plans as numbers ===== -/
def rmv (U d : Nat) : Nat := U ^^^ (U &&& 2 ^ d)
theorem rmv_tb (U d i : Nat) : (rmv U d).testBit i = (U.testBit i && !decide (i = d)) := by
  unfold rmv
  rw [dif_tb, Nat.testBit_two_pow]
  congr 2
  exact decide_eq_decide.mpr ⟨fun h => h.symm, fun h => h.symm⟩
theorem rmv_comm (U d t : Nat) : rmv (rmv U d) t = rmv (rmv U t) d := Nat.eq_of_testBit_eq (fun i => by
  rw [rmv_tb, rmv_tb, rmv_tb, rmv_tb, Bool.and_assoc, Bool.and_assoc, Bool.and_comm (!decide (i = d))])
theorem rmv_le (U d : Nat) : rmv U d ≤ U := dif_le _ _
theorem rmv_or {U d : Nat} (h : U.testBit d = true) : rmv U d ||| 2 ^ d = U := Nat.eq_of_testBit_eq (fun i => by
  rw [fb_bit_set, rmv_tb]
  by_cases e : i = d
  · rw [e, h, decide_eq_true rfl]; rfl
  · rw [decide_eq_false e, Bool.not_false, Bool.and_true, Bool.or_false])
theorem pcf_rmv {U d : Nat} (hd : d < 20) (h : U.testBit d = true) : pcf 20 U = pcf 20 (rmv U d) + 1 := by
  have := pcf_set (W := rmv U d) hd (by rw [rmv_tb, decide_eq_true rfl, Bool.not_true, Bool.and_false])
  rw [rmv_or h] at this
  exact this
/-- days b .. b + j - 1, the last one's digit lowest; n: nobody -/
def okL (n : Nat) (op : Nat → Nat → Bool) (b : Nat) : Nat → Nat → Nat → Bool
  | 0, U, _ => decide (U = 0)
  | j + 1, U, v => if v % (n + 1) = n then okL n op b j U (v / (n + 1)) else U.testBit (v % (n + 1)) && op (v % (n + 1)) (b + j) && okL n op b j (rmv U (v % (n + 1))) (v / (n + 1))
def psL (n b : Nat) : Nat → Nat → Nat → Nat
  | 0, _, _ => 0
  | j + 1, v, i => if v % (n + 1) = i then b + j else psL n b j (v / (n + 1)) i
section
variable {n : Nat} {op : Nat → Nat → Bool}
theorem okL_s {b j U v : Nat} : okL n op b (j + 1) U v = if v % (n + 1) = n then okL n op b j U (v / (n + 1)) else U.testBit (v % (n + 1)) && op (v % (n + 1)) (b + j) && okL n op b j (rmv U (v % (n + 1))) (v / (n + 1)) := rfl
theorem psL_s {b j v i : Nat} : psL n b (j + 1) v i = if v % (n + 1) = i then b + j else psL n b j (v / (n + 1)) i := rfl
theorem dg_mod {t w j : Nat} : (t * (n + 1) ^ (j + 1) + w) % (n + 1) = w % (n + 1) := by
  rw [Nat.pow_succ, ← Nat.mul_assoc, Nat.mul_comm _ (n + 1), Nat.mul_add_mod]
theorem dg_div {t w j : Nat} : (t * (n + 1) ^ (j + 1) + w) / (n + 1) = t * (n + 1) ^ j + w / (n + 1) := by
  rw [Nat.pow_succ, ← Nat.mul_assoc, Nat.mul_comm _ (n + 1), Nat.mul_add_div (Nat.succ_pos n)]
theorem dg_lt {w j : Nat} (h : w < (n + 1) ^ (j + 1)) : w / (n + 1) < (n + 1) ^ j := by
  rw [Nat.pow_succ, Nat.mul_comm] at h
  exact Nat.div_lt_of_lt_mul h
theorem okL_top {b : Nat} (j : Nat) : ∀ (U t w : Nat), t ≤ n → w < (n + 1) ^ j → okL n op b (j + 1) U (t * (n + 1) ^ j + w) = if t = n then okL n op (b + 1) j U w else U.testBit t && op t b && okL n op (b + 1) j (rmv U t) w := by
  induction j with
  | zero =>
    intro U t w ht hw
    have e : w = 0 := by rw [Nat.pow_zero] at hw; omega
    subst e
    rw [okL_s, Nat.pow_zero, Nat.mul_one, Nat.add_zero, Nat.mod_eq_of_lt (show t < n + 1 by omega), Nat.add_zero]
    rfl
  | succ j ih =>
    intro U t w ht hw
    have hd := Nat.mod_lt w (Nat.succ_pos n)
    rw [okL_s, dg_mod, dg_div, ih U t _ ht (dg_lt hw), ih _ t _ ht (dg_lt hw), okL_s, okL_s, show b + 1 + j = b + (j + 1) by omega]
    by_cases d : w % (n + 1) = n
    · rw [if_pos d, if_pos d, if_pos d]
    · rw [if_neg d, if_neg d, if_neg d]
      by_cases e : t = n
      · rw [if_pos e, if_pos e]
      · rw [if_neg e, if_neg e, rmv_tb, rmv_tb, rmv_comm]
        by_cases x : t = w % (n + 1)
        · rw [← x, decide_eq_true rfl]
          simp only [Bool.not_true, Bool.and_false, Bool.false_and]
        · rw [decide_eq_false x, decide_eq_false (fun y => x y.symm)]
          cases U.testBit t <;> cases U.testBit (w % (n + 1)) <;> cases op t b <;> cases op (w % (n + 1)) (b + (j + 1)) <;> rfl
theorem okL_pc (hn : n ≤ 20) {b : Nat} (j : Nat) : ∀ (U v : Nat), okL n op b j U v = true → pcf 20 U ≤ j := by
  induction j with
  | zero =>
    intro U v h
    have e : U = 0 := of_decide_eq_true h
    rw [e, pcf_0]; exact Nat.le_refl 0
  | succ j ih =>
    intro U v h
    have hd : v % (n + 1) < n + 1 := Nat.mod_lt v (Nat.succ_pos n)
    rw [okL_s] at h
    by_cases d : v % (n + 1) = n
    · rw [if_pos d] at h
      exact Nat.le_succ_of_le (ih _ _ h)
    · rw [if_neg d, Bool.and_eq_true, Bool.and_eq_true] at h
      rw [pcf_rmv (d := v % (n + 1)) (by omega) h.1.1]
      exact Nat.succ_le_succ (ih _ _ h.2)
theorem psL_top {b : Nat} (j : Nat) : ∀ (t w i : Nat), i ≠ t → t ≤ n → w < (n + 1) ^ j → psL n b (j + 1) (t * (n + 1) ^ j + w) i = psL n (b + 1) j w i := by
  induction j with
  | zero =>
    intro t w i hi ht hw
    have e : w = 0 := by rw [Nat.pow_zero] at hw; omega
    subst e
    rw [psL_s, Nat.pow_zero, Nat.mul_one, Nat.add_zero, Nat.mod_eq_of_lt (show t < n + 1 by omega), if_neg (fun e => hi e.symm)]
    rfl
  | succ j ih =>
    intro t w i hi ht hw
    rw [psL_s, dg_mod, dg_div, ih t _ i hi ht (dg_lt hw), psL_s, show b + 1 + j = b + (j + 1) by omega]
theorem psL_t {b : Nat} (j : Nat) : ∀ (U t w : Nat), t < n → w < (n + 1) ^ j → U.testBit t = false → okL n op (b + 1) j U w = true → psL n b (j + 1) (t * (n + 1) ^ j + w) t = b := by
  induction j with
  | zero =>
    intro U t w ht hw _ _
    have e : w = 0 := by rw [Nat.pow_zero] at hw; omega
    subst e
    rw [psL_s, Nat.pow_zero, Nat.mul_one, Nat.add_zero, Nat.mod_eq_of_lt (show t < n + 1 by omega), if_pos rfl]
    rfl
  | succ j ih =>
    intro U t w ht hw hU h
    rw [okL_s] at h
    rw [psL_s, dg_mod, dg_div]
    by_cases d : w % (n + 1) = n
    · rw [if_pos d] at h
      rw [if_neg (by omega)]
      exact ih U t _ ht (dg_lt hw) hU h
    · rw [if_neg d, Bool.and_eq_true, Bool.and_eq_true] at h
      have ne : ¬ w % (n + 1) = t := fun e => by
        have := h.1.1
        rw [e, hU] at this
        exact absurd this (by decide)
      rw [if_neg ne]
      exact ih _ t _ ht (dg_lt hw) (by rw [rmv_tb, hU]; rfl) h.2
end
