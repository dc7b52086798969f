/-! ===== appointments: canPlace ===== -/
theorem okL_0 {n : Nat} {op : Nat → Nat → Bool} {b : Nat} (j : Nat) : ∀ v, okL n op b j 0 v = true → v < (n + 1) ^ j → v = (n + 1) ^ j - 1 := by
  induction j with
  | zero => intro v _ hv; rw [Nat.pow_zero] at hv ⊢; omega
  | succ j ih =>
    intro v h hv
    rw [okL_s] at h
    by_cases d : v % (n + 1) = n
    · rw [if_pos d] at h
      have a := ih _ h (dg_lt hv)
      have p : 0 < (n + 1) ^ j := Nat.pow_pos (Nat.succ_pos n)
      have e := Nat.div_add_mod v (n + 1)
      obtain ⟨P, hP⟩ : ∃ P, (n + 1) ^ j = P + 1 := ⟨(n + 1) ^ j - 1, by omega⟩
      rw [d, a, hP, Nat.add_sub_cancel] at e
      rw [Nat.pow_succ, hP, Nat.mul_comm, Nat.mul_succ]
      omega
    · rw [if_neg d, Nat.zero_testBit, Bool.false_and, Bool.false_and] at h
      exact absurd h (by decide)
theorem okL_00 {n : Nat} {op : Nat → Nat → Bool} {b : Nat} (j : Nat) : okL n op b j 0 ((n + 1) ^ j - 1) = true := by
  induction j with
  | zero => rfl
  | succ j ih =>
    have p : 0 < (n + 1) ^ j := Nat.pow_pos (Nat.succ_pos n)
    obtain ⟨P, hP⟩ : ∃ P, (n + 1) ^ j = P + 1 := ⟨(n + 1) ^ j - 1, by omega⟩
    have e : (n + 1) ^ (j + 1) - 1 = (n + 1) * P + n := by
      rw [Nat.pow_succ, hP, Nat.mul_comm, Nat.mul_succ]; omega
    rw [okL_s, e, Nat.mul_add_mod, Nat.mod_eq_of_lt (Nat.lt_succ_self n), if_pos rfl, Nat.mul_add_div (Nat.succ_pos n), Nat.div_eq_of_lt (Nat.lt_succ_self n), Nat.add_zero]
    rw [hP, Nat.add_sub_cancel] at ih
    exact ih
section
variable {F : Nat} {T : Tw} {n : Nat} {mem : Nat → Nat}
theorem u_cP {D : Nat} {S : mS} {a2 a3 a4 : Int32} : fD_X1_canPlace F (D + 1) S 41 a2 a3 a4 371 = if a2 = nI 0 then (some (S, true)) else (if (f_J6_bitCount_0f7a4 S a2) ≤ (a4 - a3) then (lX1_canPlace_32 (fD_X1_canPlace F D) F 41 a2 a3 a4 371 F S (((S.1 41 7) + a3) - ((S.1 41 7) + a3) / (nI 20) * (nI 20)) (nI 0)) else (some (S, false))) := rfl
theorem x1_cp (hF : 20 < F) (hW : Wf T) (hn : n ≤ 7) (hA : asc n mem) (hmem : ∀ i, i < n → mem i < T 0 0) {len : Nat} (hl : len < 100) (m : Nat) : ∀ (b D : Nat) {S : mS} {left U : Nat}, b + m = len → m < D → CT S 41 T → LU n mem left U → Sp n (opM T mem) mem (fD_X1_canPlace F D S 41 (nI left) (nI b) (nI len) 371) S m b U := by
  have w2 := hW.2.2.1
  have z0 : ∀ {left U : Nat}, LU n mem left U → left = 0 → U = 0 := fun {left U} h e => Nat.eq_of_testBit_eq (fun i => by
    rw [Nat.zero_testBit]
    cases q : U.testBit i
    · rfl
    · have := (h.2.2.2 (mem i)).mpr ⟨i, q, rfl⟩
      rw [e, Nat.zero_testBit] at this
      exact absurd this (by decide))
  have zz : ∀ {S : mS} {m b U : Nat}, U = 0 → Sp n (opM T mem) mem (some (S, true)) S m b U := fun {S m b U} e => by
    subst e
    have p : 0 < (n + 1) ^ m := Nat.pow_pos (Nat.succ_pos n)
    refine ⟨S, true, rfl, fun _ _ _ => rfl, Or.inr ⟨rfl, (n + 1) ^ m - 1, by omega, okL_00 m, fun v' hv => ?_, fun i hi => ?_⟩⟩
    · cases q : okL n (opM T mem) b m 0 v'
      · rfl
      · have := okL_0 m v' q (by omega); omega
    · rw [Nat.zero_testBit] at hi; exact absurd hi (by decide)
  induction m with
  | zero =>
    intro b D S left U hb hD hC hL
    obtain ⟨D, rfl⟩ : ∃ k', D = k' + 1 := ⟨D - 1, by omega⟩
    have l7 := hL.1
    by_cases e : left = 0
    · rw [u_cP, e, if_pos rfl]; exact zz (z0 hL e)
    · have pc := hL.pc hA _ rfl
      have p1 : ¬ pcf 20 left = 0 := fun w => e (pcf_zero (k := 20) (by omega) w)
      have pl := pcf_le 20 left
      rw [u_cP, if_neg (nI_neq e (by omega) (by omega)), bc_n (by omega), pk_sub (show b ≤ len by omega), if_neg (nI_ge (by omega) (by omega))]
      refine ⟨S, false, rfl, fun _ _ _ => rfl, Or.inl ⟨rfl, fun v _ => ?_⟩⟩
      show decide (U = 0) = false
      exact decide_eq_false (fun w => p1 (by rw [pc, w]; exact pcf_0 20))
  | succ m ih =>
    intro b D S left U hb hD hC hL
    obtain ⟨D, rfl⟩ : ∃ k', D = k' + 1 := ⟨D - 1, by omega⟩
    have l7 := hL.1
    by_cases e : left = 0
    · rw [u_cP, e, if_pos rfl]; exact zz (z0 hL e)
    · have pc := hL.pc hA _ rfl
      have pl := pcf_le 20 left
      have c7 : S.1 41 7 = nI (T 0 2) := hC.2.2.1
      rw [u_cP, if_neg (nI_neq e (by omega) (by omega)), bc_n (by omega), pk_sub (show b ≤ len by omega)]
      by_cases w : pcf 20 left ≤ len - b
      · rw [if_pos (nI_le w (by omega)), c7, nI_add, nI_rem (by omega) (by omega) (by omega)]
        exact x1_l32 hW hA hmem (fun hC hL => ih (b + 1) D (by omega) (by omega) hC hL) hL 7 0 F 0 (by omega) (by omega) (Nat.zero_le n) (fun i hi => by omega) hC (fun v hv => by rw [Nat.zero_mul] at hv; omega)
      · rw [if_neg (nI_ge (by omega) (by omega))]
        refine ⟨S, false, rfl, fun _ _ _ => rfl, Or.inl ⟨rfl, fun v _ => ?_⟩⟩
        cases q : okL n (opM T mem) b (m + 1) U v
        · rfl
        · have := okL_pc (show n ≤ 20 by omega) (m + 1) U v q; omega
end
