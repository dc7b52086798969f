/-! ===== copies of towns; keeping a step ===== -/
section
variable {F : Nat} {S : mS} {t a n : Nat} {T : Tw}
def rtS (S : mS) (t a n : Nat) : mS := sI (sI (sI (sI (sC (sC (sC (sC S (a + 1) (t + 1) 0 0 n) (a + 2) (t + 2) 0 0 n) (a + 3) (t + 3) 0 0 n) (a + 4) (t + 4) 0 0 40) t 4 (S.1 a 4)) t 6 (S.1 a 6)) t 7 (S.1 a 7)) t 8 (S.1 a 8)
theorem x6_ret (hn : n ≤ 7) (h5 : S.1 a 5 = nI n) (hd : a + 4 < t ∨ t + 4 < a) : f_X6_returnTo F S t a = some (rtS S t a n) := by
  unfold rtS
  rw [u_X6_returnTo, h5]
  simp (disch := omega) only [imin_n, Nat.min_eq_right, cpo_n, ck_t, stp_s, nI_clamp, sC_u, sq_u]
theorem rt_u (u k : Nat) (h : ¬ (t ≤ u ∧ u ≤ t + 4)) : (rtS S t a n).1 u k = S.1 u k := by
  unfold rtS
  simp (disch := omega) only [sC_u, sq_u]
theorem rt_i (i k : Nat) (hd : a + 4 < t ∨ t + 4 < a) (h1 : 1 ≤ i) (h3 : i ≤ 3) : (rtS S t a n).1 (t + i) k = if k < n then S.1 (a + i) k else S.1 (t + i) k := by
  unfold rtS
  rcases (show i = 1 ∨ i = 2 ∨ i = 3 by omega) with rfl | rfl | rfl
  · simp (disch := omega) only [sC_u, sq_u, sC_b]
    unfold va_cpy
    simp (disch := omega) only [Nat.zero_add, Nat.zero_le, true_and, Nat.sub_zero, sC_u]
  · simp (disch := omega) only [sC_u, sq_u, sC_b]
    unfold va_cpy
    simp (disch := omega) only [Nat.zero_add, Nat.zero_le, true_and, Nat.sub_zero, sC_u]
  · simp (disch := omega) only [sC_u, sq_u, sC_b]
    unfold va_cpy
    simp (disch := omega) only [Nat.zero_add, Nat.zero_le, true_and, Nat.sub_zero, sC_u]
theorem rt_4 {k : Nat} (hd : a + 4 < t ∨ t + 4 < a) (hk : k < 40) : (rtS S t a n).1 (t + 4) k = S.1 (a + 4) k := by
  unfold rtS
  simp (disch := omega) only [sC_u, sq_u, sC_b]
  unfold va_cpy
  simp (disch := omega) only [Nat.zero_add, Nat.zero_le, true_and, Nat.sub_zero, sC_u]
  rw [if_pos hk]
theorem rt_s {k : Nat} (h : k = 4 ∨ (6 ≤ k ∧ k ≤ 8)) : (rtS S t a n).1 t k = S.1 a k := by
  unfold rtS
  rcases (show k = 4 ∨ k = 6 ∨ k = 7 ∨ k = 8 by omega) with rfl | rfl | rfl | rfl <;> simp (disch := omega) only [sq_off, sq_hit]
theorem rt_5 : (rtS S t a n).1 t 5 = S.1 t 5 := by
  unfold rtS
  simp (disch := omega) only [sC_u, sq_off]
def cpS (S : mS) (t a n : Nat) : mS := sI (rtS S t a n) t 5 (nI n)
theorem x6_cp (hn : n ≤ 7) (h5 : S.1 a 5 = nI n) (hd : a + 4 < t ∨ t + 4 < a) : f_X6_copyFrom F S t a = some (cpS S t a n) := by
  rw [u_X6_copyFrom, x6_ret hn h5 hd, bd_s, stp_s, rt_u _ _ (by omega), h5]
  rfl
theorem cp_u (u k : Nat) (h : ¬ (t ≤ u ∧ u ≤ t + 4)) : (cpS S t a n).1 u k = S.1 u k := by
  unfold cpS
  rw [sq_u (by omega), rt_u _ _ h]
theorem cp_5 : (cpS S t a n).1 t 5 = nI n := sq_hit _ _ _ _
theorem cp_CT (hW : Wf T) (hC : CT S a T) (hd : a + 4 < t ∨ t + 4 < a) : CT (cpS S t a (T 0 0)) t T := by
  have w4 := hW.2.2.2.2.1
  obtain ⟨h1, h2, h3, h4, h5, h6, h7, h8, h9⟩ := hC
  unfold cpS
  refine ⟨sq_hit _ _ _ _, ?_, ?_, ?_, ?_, fun h hh => ?_, fun h hh => ?_, fun h hh => ?_, fun k hk => ?_⟩
  · rw [sq_off (by omega), rt_s (by omega), h2]
  · rw [sq_off (by omega), rt_s (by omega), h3]
  · rw [sq_off (by omega), rt_s (by omega), h4]
  · rw [sq_off (by omega), rt_s (by omega), h5]
  · rw [sq_u (by omega), rt_i _ _ hd (by omega) (by omega), if_pos hh, h6 h hh]
  · rw [sq_u (by omega), rt_i _ _ hd (by omega) (by omega), if_pos hh, h7 h hh]
  · rw [sq_u (by omega), rt_i _ _ hd (by omega) (by omega), if_pos hh, h8 h hh]
  · rw [sq_u (by omega), rt_4 hd (by omega), h9 k hk]
end
/-- a step kept: the towns kept, their number, the eldest's place -/
def kpP (T : Tw) (P : Nat → Tw) (N : Tw) : Nat → Tw := if N 0 0 < 30 then fun j => if j = N 0 0 then T else P j else fun j => if j = 29 then T else P (j + 1)
def kpN (N : Tw) : Tw := if N 0 0 < 30 then tu N 0 0 (N 0 0 + 1) else tu N 0 1 ((N 0 1 + 1) % 30)
theorem kpN_e {N : Tw} {i j : Nat} (h : i ≠ 0 ∨ 2 ≤ j) : kpN N i j = N i j := by
  unfold kpN
  split
  · exact tu_off (by omega)
  · exact tu_off (by omega)
theorem kpN_0 {N : Tw} (h : N 0 0 ≤ 30) : kpN N 0 0 = if N 0 0 < 30 then N 0 0 + 1 else 30 := by
  unfold kpN
  split
  · exact tu_hit _ _ _ _
  · rw [tu_k (by omega)]; omega
theorem kpN_1 {N : Tw} : kpN N 0 1 = if N 0 0 < 30 then N 0 1 else (N 0 1 + 1) % 30 := by
  unfold kpN
  split
  · exact tu_k (by omega)
  · exact tu_hit _ _ _ _
theorem x7_keep {F : Nat} {S : mS} {T : Tw} {P : Nat → Tw} {N : Tw} (hC : CW S 40 T P N) (hV : WV T P N) : ∃ S', f_X7_keepStep F S 40 = some S' ∧ CW S' 40 T (kpP T P N) (kpN N) ∧ Fc S S' ∧ (∀ u k, (41 ≤ u ∧ u ≤ 45) → S'.1 u k = S.1 u k) := by
  obtain ⟨b0, b1, b2, b5, b3, b4⟩ := hV.2.2.1
  have w0 := hV.1.1
  obtain ⟨h1, h2, h3, ⟨h4, h5, h6, h7, h8, h9⟩, h10, h11⟩ := hC
  have c5 : S.1 41 5 = nI (T 0 0) := h1.1
  have hi : (N 0 1 + N 0 0) % 30 < 30 := Nat.mod_lt _ (by omega)
  let c := 40 + 6 + 6 + 5 * ((N 0 1 + N 0 0) % 30)
  have hc : c = 52 + 5 * ((N 0 1 + N 0 0) % 30) := by show 40 + 6 + 6 + 5 * ((N 0 1 + N 0 0) % 30) = _; omega
  have e3 : (cpS S c 41 (T 0 0)).1 40 3 = nI (N 0 0) := (cp_u _ _ (by omega)).trans h5
  have e2 : (cpS S c 41 (T 0 0)).1 40 2 = nI (N 0 1) := (cp_u _ _ (by omega)).trans h4
  have u : f_X7_keepStep F S 40 = if 30 ≤ N 0 0 then some (sI (cpS S c 41 (T 0 0)) 40 2 (nI ((N 0 1 + 1) % 30))) else some (sI (cpS S c 41 (T 0 0)) 40 3 (nI (N 0 0 + 1))) := by
    rw [u_X7_keepStep, h4, h5, nI_add, pk_rem (by omega) (by omega) (by omega), inb_n hi (by omega), ck_t, nI_clamp (by omega), x6_cp w0 c5 (by omega), bd_s]
    show (if nI 30 ≤ (cpS S c 41 (T 0 0)).1 40 3 then stp (sI (cpS S c 41 (T 0 0)) 40 2 _) _ else stp (sI (cpS S c 41 (T 0 0)) 40 3 _) _) = _
    rw [e3, e2, nI_add, nI_add, pk_rem (by omega) (by omega) (by omega), stp_s, stp_s]
    simp (disch := omega) only [nI_leI]
  rw [u]
  by_cases q : 30 ≤ N 0 0
  · rw [if_pos q]
    refine ⟨_, rfl, ⟨?_, fun j hj => ?_, fun i hi => ?_, ⟨?_, ?_, ?_, ?_, ?_, ?_⟩, fun k hk => ?_, fun k hk => ?_⟩, fun u k hu => ?_, fun u k hu => ?_⟩
    · exact h1.fr (fun u k a b => by rw [sq_u (by omega), cp_u _ _ (by omega)])
    · rw [kpN_0 b0, if_neg (by omega)] at hj
      rw [kpN_1, if_neg (by omega)]
      unfold kpP
      rw [if_neg (by omega)]
      show CT _ _ (if j = 29 then T else P (j + 1))
      by_cases z : j = 29
      · rw [if_pos z]
        have := (cp_CT hV.1 h1 (t := c) (by omega)).fr (S' := sI (cpS S c 41 (T 0 0)) 40 2 (nI ((N 0 1 + 1) % 30))) (fun u k a b => by rw [sq_u (by omega)])
        rw [show 40 + 12 + 5 * (((N 0 1 + 1) % 30 + j) % 30) = c by omega]
        exact this
      · rw [if_neg z]
        have := h2 (j + 1) (by omega)
        rw [show 40 + 12 + 5 * (((N 0 1 + 1) % 30 + j) % 30) = 40 + 12 + 5 * ((N 0 1 + (j + 1)) % 30) by omega]
        exact this.fr (fun u k a b => by rw [sq_u (by omega), cp_u _ _ (by omega)])
    · by_cases z : 40 + 12 + 5 * i = c
      · rw [z, sq_u (by omega)]
        exact ⟨T 0 0, w0, cp_5⟩
      · rw [sq_u (by omega), cp_u _ _ (by omega)]
        exact h3 i hi
    · rw [kpN_1, if_neg (by omega)]; exact sq_hit _ _ _ _
    · rw [kpN_0 b0, if_neg (by omega), sq_off (by omega), cp_u _ _ (by omega), h5]
      exact congrArg nI (by omega)
    · rw [kpN_e (by omega), sq_off (by omega), cp_u _ _ (by omega), h6]
    · rw [kpN_e (by omega), sq_off (by omega), cp_u _ _ (by omega), h7]
    · rw [kpN_e (by omega), sq_off (by omega), cp_u _ _ (by omega), h8]
    · rw [kpN_e (by omega), sq_off (by omega), cp_u _ _ (by omega), h9]
    · rw [kpN_e (by omega)] at hk
      simp (disch := omega) only [kpN_e, sq_u, cp_u]
      exact h10 k hk
    · rw [kpN_e (by omega)] at hk
      simp (disch := omega) only [kpN_e, sq_u, cp_u]
      exact h11 k hk
    · rw [sq_u (by omega), cp_u _ _ (by omega)]
    · rw [sq_u (by omega), cp_u _ _ (by omega)]
  · rw [if_neg q]
    refine ⟨_, rfl, ⟨?_, fun j hj => ?_, fun i hi => ?_, ⟨?_, ?_, ?_, ?_, ?_, ?_⟩, fun k hk => ?_, fun k hk => ?_⟩, fun u k hu => ?_, fun u k hu => ?_⟩
    · exact h1.fr (fun u k a b => by rw [sq_u (by omega), cp_u _ _ (by omega)])
    · rw [kpN_0 b0, if_pos (by omega)] at hj
      rw [kpN_1, if_pos (by omega)]
      unfold kpP
      rw [if_pos (by omega)]
      show CT _ _ (if j = N 0 0 then T else P j)
      by_cases z : j = N 0 0
      · rw [if_pos z]
        have := (cp_CT hV.1 h1 (t := c) (by omega)).fr (S' := sI (cpS S c 41 (T 0 0)) 40 3 (nI (N 0 0 + 1))) (fun u k a b => by rw [sq_u (by omega)])
        rw [show 40 + 12 + 5 * ((N 0 1 + j) % 30) = c by omega]
        exact this
      · rw [if_neg z]
        exact (h2 j (by omega)).fr (fun u k a b => by rw [sq_u (by omega), cp_u _ _ (by omega)])
    · by_cases z : 40 + 12 + 5 * i = c
      · rw [z, sq_u (by omega)]
        exact ⟨T 0 0, w0, cp_5⟩
      · rw [sq_u (by omega), cp_u _ _ (by omega)]
        exact h3 i hi
    · rw [kpN_1, if_pos (by omega), sq_off (by omega), cp_u _ _ (by omega), h4]
    · rw [kpN_0 b0, if_pos (by omega)]; exact sq_hit _ _ _ _
    · rw [kpN_e (by omega), sq_off (by omega), cp_u _ _ (by omega), h6]
    · rw [kpN_e (by omega), sq_off (by omega), cp_u _ _ (by omega), h7]
    · rw [kpN_e (by omega), sq_off (by omega), cp_u _ _ (by omega), h8]
    · rw [kpN_e (by omega), sq_off (by omega), cp_u _ _ (by omega), h9]
    · rw [kpN_e (by omega)] at hk
      simp (disch := omega) only [kpN_e, sq_u, cp_u]
      exact h10 k hk
    · rw [kpN_e (by omega)] at hk
      simp (disch := omega) only [kpN_e, sq_u, cp_u]
      exact h11 k hk
    · rw [sq_u (by omega), cp_u _ _ (by omega)]
    · rw [sq_u (by omega), cp_u _ _ (by omega)]
theorem kp_WV {T : Tw} {P : Nat → Tw} {N : Tw} (h : WV T P N) : WV T (kpP T P N) (kpN N) := by
  obtain ⟨h1, h2, ⟨a1, a2, a3, a4, a5, a6⟩, h4, h5, h6⟩ := h
  have k0 := kpN_0 (N := N) a1
  refine ⟨h1, fun j hj => ?_, ⟨?_, ?_, ?_, ?_, ?_, ?_⟩, fun k hk => ?_, fun k hk => ?_, fun j hj => ?_⟩
  · rw [k0] at hj
    unfold kpP
    by_cases q : N 0 0 < 30
    · rw [if_pos q] at hj ⊢
      show Wf (if j = N 0 0 then T else P j)
      split
      · exact h1
      · exact h2 j (by omega)
    · rw [if_neg q] at hj ⊢
      show Wf (if j = 29 then T else P (j + 1))
      split
      · exact h1
      · exact h2 (j + 1) (by omega)
  · rw [k0]; split <;> omega
  · rw [kpN_1]; split <;> omega
  · rw [kpN_e (by omega)]; exact a3
  · rw [kpN_e (by omega), kpN_e (by omega)]; exact a4
  · rw [kpN_e (by omega)]; exact a5
  · rw [kpN_e (by omega)]; exact a6
  · rw [kpN_e (by omega)] at hk
    simp (disch := omega) only [kpN_e]
    exact h4 k hk
  · rw [kpN_e (by omega)] at hk
    simp (disch := omega) only [kpN_e]
    exact h5 k hk
  · have at' : ∀ U V, AsTold U V N → AsTold U V (kpN N) := fun U V q => ⟨q.1, fun h x y => by
      simp (disch := omega) only [kpN_e]
      exact q.2 h x y⟩
    refine at' _ _ ?_
    have self : AsTold T T N := ⟨Nat.le_refl _, fun h x y => by omega⟩
    rw [k0] at hj ⊢
    by_cases q : N 0 0 < 30
    · rw [if_pos q] at hj ⊢
      unfold nxt kpP
      rw [if_pos q]
      show AsTold (if j = N 0 0 then T else P j) (if j + 1 < N 0 0 + 1 then (if j + 1 = N 0 0 then T else P (j + 1)) else T) N
      by_cases z : j = N 0 0
      · rw [if_pos z, if_neg (by omega)]; exact self
      · rw [if_neg z, if_pos (by omega)]
        have y := h6 j (by omega)
        unfold nxt at y
        by_cases z2 : j + 1 = N 0 0
        · rw [if_pos z2]
          rw [if_neg (by omega)] at y
          exact y
        · rw [if_neg z2]
          rw [if_pos (by omega)] at y
          exact y
    · rw [if_neg q] at hj ⊢
      unfold nxt kpP
      rw [if_neg q]
      show AsTold (if j = 29 then T else P (j + 1)) (if j + 1 < 30 then (if j + 1 = 29 then T else P (j + 1 + 1)) else T) N
      by_cases z : j = 29
      · rw [if_pos z, if_neg (by omega)]; exact self
      · rw [if_neg z, if_pos (by omega)]
        have y := h6 (j + 1) (by omega)
        unfold nxt at y
        by_cases z2 : j + 1 = 29
        · rw [if_pos z2]
          rw [if_neg (by omega)] at y
          exact y
        · rw [if_neg z2]
          rw [if_pos (by omega)] at y
          exact y
