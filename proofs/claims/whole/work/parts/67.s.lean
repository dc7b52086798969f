/-! ===== image, back ===== -/
def cpT (S : mS) (t a : Nat) : Nat → mS
  | 0 => S
  | i + 1 => cpS (cpT S t a i) (t + 12 + 5 * i) (a + 12 + 5 * i) (S.1 (a + 12 + 5 * i) 5).toNatClampNeg
section
variable {F : Nat} {S : mS} {t a : Nat}
theorem cpT_u (S : mS) : ∀ i u k, u < t + 12 ∨ t + 12 + 5 * i ≤ u → (cpT S t a i).1 u k = S.1 u k
  | 0, _, _, _ => rfl
  | i + 1, u, k, h => by
    show (cpS (cpT S t a i) _ _ _).1 u k = _
    rw [cp_u _ _ (by omega), cpT_u S i u k (by omega)]
theorem cpT_done (hd : a + 161 < t ∨ t + 161 < a) (h30 : ∀ i, i < 30 → ∃ n, n ≤ 7 ∧ S.1 (a + 12 + 5 * i) 5 = nI n) : ∀ i, i ≤ 30 → ∀ m, m < i → (∃ n, n ≤ 7 ∧ (cpT S t a i).1 (t + 12 + 5 * m) 5 = nI n) ∧ ∀ U, Wf U → CT S (a + 12 + 5 * m) U → CT (cpT S t a i) (t + 12 + 5 * m) U
  | 0, _, m, hm => absurd hm (Nat.not_lt_zero m)
  | i + 1, hi, m, hm => by
    obtain ⟨n, hn, en⟩ := h30 i (by omega)
    have e : (S.1 (a + 12 + 5 * i) 5).toNatClampNeg = n := by rw [en, nI_clamp (by omega)]
    by_cases q : m = i
    · subst q
      refine ⟨⟨n, hn, ?_⟩, fun U hU hC => ?_⟩
      · show (cpS (cpT S t a m) _ _ _).1 _ 5 = _
        rw [cp_5, e]
      · show CT (cpS (cpT S t a m) _ _ _) _ U
        have e2 : n = U 0 0 := (nI_eq (by omega) (by have := hU.1; omega)).mp (en.symm.trans hC.1)
        rw [e, e2]
        exact cp_CT hU (hC.fr (fun u k x y => cpT_u S m u k (by omega))) (by omega)
    · obtain ⟨⟨n2, hn2, en2⟩, h2⟩ := cpT_done hd h30 i (by omega) m (by omega)
      refine ⟨⟨n2, hn2, ?_⟩, fun U hU hC => (h2 U hU hC).fr (fun u k x y => ?_)⟩
      · show (cpS (cpT S t a i) _ _ _).1 _ 5 = _
        rw [cp_u _ _ (by omega), en2]
      · show (cpS (cpT S t a i) _ _ _).1 u k = _
        exact cp_u _ _ (by omega)
def cpL (S S0 : mS) (t a : Nat) : mS := sI (sC (sC (sI (sC (sC (sC (sI (sI (sI (sI S t 2 (S0.1 a 2)) t 3 (S0.1 a 3)) t 4 (S0.1 a 4)) t 5 (S0.1 a 5)) (a + 7) (t + 7) 0 0 8) (a + 8) (t + 8) 0 0 8) (a + 9) (t + 9) 0 0 8) t 9 (S0.1 a 9)) (a + 10) (t + 10) 0 0 8) (a + 11) (t + 11) 0 0 8) t 12 (S0.1 a 12)
theorem x7_c13 (hF : 40 < F) (hd : a + 161 < t ∨ t + 161 < a) (h30 : ∀ i, i < 30 → ∃ n, n ≤ 7 ∧ S.1 (a + 12 + 5 * i) 5 = nI n) : lX7_copyFrom_13 F t a F S (nI 0) = some (cpL (cpT S t a 30) S t a) := by
  refine up_l (fun k i => lX7_copyFrom_13 F t a k (cpT S t a i) (nI i)) _ 30 (fun k => ?_) (fun k i hi => ?_) F 0 (by omega) (by omega)
  · show lX7_copyFrom_13 F t a (k + 1) _ _ = _
    have e : ∀ k, (cpT S t a 30).1 a k = S.1 a k := fun k => cpT_u S 30 a k (by omega)
    unfold cpL
    rw [u_X7_copyFrom_13, if_pos (nI_le (Nat.le_refl _) (by omega))]
    simp (disch := omega) only [↓stp_s, cpo_n, ck_t, nI_clamp, sq_u, sC_u, e]
  · show lX7_copyFrom_13 F t a (k + 1) _ _ = lX7_copyFrom_13 F t a k (cpT S t a (i + 1)) (nI (i + 1))
    obtain ⟨n, hn, en⟩ := h30 i hi
    have e : (S.1 (a + 12 + 5 * i) 5).toNatClampNeg = n := by rw [en, nI_clamp (by omega)]
    have e2 : (cpT S t a i).1 (a + 12 + 5 * i) 5 = nI n := by rw [cpT_u S i _ _ (by omega), en]
    rw [u_X7_copyFrom_13, if_neg (nI_ge hi (by omega)), inb_n (by omega) (by omega), ck_t, ck_t, nI_clamp (by omega), show t + 6 + 6 + 5 * i = t + 12 + 5 * i by omega, show a + 6 + 6 + 5 * i = a + 12 + 5 * i by omega, x6_cp hn e2 (by omega), bd_s, nI_add]
    show _ = lX7_copyFrom_13 F t a k (cpS (cpT S t a i) (t + 12 + 5 * i) (a + 12 + 5 * i) (S.1 (a + 12 + 5 * i) 5).toNatClampNeg) (nI (i + 1))
    rw [e]
theorem va_8 {f g : Nat → Int32} {k : Nat} (h : k < 8) : va_cpy f g 0 0 8 k = f k := by
  unfold va_cpy
  rw [if_pos (by omega), Nat.zero_add, Nat.sub_zero]
theorem x7_copy (hF : 40 < F) (hd : a + 161 < t ∨ t + 161 < a) {T : Tw} {P : Nat → Tw} {N : Tw} (hC : CW S a T P N) (hV : WV T P N) : ∃ S', f_X7_copyFrom F S t a = some S' ∧ CW S' t T P N ∧ ∀ u k, u < t ∨ t + 161 < u → S'.1 u k = S.1 u k := by
  obtain ⟨b0, b1, b2, b5, b3, b4⟩ := hV.2.2.1
  have w0 := hV.1.1
  obtain ⟨h1, h2, h3, ⟨h4, h5, h6, h7, h8, h9⟩, h10, h11⟩ := hC
  let S0 := cpS S (t + 1) (a + 1) (T 0 0)
  have e0 : ∀ u k, ¬ (t + 1 ≤ u ∧ u ≤ t + 5) → S0.1 u k = S.1 u k := fun u k h => cp_u _ _ (by omega)
  have h30 : ∀ i, i < 30 → ∃ n, n ≤ 7 ∧ S0.1 (a + 12 + 5 * i) 5 = nI n := fun i hi => by rw [e0 _ _ (by omega)]; exact h3 i hi
  have u1 : f_X7_copyFrom F S t a = some (cpL (cpT S0 t a 30) S0 t a) := by
    rw [u_X7_copyFrom, x6_cp w0 h1.1 (by omega), bd_s]
    exact x7_c13 hF hd h30
  have eT : ∀ u k, u < t + 12 ∨ t + 162 ≤ u → (cpT S0 t a 30).1 u k = S0.1 u k := fun u k h => cpT_u S0 30 u k (by omega)
  have eL : ∀ u k, (u ≠ t ∧ (u < t + 7 ∨ t + 11 < u)) → (cpL (cpT S0 t a 30) S0 t a).1 u k = (cpT S0 t a 30).1 u k := fun u k h => by
    unfold cpL
    simp (disch := omega) only [sq_u, sC_u]
  refine ⟨_, u1, ⟨?_, fun j hj => ?_, fun i hi => ?_, ⟨?_, ?_, ?_, ?_, ?_, ?_⟩, fun k hk => ?_, fun k hk => ?_⟩, fun u k h => ?_⟩
  · refine (cp_CT hV.1 h1 (t := t + 1) (by omega)).fr (fun u k x y => ?_)
    rw [eL _ _ (by omega), eT _ _ (by omega)]
  · have hm : (N 0 1 + j) % 30 < 30 := Nat.mod_lt _ (by omega)
    refine (((cpT_done hd h30 30 (by omega) ((N 0 1 + j) % 30) hm).2 (P j) (hV.2.1 j hj) ((h2 j hj).fr (fun u k x y => e0 _ _ (by omega)))).fr (fun u k x y => eL _ _ (by omega)))
  · obtain ⟨n, hn, en⟩ := (cpT_done hd h30 30 (by omega) i hi).1
    exact ⟨n, hn, by rw [eL _ _ (by omega), en]⟩
  · unfold cpL
    simp (disch := omega) only [sC_u, sq_off, sq_hit]
    rw [e0 _ _ (by omega), h4]
  · unfold cpL
    simp (disch := omega) only [sC_u, sq_off, sq_hit]
    rw [e0 _ _ (by omega), h5]
  · unfold cpL
    simp (disch := omega) only [sC_u, sq_off, sq_hit]
    rw [e0 _ _ (by omega), h6]
  · unfold cpL
    simp (disch := omega) only [sC_u, sq_off, sq_hit]
    rw [e0 _ _ (by omega), h7]
  · unfold cpL
    simp (disch := omega) only [sC_u, sq_off, sq_hit]
    rw [e0 _ _ (by omega), h8]
  · unfold cpL
    simp (disch := omega) only [sC_u, sq_off, sq_hit]
    rw [e0 _ _ (by omega), h9]
  · unfold cpL
    simp (disch := omega) only [sC_u, sq_u, sC_b, va_8, eT, e0]
    exact h10 k hk
  · unfold cpL
    simp (disch := omega) only [sC_u, sq_u, sC_b, va_8, eT, e0]
    exact h11 k hk
  · rw [eL _ _ (by omega), eT _ _ (by omega), e0 _ _ (by omega)]
theorem x9_cpy (hF : 3000 < F) {c d : Nat} (hcd : c ≠ d) : f_X9_copy F S c d = some (sF S d (fillg (S.1 d) (S.1 c) 0 (fun k => k) 2308)) := by
  rw [u_X9_copy]
  have h := up_l (fun k i => lX9_copy_2 F c d k (sF S d (fillg (S.1 d) (S.1 c) 0 (fun k => k) i)) (nI i)) (some (sF S d (fillg (S.1 d) (S.1 c) 0 (fun k => k) 2308))) 2308 (fun k => ?_) (fun k i hi => ?_) F 0 (by omega) (by omega)
  · rw [fg_0, ← sF_e] at h
    exact h
  · show lX9_copy_2 F c d (k + 1) _ _ = _
    rw [u_X9_copy_2, if_pos (nI_le (Nat.le_refl _) (by omega))]
  · show lX9_copy_2 F c d (k + 1) _ _ = lX9_copy_2 F c d k _ _
    rw [u_X9_copy_2, if_neg (nI_ge hi (by omega)), inb_n (by omega) (by omega), ck_t, ck_t, nI_clamp (by omega), sF_u hcd, stp_s, fg_s (Nat.zero_add i).symm rfl, nI_add]
end
theorem TF.fr2 {S S' : mS} (h : TF S) (e : ∀ u k, (u ≤ 36 ∨ u = 379 ∨ (u = 375 ∧ 4 ≤ k ∧ k ≤ 6)) → S'.1 u k = S.1 u k) : TF S' := by
  have a0 : ∀ u k, u ≤ 36 → S'.1 u k = S.1 u k := fun u k hu => e _ _ (Or.inl hu)
  have a1 : ∀ k, S'.1 379 k = S.1 379 k := fun k => e _ _ (by omega)
  unfold TF at *
  rw [a0 0 1 (by omega), a0 0 2 (by omega), a0 2 1 (by omega), a0 2 2 (by omega), e 375 4 (by omega), e 375 5 (by omega), e 375 6 (by omega)]
  have b1 : ∀ k, S'.1 1 k = S.1 1 k := fun k => a0 1 k (by omega)
  have b2 : ∀ k, S'.1 34 k = S.1 34 k := fun k => a0 34 k (by omega)
  have b3 : ∀ k, S'.1 35 k = S.1 35 k := fun k => a0 35 k (by omega)
  simp only [a1, b1, b2, b3]
  exact h
theorem RW.cp {S S' : mS} {c d : Nat} {T : Tw} {P : Nat → Tw} {N : Tw} (hV : WV T P N) (h : RW S c T P N) (e : ∀ k, k < 2308 → S'.1 d k = S.1 c k) : RW S' d T P N := by
  obtain ⟨b0, b1, b2, b5, b3, b4⟩ := hV.2.2.1
  have w0 := hV.1.1
  have w4 := hV.1.2.2.2.2.1
  obtain ⟨⟨g1, g2, g3, g4, g5, g6, g7, g8, g9⟩, h2, ⟨h4, h5, h6, h7, h8⟩, h10, h11, h12⟩ := h
  refine ⟨⟨?_, ?_, ?_, ?_, fun i hi => ?_, fun i hi => ?_, fun i hi => ?_, fun i hi => ?_, fun i hi => ?_⟩, fun j hj => ?_, ⟨?_, ?_, ?_, ?_, ?_⟩, fun k hk => ?_, fun k hk => ?_, fun k hk => ?_⟩
  · rw [e _ (by omega)]; exact g1
  · rw [e _ (by omega)]; exact g2
  · rw [e _ (by omega)]; exact g3
  · rw [e _ (by omega)]; exact g4
  · rw [e _ (by omega)]; exact g5 i hi
  · rw [e _ (by omega)]; exact g6 i hi
  · rw [e _ (by omega)]; exact g7 i hi
  · rw [e _ (by omega)]; exact g8 i hi
  · rw [e _ (by omega)]; exact g9 i hi
  · have wj := hV.2.1 j hj
    have wj0 := wj.1
    have wj4 := wj.2.2.2.2.1
    obtain ⟨y1, y2, y3, y4, y5, y6⟩ := h2 j hj
    refine ⟨?_, ?_, ?_, ?_, fun h hh => ⟨?_, ?_, ?_, ?_⟩, fun k hk => ?_⟩ <;> rw [e _ (by omega)]
    · exact y1
    · exact y2
    · exact y3
    · exact y4
    · exact (y5 h hh).1
    · exact (y5 h hh).2.1
    · exact (y5 h hh).2.2.1
    · exact (y5 h hh).2.2.2
    · exact y6 k hk
  · rw [e _ (by omega)]; exact h4
  · rw [e _ (by omega)]; exact h5
  · rw [e _ (by omega)]; exact h6
  · rw [e _ (by omega)]; exact h7
  · rw [e _ (by omega)]; exact h8
  · rw [e _ (by omega), e _ (by omega), e _ (by omega)]; exact h10 k hk
  · rw [e _ (by omega), e _ (by omega)]; exact h11 k hk
  · rw [e _ (by omega), e _ (by omega), e _ (by omega)]; exact h12 k hk
theorem st_image : ∀ S, Inv S → Step μX8_image μX9_image Inv S [] := by
  intro S hI
  obtain ⟨T, P, N, T1, P1, N1, E, hCW, hRW, hWV, hC1, hR1, hV1, hle, hT, hTF⟩ := hI
  have x2 := hWV.2.2.1
  obtain ⟨F, hF⟩ := big_F
  obtain ⟨S1, u1, c1, f1⟩ := x7_copy (F := F) (t := 202) (a := 40) (by omega) (by omega) hCW hWV
  have h1 : f_X8_image F S 0 = some (S1, nI (T 0 2)) := by
    rw [u_X8_image, u1, bd_s, f1 41 7 (by omega)]
    exact congrArg (fun z => some (S1, z)) hCW.1.2.2.1
  let S2 := sF S1 377 (fillg (S1.1 377) (S1.1 376) 0 (fun k => k) 2308)
  have f2 : ∀ u k, u ≠ 377 → S2.1 u k = S1.1 u k := fun u k h => sF_u h
  have h2 : f_X9_image F S1 375 = some (S2, nI (T 0 2)) := by
    rw [u_X9_image, x9_cpy (by omega) (by decide), bd_s, inb_n (by omega) (by omega), ck_t, nI_clamp (by omega)]
    have : S2.1 376 8 = nI (T 0 2) := by rw [f2 _ _ (by decide), f1 _ _ (by omega)]; exact hRW.1.2.1
    exact congrArg (fun z => some (S2, z)) this
  refine stepW (S1 := S1) (S2 := S2) (r := nI (T 0 2)) (c_X8_image k_0 h1) (c_X9_image k_375 h2) ⟨T, P, N, T, P, N, E, hCW.fr (fun u k a b => ?_), hRW.fr (fun k => ?_), hWV, c1.fr (fun u k a b => f2 _ _ (by omega)), hRW.cp hWV (fun k hk => ?_), hWV, Nat.le_refl _, fun i hi => (hT i hi).fr (by omega) (fun u k a b => ?_) (fun k => ?_), hTF.fr2 (S' := S2) (fun u k c => ?_)⟩ (by decide) (by decide)
  · rw [f2 _ _ (by omega), f1 _ _ (by omega)]
  · rw [f2 _ _ (by decide), f1 _ _ (by omega)]
  · show (sF S1 377 _).1 377 k = _
    rw [sF_c, fg_in (by omega) (by omega)]
    exact f1 _ _ (by omega)
  · rw [f2 _ _ (by omega), f1 _ _ (by omega)]
  · rw [f2 _ _ (by decide), f1 _ _ (by omega)]
  · rw [f2 _ _ (by omega), f1 _ _ (by omega)]
theorem st_back : ∀ S, Inv S → Step μX8_back μX9_back Inv S [] := by
  intro S hI
  obtain ⟨T, P, N, T1, P1, N1, E, hCW, hRW, hWV, hC1, hR1, hV1, hle, hT, hTF⟩ := hI
  have x2 := hWV.2.2.1
  obtain ⟨F, hF⟩ := big_F
  obtain ⟨S1, u1, c1, f1⟩ := x7_copy (F := F) (t := 40) (a := 202) (by omega) (by omega) hC1 hV1
  have h1 : f_X8_back F S 0 = some (S1, nI (T1 0 2)) := by
    rw [u_X8_back, u1, bd_s]
    exact congrArg (fun z => some (S1, z)) c1.1.2.2.1
  let S2 := sF S1 376 (fillg (S1.1 376) (S1.1 377) 0 (fun k => k) 2308)
  have f2 : ∀ u k, u ≠ 376 → S2.1 u k = S1.1 u k := fun u k h => sF_u h
  have r2 : RW S2 376 T1 P1 N1 := hR1.cp hV1 (fun k hk => by
    show (sF S1 376 _).1 376 k = _
    rw [sF_c, fg_in (by omega) (by omega)]
    exact f1 _ _ (by omega))
  have h2 : f_X9_back F S1 375 = some (S2, nI (T1 0 2)) := by
    rw [u_X9_back, x9_cpy (by omega) (by decide), bd_s, inb_n (by omega) (by omega), ck_t, nI_clamp (by omega)]
    exact congrArg (fun z => some (S2, z)) r2.1.2.1
  refine stepW (S1 := S1) (S2 := S2) (r := nI (T1 0 2)) (c_X8_back k_0 h1) (c_X9_back k_375 h2) ⟨T1, P1, N1, T1, P1, N1, E, c1.fr (fun u k a b => f2 _ _ (by omega)), r2, hV1, hC1.fr (fun u k a b => ?_), hR1.fr (fun k => ?_), hV1, Nat.le_refl _, fun i hi => (hT i (by omega)).fr (by omega) (fun u k a b => ?_) (fun k => ?_), hTF.fr2 (S' := S2) (fun u k c => ?_)⟩ (by decide) (by decide)
  · rw [f2 _ _ (by omega), f1 _ _ (by omega)]
  · rw [f2 _ _ (by decide), f1 _ _ (by omega)]
  · rw [f2 _ _ (by omega), f1 _ _ (by omega)]
  · rw [f2 _ _ (by decide), f1 _ _ (by omega)]
  · rw [f2 _ _ (by omega), f1 _ _ (by omega)]
