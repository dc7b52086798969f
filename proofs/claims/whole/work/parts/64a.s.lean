/-! ===== the small writers: seen, gossip, end, feed ===== -/
theorem dat_c (S : mS) (a : Int32) : f_X8_isWithin S a (nI 0) (nI 19) = false ∨ ∃ d, d < 20 ∧ a = nI d ∧ f_X8_isWithin S a (nI 0) (nI 19) = true := by
  rcases win_c (S := S) a 0 19 (by omega) (by omega) with h | ⟨d, _, h2, h3, h4⟩
  · exact Or.inl h
  · exact Or.inr ⟨d, (by omega), h3, h4⟩
theorem st_seen : ∀ S, Inv S → ∀ a1 a2 a3, Step μX8_seen μX9_seen Inv S [.int a1, .int a2, .int (zb a3)] := by
  intro S hI a b c
  obtain ⟨T, P, N, T1, P1, N1, E, hI⟩ := hI
  have hCW := hI.1
  have hRW := hI.2.1
  have hWV := hI.2.2.1
  have hW := hWV.1
  have w0 := hW.1
  obtain ⟨b0, b1, b2, b5, b3, b4⟩ := hWV.2.2.1
  obtain ⟨g2, g3, g4, g5, g9, g12⟩ := hCW.2.2.2.1
  obtain ⟨q1, q2, q3, q4, q5⟩ := hRW.2.2.1
  have nop : ∀ r, f_X8_seen 0 S 0 a b (zb c) = some (S, r) → f_X9_seen 0 S 375 a b (zb c) = some (S, r) → Step μX8_seen μX9_seen Inv S [.int a, .int b, .int (zb c)] := fun r h1 h2 => stepR ⟨T, P, N, T1, P1, N1, E, hI⟩ (c_X8_seen k_0 h1) (c_X9_seen k_375 h2) (by decide) (by decide)
  by_cases e : a = -1
  · have h1 : f_X8_seen 0 S 0 a b (zb c) = some (sI S 40 9 (nI 0), nI 0) := by rw [u_X8_seen, if_pos e]; rfl
    have h2 : f_X9_seen 0 (sI S 40 9 (nI 0)) 375 a b (zb c) = some (sI (sI S 40 9 (nI 0)) 376 4 (nI 0), nI 0) := by rw [u_X9_seen, if_pos e, inb_n (by omega) (by omega), ck_t, nI_clamp (by omega)]; rfl
    have fc : Fc S (sI S 40 9 (nI 0)) := fc_sI (by omega)
    refine stepN (S1 := sI S 40 9 (nI 0)) (S2 := sI (sI S 40 9 (nI 0)) 376 4 (nI 0)) (P' := P) (N' := tu N 0 3 0) hI (c_X8_seen k_0 h1) (c_X9_seen k_375 h2) (hCW.n rfl rfl b1 (fun u k c => sq_off (by omega)) ⟨g4, g5, rfl, g12⟩ (fun k hk => absurd hk (Nat.not_lt_zero k)) hCW.2.2.2.2.2) fc ((hRW.fc fc).n hWV rfl (fun k => ⟨rfl, rfl, rfl⟩) (fun k c => sq_off (by omega)) ⟨q1, q2, rfl, q5⟩ (fun k hk => absurd hk (Nat.not_lt_zero k)) (fun k hk => ?_)) fr_sI (hWV.n rfl rfl (fun k => ⟨rfl, rfl, rfl⟩) ⟨b2, b5, Nat.zero_le _, b4⟩ (fun k hk => absurd hk (Nat.not_lt_zero k)) hWV.2.2.2.2.1) rfl (by decide) (by decide)
    simp (disch := omega) only [sq_hit, sq_off, tu_hit, tu_off]; exact hRW.2.2.2.2.1 k hk
  rcases tld_c a (n := T 0 0) (by omega) with z | ⟨h, hh, rfl, z⟩
  · refine nop (-2) ?_ ?_
    · rw [u_X8_seen, if_neg e, x6_told hCW.1 hW, z]; rfl
    · rw [u_X9_seen, if_neg e, x9_isHouse hRW.1 hW, z]; rfl
  rcases dat_c S b with z2 | ⟨d, hd, rfl, z2⟩
  · refine nop (-2) ?_ ?_
    · rw [u_X8_seen, if_neg e, x6_told hCW.1 hW, z, u_X8_isDate, z2]; rfl
    · rw [u_X9_seen, if_neg e, x9_isHouse hRW.1 hW, z, x9_isIn, z2]; rfl
  by_cases z3 : N 0 3 = 8
  · refine nop (-2) ?_ ?_
    · rw [u_X8_seen, if_neg e, x6_told hCW.1 hW, z, u_X8_isDate, z2, g9, if_pos rfl, if_pos rfl, if_neg (nI_nlt (by omega) (by omega))]
    · rw [u_X9_seen, if_neg e, x9_isHouse hRW.1 hW, z, x9_isIn, z2, bd_s, if_pos rfl, if_pos rfl, inb_n (by omega) (by omega), ck_t, nI_clamp (by omega), q4, z3, if_pos rfl]
  · obtain ⟨s, hs, hsn⟩ : ∃ s, s < 2 ∧ zb c = nI s := by
      rcases zb_c c with q | q
      · exact ⟨0, (by omega), q⟩
      · exact ⟨1, (by omega), q⟩
    rw [hsn] at nop ⊢
    have hn : (N 0 3) < 8 := by omega
    have h1 : f_X8_seen 0 S 0 (nI h) (nI d) (nI s) = some (sI (sI (sI (sI S 47 (N 0 3) (nI h)) 48 (N 0 3) (nI d)) 49 (N 0 3) (nI s)) 40 9 (nI ((N 0 3) + 1)), nI ((N 0 3) + 1)) := by
      rw [u_X8_seen, if_neg e, x6_told hCW.1 hW, z, u_X8_isDate, z2, if_pos rfl, if_pos rfl]
      rcases (show s = 0 ∨ s = 1 by omega) with rfl | rfl
      · simp (disch := omega) only [sq_hit, sq_off, g9, ck_t, bd_s, ↓stp_s, inb_n, nI_clamp, nI_add, pk_mul, pk_div, pk_sub, nrem, nI_leI, nI_ltI, nI_eq, n_m1, m1_n, m1_lt, n_lt_m1, n_le_m1, m1_le, m1_e1, m2_n, if_true, if_false, if_pos, if_neg]
      · simp (disch := omega) only [sq_hit, sq_off, g9, ck_t, bd_s, ↓stp_s, inb_n, nI_clamp, nI_add, pk_mul, pk_div, pk_sub, nrem, nI_leI, nI_ltI, nI_eq, n_m1, m1_n, m1_lt, n_lt_m1, n_le_m1, m1_le, m1_e1, m2_n, if_true, if_false, if_pos, if_neg]
    have h2 : ∀ S1, S1.1 376 4 = nI (N 0 3) → f_X9_isHouse 0 S1 375 (nI h) = some true → f_X9_seen 0 S1 375 (nI h) (nI d) (nI s) = some (sI (sI (sI (sI S1 376 (68 + 3 * (N 0 3)) (nI h)) 376 (68 + 3 * (N 0 3) + 1) (nI d)) 376 (68 + 3 * (N 0 3) + 2) (nI s)) 376 4 (nI ((N 0 3) + 1)), nI ((N 0 3) + 1)) := by
      intro S1 y0 yh
      have y3 : ∀ v, (sI (sI (sI S1 376 (68 + 3 * (N 0 3)) (nI h)) 376 (68 + 3 * (N 0 3) + 1) (nI d)) 376 (68 + 3 * (N 0 3) + 2) v).1 376 4 = nI (N 0 3) := fun v => by rw [sq_off (by omega), sq_off (by omega), sq_off (by omega)]; exact y0
      have y4 : ∀ S' v, (sI S' 376 4 v).1 376 4 = v := fun S' v => rfl
      rw [u_X9_seen, if_neg e, yh, bd_s, if_pos rfl, x9_isIn, show f_X8_isWithin S1 (nI d) (nI 0) (nI 19) = true from z2, if_pos rfl]
      simp only [u_X9_seen_94]
      simp (disch := omega) only [y0, ck_t, bd_s, ↓stp_s, inb_n, nI_clamp, nI_add, pk_mul, pk_div, pk_sub, nrem, nI_leI, nI_ltI, nI_eq, n_m1, m1_n, m1_lt, n_lt_m1, n_le_m1, m1_le, m1_e1, m2_n, if_true, if_false, if_pos, if_neg, y3, y4]
      rcases (show s = 0 ∨ s = 1 by omega) with rfl | rfl
      · rw [if_pos (by decide)]
      · rw [if_neg (by decide)]
    have fc : Fc S (sI (sI (sI (sI S 47 (N 0 3) (nI h)) 48 (N 0 3) (nI d)) 49 (N 0 3) (nI s)) 40 9 (nI ((N 0 3) + 1))) := (((fc_sI (by omega)).trans (fc_sI (by omega))).trans (fc_sI (by omega))).trans (fc_sI (by omega))
    have h2' := h2 _ ((fc _ _ (by omega)).trans q4) (by rw [x9_isHouse (hRW.fc fc).1 hW, z])
    generalize hS1 : sI (sI (sI (sI S 47 (N 0 3) (nI h)) 48 (N 0 3) (nI d)) 49 (N 0 3) (nI s)) 40 9 (nI ((N 0 3) + 1)) = S1 at *
    have o1 : ∀ k, S1.1 376 k = S.1 376 k := fun k => fc _ _ (by omega)
    refine stepN (S1 := S1) (r := nI ((N 0 3) + 1)) (P' := P) (N' := tu (tu (tu (tu N 1 (N 0 3) h) 2 (N 0 3) d) 3 (N 0 3) s) 0 3 ((N 0 3) + 1)) hI (c_X8_seen k_0 h1) (c_X9_seen k_375 h2') (hCW.n rfl rfl b1 (fun u k c => ?_) ⟨?_, ?_, ?_, ?_⟩ (fun k hk => ?_) (fun k hk => ?_)) fc ((hRW.fc fc).n hWV rfl (fun k => ⟨rfl, rfl, rfl⟩) (fun k c => ?_) ⟨?_, ?_, ?_, ?_⟩ (fun k hk => ?_) (fun k hk => ?_)) (((fr_sI.trans fr_sI).trans fr_sI).trans fr_sI) (hWV.n rfl rfl (fun k => ⟨rfl, rfl, rfl⟩) ⟨b2, b5, hn, b4⟩ (fun k hk => ?_) hWV.2.2.2.2.1) rfl (by decide) (by decide)
    · rw [← hS1]; simp (disch := omega) only [sq_hit, sq_off, tu_hit, tu_off]
    · rw [← hS1]; simp (disch := omega) only [sq_hit, sq_off, tu_hit, tu_off]; exact g4
    · rw [← hS1]; simp (disch := omega) only [sq_hit, sq_off, tu_hit, tu_off]; exact g5
    · rw [← hS1]; simp (disch := omega) only [sq_hit, sq_off, tu_hit, tu_off]
    · rw [← hS1]; simp (disch := omega) only [sq_hit, sq_off, tu_hit, tu_off]; exact g12
    · have hk' : k < (N 0 3) + 1 := hk
      rw [← hS1]
      by_cases q : k = (N 0 3)
      · subst q; simp (disch := omega) only [sq_hit, sq_off, tu_hit, tu_off]
        exact ⟨trivial, trivial, trivial⟩
      · simp (disch := omega) only [sq_hit, sq_off, tu_hit, tu_off]
        exact hCW.2.2.2.2.1 k (by omega)
    · have hk' : k < N 0 4 := hk
      rw [← hS1]; simp (disch := omega) only [sq_hit, sq_off, tu_hit, tu_off]; exact hCW.2.2.2.2.2 k hk'
    · simp (disch := omega) only [sq_hit, sq_off, tu_hit, tu_off]
    · simp (disch := omega) only [sq_hit, sq_off, tu_hit, tu_off]; rw [o1]; exact q1
    · simp (disch := omega) only [sq_hit, sq_off, tu_hit, tu_off]; rw [o1]; exact q2
    · simp (disch := omega) only [sq_hit, sq_off, tu_hit, tu_off]
    · simp (disch := omega) only [sq_hit, sq_off, tu_hit, tu_off]; rw [o1]; exact q5
    · have hk' : k < (N 0 3) + 1 := hk
      by_cases q : k = (N 0 3)
      · subst q; simp (disch := omega) only [sq_hit, sq_off, tu_hit, tu_off]
        exact ⟨trivial, trivial, trivial⟩
      · simp (disch := omega) only [sq_hit, sq_off, tu_hit, tu_off]
        simp only [o1]
        exact hRW.2.2.2.1 k (by omega)
    · have hk' : k < N 0 4 := hk
      simp (disch := omega) only [sq_hit, sq_off, tu_hit, tu_off]; simp only [o1]; exact hRW.2.2.2.2.1 k hk'
    · have hk' : k < (N 0 3) + 1 := hk
      by_cases q : k = (N 0 3)
      · subst q; simp (disch := omega) only [sq_hit, sq_off, tu_hit, tu_off]
        exact ⟨by omega, hd, hs⟩
      · simp (disch := omega) only [sq_hit, sq_off, tu_hit, tu_off]
        exact hWV.2.2.2.1 k (by omega)
