theorem st_gossip : ∀ S, Inv S → ∀ a1 a2, Step μX8_gossip μX9_gossip Inv S [.int a1, .int a2] := by
  intro S hI a b
  obtain ⟨T, P, N, T1, P1, N1, E, hI⟩ := hI
  have hCW := hI.1
  have hRW := hI.2.1
  have hWV := hI.2.2.1
  have hW := hWV.1
  have w0 := hW.1
  obtain ⟨b0, b1, b2, b5, b3, b4⟩ := hWV.2.2.1
  obtain ⟨g2, g3, g4, g5, g9, g12⟩ := hCW.2.2.2.1
  obtain ⟨q1, q2, q3, q4, q5⟩ := hRW.2.2.1
  have nop : ∀ r, f_X8_gossip 0 S 0 a b = some (S, r) → f_X9_gossip 0 S 375 a b = some (S, r) → Step μX8_gossip μX9_gossip Inv S [.int a, .int b] := fun r h1 h2 => stepR ⟨T, P, N, T1, P1, N1, E, hI⟩ (c_X8_gossip k_0 h1) (c_X9_gossip k_375 h2) (by decide) (by decide)
  by_cases e : a = -1
  · have h1 : f_X8_gossip 0 S 0 a b = some (sI S 40 12 (nI 0), nI 0) := by rw [u_X8_gossip, if_pos e]; rfl
    have h2 : f_X9_gossip 0 (sI S 40 12 (nI 0)) 375 a b = some (sI (sI S 40 12 (nI 0)) 376 5 (nI 0), nI 0) := by rw [u_X9_gossip, if_pos e, inb_n (by omega) (by omega), ck_t, nI_clamp (by omega)]; rfl
    have fc : Fc S (sI S 40 12 (nI 0)) := fc_sI (by omega)
    refine stepN (S1 := sI S 40 12 (nI 0)) (S2 := sI (sI S 40 12 (nI 0)) 376 5 (nI 0)) (P' := P) (N' := tu N 0 4 0) hI (c_X8_gossip k_0 h1) (c_X9_gossip k_375 h2) (hCW.n rfl rfl b1 (fun u k c => sq_off (by omega)) ⟨g4, g5, g9, rfl⟩ hCW.2.2.2.2.1 (fun k hk => absurd hk (Nat.not_lt_zero k))) fc ((hRW.fc fc).n hWV rfl (fun k => ⟨rfl, rfl, rfl⟩) (fun k c => sq_off (by omega)) ⟨q1, q2, q4, rfl⟩ (fun k hk => ?_) (fun k hk => absurd hk (Nat.not_lt_zero k))) fr_sI (hWV.n rfl rfl (fun k => ⟨rfl, rfl, rfl⟩) ⟨b2, b5, b3, Nat.zero_le _⟩ hWV.2.2.2.1 (fun k hk => absurd hk (Nat.not_lt_zero k))) rfl (by decide) (by decide)
    simp (disch := omega) only [sq_hit, sq_off, tu_hit, tu_off]; exact hRW.2.2.2.1 k hk
  rcases tld_c a (n := T 0 0) (by omega) with z | ⟨h, hh, rfl, z⟩
  · refine nop (-2) ?_ ?_
    · rw [u_X8_gossip, if_neg e, x6_told hCW.1 hW, z]; rfl
    · rw [u_X9_gossip, if_neg e, x9_isHouse hRW.1 hW, z]; rfl
  rcases tld_c b (n := T 0 0) (by omega) with z2 | ⟨d, hd, rfl, z2⟩
  · refine nop (-2) ?_ ?_
    · rw [u_X8_gossip, if_neg e, x6_told hCW.1 hW, x6_told hCW.1 hW, z, z2]; rfl
    · rw [u_X9_gossip, if_neg e, x9_isHouse hRW.1 hW, x9_isHouse hRW.1 hW, z, z2]; rfl
  by_cases z4 : nI h = nI d
  · refine nop (-2) ?_ ?_
    · rw [u_X8_gossip, if_neg e, x6_told hCW.1 hW, x6_told hCW.1 hW, z, z2, if_pos rfl, if_pos rfl, if_pos z4]
    · rw [u_X9_gossip, if_neg e, x9_isHouse hRW.1 hW, x9_isHouse hRW.1 hW, z, z2, bd_s, if_pos rfl, bd_s, if_pos rfl, if_pos z4]
  by_cases z3 : N 0 4 = 8
  · refine nop (-2) ?_ ?_
    · rw [u_X8_gossip, if_neg e, x6_told hCW.1 hW, x6_told hCW.1 hW, z, z2, if_pos rfl, if_pos rfl, if_neg z4, g12, if_neg (nI_nlt (by omega) (by omega))]
    · rw [u_X9_gossip, if_neg e, x9_isHouse hRW.1 hW, x9_isHouse hRW.1 hW, z, z2, bd_s, if_pos rfl, bd_s, if_pos rfl, if_neg z4, inb_n (by omega) (by omega), ck_t, nI_clamp (by omega), q5, z3, if_pos rfl]
  · have hn : (N 0 4) < 8 := by omega
    have h1 : f_X8_gossip 0 S 0 (nI h) (nI d) = some (sI (sI (sI S 50 (N 0 4) (nI h)) 51 (N 0 4) (nI d)) 40 12 (nI ((N 0 4) + 1)), nI ((N 0 4) + 1)) := by
      rw [u_X8_gossip, if_neg e, x6_told hCW.1 hW, x6_told hCW.1 hW, z, z2, if_pos rfl, if_pos rfl, if_neg z4]
      simp (disch := omega) only [sq_hit, sq_off, g12, ck_t, bd_s, ↓stp_s, inb_n, nI_clamp, nI_add, pk_mul, pk_div, pk_sub, nrem, nI_leI, nI_ltI, nI_eq, n_m1, m1_n, m1_lt, n_lt_m1, n_le_m1, m1_le, m1_e1, m2_n, if_true, if_false, if_pos, if_neg]
    have h2 : ∀ S1, S1.1 376 5 = nI (N 0 4) → f_X9_isHouse 0 S1 375 (nI h) = some true → f_X9_isHouse 0 S1 375 (nI d) = some true → f_X9_gossip 0 S1 375 (nI h) (nI d) = some (sI (sI (sI S1 376 (92 + 2 * (N 0 4)) (nI h)) 376 (92 + 2 * (N 0 4) + 1) (nI d)) 376 5 (nI ((N 0 4) + 1)), nI ((N 0 4) + 1)) := by
      intro S1 y0 yh yd
      have y1 : ∀ v, (sI S1 376 (92 + 2 * (N 0 4)) v).1 376 5 = nI (N 0 4) := fun v => by rw [sq_off (by omega)]; exact y0
      have y3 : ∀ v, (sI (sI S1 376 (92 + 2 * (N 0 4)) (nI h)) 376 (92 + 2 * (N 0 4) + 1) v).1 376 5 = nI (N 0 4) := fun v => by rw [sq_off (by omega), sq_off (by omega)]; exact y0
      have y4 : ∀ S' v, (sI S' 376 5 v).1 376 5 = v := fun S' v => rfl
      rw [u_X9_gossip, if_neg e, yh, yd, bd_s, if_pos rfl, bd_s, if_pos rfl, if_neg z4]
      simp (disch := omega) only [y0, ck_t, bd_s, ↓stp_s, inb_n, nI_clamp, nI_add, pk_mul, pk_div, pk_sub, nrem, nI_leI, nI_ltI, nI_eq, n_m1, m1_n, m1_lt, n_lt_m1, n_le_m1, m1_le, m1_e1, m2_n, if_true, if_false, if_pos, if_neg, y1, y3, y4]
    have fc : Fc S (sI (sI (sI S 50 (N 0 4) (nI h)) 51 (N 0 4) (nI d)) 40 12 (nI ((N 0 4) + 1))) := ((fc_sI (by omega)).trans (fc_sI (by omega))).trans (fc_sI (by omega))
    have h2' := h2 _ ((fc _ _ (by omega)).trans q5) (by rw [x9_isHouse (hRW.fc fc).1 hW, z]) (by rw [x9_isHouse (hRW.fc fc).1 hW, z2])
    generalize hS1 : sI (sI (sI S 50 (N 0 4) (nI h)) 51 (N 0 4) (nI d)) 40 12 (nI ((N 0 4) + 1)) = S1 at *
    have o1 : ∀ k, S1.1 376 k = S.1 376 k := fun k => fc _ _ (by omega)
    refine stepN (S1 := S1) (r := nI ((N 0 4) + 1)) (P' := P) (N' := tu (tu (tu N 4 (N 0 4) h) 5 (N 0 4) d) 0 4 ((N 0 4) + 1)) hI (c_X8_gossip k_0 h1) (c_X9_gossip k_375 h2') (hCW.n rfl rfl b1 (fun u k c => ?_) ⟨?_, ?_, ?_, ?_⟩ (fun k hk => ?_) (fun k hk => ?_)) fc ((hRW.fc fc).n hWV rfl (fun k => ⟨rfl, rfl, rfl⟩) (fun k c => ?_) ⟨?_, ?_, ?_, ?_⟩ (fun k hk => ?_) (fun k hk => ?_)) ((fr_sI.trans fr_sI).trans fr_sI) (hWV.n rfl rfl (fun k => ⟨rfl, rfl, rfl⟩) ⟨b2, b5, b3, hn⟩ hWV.2.2.2.1 (fun k hk => ?_)) rfl (by decide) (by decide)
    · rw [← hS1]; simp (disch := omega) only [sq_hit, sq_off, tu_hit, tu_off]
    · rw [← hS1]; simp (disch := omega) only [sq_hit, sq_off, tu_hit, tu_off]; exact g4
    · rw [← hS1]; simp (disch := omega) only [sq_hit, sq_off, tu_hit, tu_off]; exact g5
    · rw [← hS1]; simp (disch := omega) only [sq_hit, sq_off, tu_hit, tu_off]; exact g9
    · rw [← hS1]; simp (disch := omega) only [sq_hit, sq_off, tu_hit, tu_off]
    · have hk' : k < N 0 3 := hk
      rw [← hS1]; simp (disch := omega) only [sq_hit, sq_off, tu_hit, tu_off]; exact hCW.2.2.2.2.1 k hk'
    · have hk' : k < (N 0 4) + 1 := hk
      rw [← hS1]
      by_cases q : k = (N 0 4)
      · subst q; simp (disch := omega) only [sq_hit, sq_off, tu_hit, tu_off]
        exact ⟨trivial, trivial⟩
      · simp (disch := omega) only [sq_hit, sq_off, tu_hit, tu_off]
        exact hCW.2.2.2.2.2 k (by omega)
    · simp (disch := omega) only [sq_hit, sq_off, tu_hit, tu_off]
    · simp (disch := omega) only [sq_hit, sq_off, tu_hit, tu_off]; rw [o1]; exact q1
    · simp (disch := omega) only [sq_hit, sq_off, tu_hit, tu_off]; rw [o1]; exact q2
    · simp (disch := omega) only [sq_hit, sq_off, tu_hit, tu_off]; rw [o1]; exact q4
    · simp (disch := omega) only [sq_hit, sq_off, tu_hit, tu_off]
    · have hk' : k < N 0 3 := hk
      have b3 : N 0 3 ≤ 8 := b3
      simp (disch := omega) only [sq_hit, sq_off, tu_hit, tu_off]; simp only [o1]; exact hRW.2.2.2.1 k hk'
    · have hk' : k < (N 0 4) + 1 := hk
      by_cases q : k = (N 0 4)
      · subst q; simp (disch := omega) only [sq_hit, sq_off, tu_hit, tu_off]
        exact ⟨trivial, trivial⟩
      · simp (disch := omega) only [sq_hit, sq_off, tu_hit, tu_off]
        simp only [o1]
        exact hRW.2.2.2.2.1 k (by omega)
    · have hk' : k < (N 0 4) + 1 := hk
      by_cases q : k = (N 0 4)
      · subst q; simp (disch := omega) only [sq_hit, sq_off, tu_hit, tu_off]
        exact ⟨by omega, by omega⟩
      · simp (disch := omega) only [sq_hit, sq_off, tu_hit, tu_off]
        exact hWV.2.2.2.2.1 k (by omega)
