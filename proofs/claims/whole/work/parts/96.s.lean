theorem st_sets : ∀ S, Inv S → ∀ a1 a2 a3, Step μX8_sets μX9_sets Inv S [.int a1, .int a2, .int (zb a3)] := by
  intro S hI a b c
  obtain ⟨T, P, N, hCW, hRW, hWV, hC, hR, hW⟩ := hI.t
  obtain ⟨F, hF⟩ := big_F
  have w0 := hW.1
  have w2 := hW.2.2.1
  have w4 := hW.2.2.2.2.1
  have c5 : S.1 41 5 = nI (T 0 0) := hC.1
  have c7 : S.1 41 7 = nI (T 0 2) := hC.2.2.1
  have cs : ∀ h, h < T 0 0 → S.1 42 h = nI (T 1 h) := hC.2.2.2.2.2.1
  have r0 : S.1 376 0 = nI (T 0 0) := hR.1
  have r8 : S.1 376 8 = nI (T 0 2) := hR.2.1
  generalize zb c = c
  rcases tld_c a (n := T 0 0) (by omega) with z | ⟨h, hh, rfl, z⟩
  · have e1 : f_X8_sets F S 0 a b c = some (S, -1) := by rw [u_X8_sets, u_X8_isGuess, x6_told hC hW, z]; rfl
    have e2 : f_X9_sets F S 375 a b c = some (S, -1) := by rw [u_X9_sets, x9_isHouse hR hW, z]; rfl
    exact stepR hI (c_X8_sets k_0 e1) (c_X9_sets k_375 e2) (by decide) (by decide)
  rcases win_c (S := S) b 1 3 (by omega) (by omega) with y | ⟨m, h1, h2, rfl, y⟩
  · have e1 : f_X8_sets F S 0 (nI h) b c = some (S, -1) := by rw [u_X8_sets, u_X8_isGuess, x6_told hC hW, z, y]; rfl
    have e2 : f_X9_sets F S 375 (nI h) b c = some (S, -1) := by rw [u_X9_sets, x9_isHouse hR hW, z, bd_s, if_pos rfl, x9_isIn, y]; rfl
    exact stepR hI (c_X8_sets k_0 e1) (c_X9_sets k_375 e2) (by decide) (by decide)
  obtain ⟨m0, rfl⟩ : ∃ m0, m = m0 + 1 := ⟨m - 1, by omega⟩
  obtain ⟨S1, S2, q, hq, u1, g1, f1, u2, ⟨r1, r2, r3, A, r4, r5, r6⟩, f2⟩ := both_g (F := F) (by omega) hCW hRW hWV (h := h) (m0 := m0) (by omega) (by omega)
  have b0 := cF_bd (O := q.2) (m := m0 + 1) hq.1 (by omega)
  have y1 : f_X8_isWithin S1 (nI (m0 + 1)) (nI 1) (nI 3) = true := y
  have hR1 : RT S1 376 T := hR.fr (fun k => f1 _ _ (by decide))
  by_cases e : c = nI 0
  · have e1 : f_X8_sets F S 0 (nI h) (nI (m0 + 1)) c = some (S1, nI (cF q.1 q.2 20 (m0 + 1) 0)) := by rw [u_X8_sets, u_X8_isGuess, x6_told hC hW, z, y, if_pos rfl, if_pos rfl, if_pos rfl, u1, bd_s, if_pos e, g1.2.1]
    have e2 : f_X9_sets F S1 375 (nI h) (nI (m0 + 1)) c = some (S2, nI (cF q.1 q.2 20 (m0 + 1) 0)) := by rw [u_X9_sets, x9_isHouse hR1 hW, z, bd_s, if_pos rfl, x9_isIn, y1, if_pos rfl, u2, bd_s, if_pos e, r1]; rfl
    exact stepS (S1 := S1) (S2 := S2) (r := nI (cF q.1 q.2 20 (m0 + 1) 0)) hI (c_X8_sets k_0 e1) (c_X9_sets k_375 e2) (cor_9 f1) (cor_R f2) (by decide) (by decide)
  · obtain ⟨B, v1, v2, v3⟩ := x2_in4 (F := F) g1 hq (by omega) 20 0 F (B := 0) (by omega) (by omega) (by decide)
    have e1 : f_X8_sets F S 0 (nI h) (nI (m0 + 1)) c = some (S1, nI B) := by rw [u_X8_sets, u_X8_isGuess, x6_told hC hW, z, y, if_pos rfl, if_pos rfl, if_pos rfl, u1, bd_s, if_neg e, u_X2_inAll, v1, bd_s]
    have e2 : f_X9_sets F S1 375 (nI h) (nI (m0 + 1)) c = some (S2, nI B) := by
      rw [u_X9_sets, x9_isHouse hR1 hW, z, bd_s, if_pos rfl, x9_isIn, y1, if_pos rfl, u2, bd_s, if_neg e, r1, r5]
      show (if nI (cF q.1 q.2 20 (m0 + 1) 0) = nI 0 then _ else _) = _
      by_cases w : cF q.1 q.2 20 (m0 + 1) 0 = 0
      · have : B = 0 := Nat.eq_of_testBit_eq (fun i => by
          rw [Nat.zero_testBit]
          cases x : B.testBit i
          · rfl
          · rcases (v3 i).mp x with t | t
            · rw [Nat.zero_testBit] at t; exact absurd t (by decide)
            · exact absurd w t.2.2.1)
        rw [w, if_pos rfl, this]
      · have : A = B := Nat.eq_of_testBit_eq (fun i => by
          rw [Bool.eq_iff_iff, v3 i, Nat.zero_testBit]
          by_cases x : i < 20
          · rw [r6 i x]
            exact ⟨fun t => Or.inr ⟨Nat.zero_le i, x, w, t⟩, fun t => t.elim (fun s => absurd s (by decide)) (fun s => s.2.2.2)⟩
          · rw [tb20 r4 (by omega)]
            exact ⟨fun t => absurd t (by decide), fun t => t.elim (fun s => absurd s (by decide)) (fun s => absurd s.2.1 x)⟩)
        rw [if_neg (nI_neq w (by omega) (by omega)), this]
    exact stepS (S1 := S1) (S2 := S2) (r := nI B) hI (c_X8_sets k_0 e1) (c_X9_sets k_375 e2) (cor_9 f1) (cor_R f2) (by decide) (by decide)
theorem st_odds : ∀ S, Inv S → ∀ a1 a2 a3 a4, Step μX8_odds μX9_odds Inv S [.int a1, .int a2, .int a3, .int (zb a4)] := by
  intro S hI a b dd c
  obtain ⟨T, P, N, hCW, hRW, hWV, hC, hR, hW⟩ := hI.t
  obtain ⟨F, hF⟩ := big_F
  have w0 := hW.1
  have w2 := hW.2.2.1
  have w4 := hW.2.2.2.2.1
  have c5 : S.1 41 5 = nI (T 0 0) := hC.1
  have c7 : S.1 41 7 = nI (T 0 2) := hC.2.2.1
  have cs : ∀ h, h < T 0 0 → S.1 42 h = nI (T 1 h) := hC.2.2.2.2.2.1
  have r0 : S.1 376 0 = nI (T 0 0) := hR.1
  have r8 : S.1 376 8 = nI (T 0 2) := hR.2.1
  generalize zb c = c
  rcases tld_c a (n := T 0 0) (by omega) with z | ⟨h, hh, rfl, z⟩
  · have e1 : f_X8_odds F S 0 a b dd c = some (S, -1) := by rw [u_X8_odds, u_X8_isGuess, x6_told hC hW, z]; rfl
    have e2 : f_X9_odds F S 375 a b dd c = some (S, -1) := by rw [u_X9_odds, x9_isHouse hR hW, z]; rfl
    exact stepR hI (c_X8_odds k_0 e1) (c_X9_odds k_375 e2) (by decide) (by decide)
  rcases win_c (S := S) b 1 3 (by omega) (by omega) with y | ⟨m, h1, h2, rfl, y⟩
  · have e1 : f_X8_odds F S 0 (nI h) b dd c = some (S, -1) := by rw [u_X8_odds, u_X8_isGuess, x6_told hC hW, z, y]; rfl
    have e2 : f_X9_odds F S 375 (nI h) b dd c = some (S, -1) := by rw [u_X9_odds, x9_isHouse hR hW, z, bd_s, if_pos rfl, x9_isIn, y]; rfl
    exact stepR hI (c_X8_odds k_0 e1) (c_X9_odds k_375 e2) (by decide) (by decide)
  rcases dat_c S dd with x | ⟨d, hd, rfl, x⟩
  · have e1 : f_X8_odds F S 0 (nI h) (nI m) dd c = some (S, -1) := by rw [u_X8_odds, u_X8_isGuess, x6_told hC hW, z, y, if_pos rfl, if_pos rfl, if_pos rfl, u_X8_isDate, x]; rfl
    have e2 : f_X9_odds F S 375 (nI h) (nI m) dd c = some (S, -1) := by rw [u_X9_odds, x9_isHouse hR hW, z, bd_s, if_pos rfl, x9_isIn, y, if_pos rfl, x9_isIn, x]; rfl
    exact stepR hI (c_X8_odds k_0 e1) (c_X9_odds k_375 e2) (by decide) (by decide)
  obtain ⟨m0, rfl⟩ : ∃ m0, m = m0 + 1 := ⟨m - 1, by omega⟩
  obtain ⟨S1, S2, q, hq, u1, g1, f1, u2, ⟨r1, r2, r3, A, r4, r5, r6⟩, f2⟩ := both_g (F := F) (by omega) hCW hRW hWV (h := h) (m0 := m0) (by omega) (by omega)
  have b0 := cF_bd (O := q.2) (m := m0 + 1) hq.1 (by omega)
  have b1 := cF_bd (W := q.1 ||| 2 ^ d) (O := q.2) (m := m0 + 1) (or_lt20 hq.1 (p2_lt20 hd)) (by omega)
  have hw := x2_cw g1 hq (by omega) hd
  have rw2 : S2.1 385 d = nI (cF (q.1 ||| 2 ^ d) q.2 20 (m0 + 1) 0) := r2 d hd
  have rw1 : S2.1 375 27 = nI (cF q.1 q.2 20 (m0 + 1) 0) := r1
  have g0 := g1.2.1
  generalize cF q.1 q.2 20 (m0 + 1) 0 = cc at *
  generalize cF (q.1 ||| 2 ^ d) q.2 20 (m0 + 1) 0 = ww at *
  have y1 : f_X8_isWithin S1 (nI (m0 + 1)) (nI 1) (nI 3) = true := y
  have x1 : f_X8_isWithin S1 (nI d) (nI 0) (nI 19) = true := x
  have hR1 : RT S1 376 T := hR.fr (fun k => f1 _ _ (by decide))
  have k1 : f_X8_odds F S 0 (nI h) (nI (m0 + 1)) (nI d) c = (if nI cc = (nI 0) then (if c = (nI 0) then (some (S1, (nI 0))) else (some (S1, (nI 1)))) else (bd (f_X8_commonDivisor F S1 (nI cc) (nI ww)) fun q2 => if q2 = (nI 0) then (some (S1, (-1 : Int32))) else (if c = (nI 0) then (ck (nz q2) (some (S1, (nI ww) / q2))) else (ck (nz q2) (some (S1, (nI cc) / q2)))))) := by
    rw [u_X8_odds, u_X8_isGuess, x6_told hC hW, z, y, if_pos rfl, if_pos rfl, if_pos rfl, u_X8_isDate, x, if_pos rfl, u1, bd_s, g0, hw]
  have k2 : f_X9_odds F S1 375 (nI h) (nI (m0 + 1)) (nI d) c = (if nI cc = (nI 0) then (if c = (nI 0) then (some (S2, (nI 0))) else (some (S2, (nI 1)))) else (if c = (nI 0) then (bd (f_X9_common F S2 (nI ww) (nI cc)) fun q5 => ck (nz q5) (some (S2, (nI ww) / q5))) else (bd (f_X9_common F S2 (nI ww) (nI cc)) fun q8 => ck (nz q8) (some (S2, (nI cc) / q8))))) := by
    rw [u_X9_odds, x9_isHouse hR1 hW, z, bd_s, if_pos rfl, x9_isIn, y1, if_pos rfl, x9_isIn, x1, if_pos rfl, u2, bd_s, inb_n (n := d) (by omega) (by omega), ck_t, ck_t, ck_t, nI_clamp (n := d) (by omega), rw1, rw2]
  have fin : ∀ r, f_X8_odds F S 0 (nI h) (nI (m0 + 1)) (nI d) c = some (S1, r) → f_X9_odds F S1 375 (nI h) (nI (m0 + 1)) (nI d) c = some (S2, r) → Step μX8_odds μX9_odds Inv S [.int (nI h), .int (nI (m0 + 1)), .int (nI d), .int c] := fun r e1 e2 => stepS (S1 := S1) (S2 := S2) (r := r) hI (c_X8_odds k_0 e1) (c_X9_odds k_375 e2) (cor_9 f1) (cor_R f2) (by decide) (by decide)
  by_cases w : cc = 0
  · rw [w, if_pos rfl] at k1 k2
    by_cases e : c = nI 0
    · rw [if_pos e] at k1 k2; exact fin _ k1 k2
    · rw [if_neg e] at k1 k2; exact fin _ k1 k2
  · have gp : 0 < Nat.gcd cc ww := Nat.gcd_pos_of_pos_left ww (by omega)
    have gl : Nat.gcd cc ww ≤ cc := Nat.gcd_le_left ww (by omega)
    rw [if_neg (nI_neq w (by omega) (by omega)), u_X8_commonDivisor, x8_gcd 11 cc ww 0 F (Nat.lt_trans b1 (by decide)) b0 b1 (by omega) (by omega), bd_s, if_neg (nI_neq (show ¬ Nat.gcd cc ww = 0 by omega) (by omega) (by omega)), nz_n gp (by omega), ck_t, ck_t] at k1
    rw [if_neg (nI_neq w (by omega) (by omega)), u_X9_common, x9_gcd cc ww F b1 b0 (by omega), bd_s, bd_s, Nat.gcd_comm, nz_n gp (by omega), ck_t, ck_t] at k2
    by_cases e : c = nI 0
    · rw [if_pos e] at k1 k2; exact fin _ k1 k2
    · rw [if_neg e] at k1 k2; exact fin _ k1 k2
