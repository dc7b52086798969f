/-! ===== text: the step ===== -/
theorem st_text : ∀ S, Inv S → Step μX8_text μX9_text Inv S [] := by
  intro S hI
  have hI0 := hI
  obtain ⟨T, P, N, T1, P1, N1, E, hI⟩ := hI
  obtain ⟨F, hF⟩ := big_F
  obtain ⟨hCW, hRW, hWV, hC1, hR1, hV1, hN1, hTR, hTF⟩ := id hI
  obtain ⟨b0, b1, b2, b5, b3, b4⟩ := hWV.2.2.1
  obtain ⟨g2, g3, g4, g5, g9, g12⟩ := hCW.2.2.2.1
  obtain ⟨q1, q2, q3, q4, q5⟩ := hRW.2.2.1
  obtain ⟨⟨L, hL, l1, l2, l3⟩, l4, l5⟩ := hTF
  by_cases n4 : N 0 2 = 4
  · have e8 : f_X8_text F S 0 = some (S, -1) := by
      rw [u_X8_text, g4, n4, if_neg (by decide)]
    have e9 : f_X9_text F S 375 = some (S, -1) := by
      rw [u_X9_text, inb_n (by omega) (by omega), ck_t, nI_clamp (by omega), q1, n4, if_pos rfl]
    exact stepR hI0 (c_X8_text k_0 e8) (c_X9_text k_375 e9) (by decide) (by decide)
  have nt : N 0 2 < 4 := by omega
  -- the bytes
  have hb : ∀ k, k < L → S.1 1 k = nI (S.1 1 k).toNatClampNeg ∧ S.1 379 k = nI (S.1 1 k).toNatClampNeg ∧ (S.1 1 k).toNatClampNeg < 256 := fun k hk => by
    obtain ⟨b, hb, x, y⟩ := l3 k hk
    rw [x, y, nI_clamp (by omega)]
    exact ⟨rfl, rfl, hb⟩
  have hB0 : ∃ B : Nat → Nat, BL B L ∧ TC S B L ∧ ∀ k, k < L → S.1 379 k = nI (B k) := by
    refine ⟨fun k => if k < L then (S.1 1 k).toNatClampNeg else 256, ⟨hL, fun k hk => ?_, fun k hk => if_neg (by omega)⟩, fun k hk => ?_, fun k hk => ?_⟩
    · show (if k < L then (S.1 1 k).toNatClampNeg else 256) < 256
      rw [if_pos hk]; exact (hb k hk).2.2
    · show _ = nI (if k < L then (S.1 1 k).toNatClampNeg else 256)
      rw [if_pos hk]; exact (hb k hk).1
    · show _ = nI (if k < L then (S.1 1 k).toNatClampNeg else 256)
      rw [if_pos hk]; exact (hb k hk).2.1
  obtain ⟨B, hB, hTC, hTP⟩ := hB0
  obtain ⟨S0, S1, n, x1, x2, hN, x3, x4⟩ := x4_read (F := F) (by omega) hB hTC
  have E8 : f_X8_text F S 0 = if ((sI (sI S1 0 2 (nI 1)) 0 1 (nI 0)).1 2 1) = (nI 0) then (ck (inb ((sI (sI S1 0 2 (nI 1)) 0 1 (nI 0)).1 40 4) 4) (bd (f_X5_copyFrom F (sI (sI S1 0 2 (nI 1)) 0 1 (nI 0)) (12 + 5 * ((sI (sI S1 0 2 (nI 1)) 0 1 (nI 0)).1 40 4).toNatClampNeg) 3) fun q5 => stp (sI q5 40 4 ((q5.1 40 4) + (nI 1))) fun S6 => some (S6, (S6.1 40 4) - (nI 1)))) else (some (sI (sI S1 0 2 (nI 1)) 0 1 (nI 0), (-1 : Int32))) := by
    rw [u_X8_text, g4, if_pos (nI_lt nt (by omega)), l1, x1, bd_s, stp_s, stp_s]
  have e3 : ∀ u k, ¬ (u = 0 ∧ (k = 1 ∨ k = 2)) → (sI (sI S1 0 2 (nI 1)) 0 1 (nI 0)).1 u k = S1.1 u k := fun u k q => by rw [sq_off (by omega), sq_off (by omega)]
  have e31 : (sI (sI S1 0 2 (nI 1)) 0 1 (nI 0)).1 0 1 = nI 0 := sq_hit _ _ _ _
  have e32 : (sI (sI S1 0 2 (nI 1)) 0 1 (nI 0)).1 0 2 = nI 1 := by rw [sq_off (by omega), sq_hit]
  generalize sI (sI S1 0 2 (nI 1)) 0 1 (nI 0) = S3 at *
  have f3 : ∀ u k, (u = 0 ∧ k ≠ 1 ∧ k ≠ 2) ∨ u = 1 ∨ 10 < u → S3.1 u k = S.1 u k := fun u k q => (e3 u k (by omega)).trans (x2 u k (by omega))
  rw [f3 40 4 (by omega), g4, inb_n (by omega) (by omega), ck_t, nI_clamp (by omega)] at E8
  -- the reference, from a state that differs from S below 375 alone
  have ref : ∀ S4 : mS, (∀ u k, 375 ≤ u → S4.1 u k = S.1 u k) → ((tTx (kp B) (vp B) 25 (fun _ _ => 0) 0 0).1 = 0 → ∃ S', f_X9_text F S4 375 = some (S', nI (N 0 2)) ∧ XR S' (705 * N 0 2) (tTx (kp B) (vp B) 25 (fun _ _ => 0) 0 0).2.2.1 (tTx (kp B) (vp B) 25 (fun _ _ => 0) 0 0).2.2.2 ∧ S'.1 375 5 = nI 0 ∧ S'.1 375 6 = -1 ∧ S'.1 375 4 = nI 0 ∧ S'.1 376 1 = nI (N 0 2 + 1) ∧ ∀ u k, ¬ (u = 375 ∧ 4 ≤ k) → ¬ (u = 376 ∧ k = 1) → u ≠ 380 → ¬ (u = 378 ∧ 705 * N 0 2 ≤ k ∧ k < 705 * N 0 2 + 705) → S'.1 u k = S4.1 u k) ∧ ((tTx (kp B) (vp B) 25 (fun _ _ => 0) 0 0).1 ≠ 0 → (tTx (kp B) (vp B) 25 (fun _ _ => 0) 0 0).1 ≤ 6 → ∃ S', f_X9_text F S4 375 = some (S', -1) ∧ S'.1 375 5 = nI (tTx (kp B) (vp B) 25 (fun _ _ => 0) 0 0).1 ∧ S'.1 375 6 = nI (tS B (tTx (kp B) (vp B) 25 (fun _ _ => 0) 0 0).2.1) ∧ S'.1 375 4 = nI 0 ∧ ∀ u k, ¬ (u = 375 ∧ 4 ≤ k) → u ≠ 380 → ¬ (u = 378 ∧ 705 * N 0 2 ≤ k ∧ k < 705 * N 0 2 + 705) → S'.1 u k = S4.1 u k) := fun S4 h4 => by
    have t1 : S4.1 376 1 = nI (N 0 2) := (h4 _ _ (by omega)).trans q1
    obtain ⟨r1, r2⟩ := x9_read (F := F) (S := S4) (by omega) hB ⟨(h4 _ _ (by omega)).trans l2, fun k hk => (h4 _ _ (by omega)).trans (hTP k hk)⟩ hN nt t1
    generalize tTx (kp B) (vp B) 25 (fun _ _ => 0) 0 0 = r at *
    have E9 : f_X9_text F S4 375 = bd (f_X9_readText F S4 375) fun q2 => stp (sI q2.1 375 5 q2.2) fun S3 => if (S3.1 375 5) = (nI 0) then (lX9_text_36 F 375 S3 (-1 : Int32)) else (lX9_text_36 F 375 S3 (S3.1 375 8)) := by
      rw [u_X9_text, inb_n (by omega) (by omega), ck_t, nI_clamp (by omega), t1, ifn (by omega) (by omega), if_neg (by omega)]
    refine ⟨fun e => ?_, fun e e6 => ?_⟩
    · obtain ⟨S5, y1, y2, y3, y4, y5, y6, y7, y8⟩ := r1 e
      have y18 : S5.1 376 1 = nI (N 0 2) := (y8 _ _ (by omega) (by omega) (by omega)).trans t1
      refine ⟨sI (sI (sI (sI S5 375 5 (nI 0)) 375 6 (-1)) 375 4 (nI 0)) 376 1 (nI (N 0 2 + 1)), ?_, ?_, ?_, ?_, ?_, sq_hit _ _ _ _, fun u k p1 p2 p3 p4 => ?_⟩
      · rw [E9, y1, bd_s, stp_s, sq_hit, if_pos rfl, u_X9_text_36, stp_s, stp_s, sq_off (by omega), sq_off (by omega), sq_hit, if_pos rfl, inb_n (by omega) (by omega), ck_t, ck_t, stp_s, ck_t, nI_clamp (by omega), sq_off (by omega), sq_off (by omega), sq_off (by omega), y18, nI_add, sq_hit, pk_sub (by omega), show N 0 2 + 1 - 1 = N 0 2 by omega]
      · obtain ⟨d1, d2, d3, d4, o, d5, d6, d7⟩ := y6
        have ee : ∀ u k, ¬ (u = 375 ∧ k ≤ 6) → u ≠ 376 → (sI (sI (sI (sI S5 375 5 (nI 0)) 375 6 (-1)) 375 4 (nI 0)) 376 1 (nI (N 0 2 + 1))).1 u k = S5.1 u k := fun u k p q => by rw [sq_off (by omega), sq_off (by omega), sq_off (by omega), sq_off (by omega)]
        refine ⟨(ee _ _ (by omega) (by omega)).trans d1, (ee _ _ (by omega) (by omega)).trans d2, fun c hc => ?_, fun p hp => ?_, o, d5, (ee _ _ (by omega) (by omega)).trans d6, d7⟩
        · rw [ee _ _ (by omega) (by omega), ee _ _ (by omega) (by omega), ee _ _ (by omega) (by omega), ee _ _ (by omega) (by omega)]
          exact d3 c hc
        · rw [ee _ _ (by omega) (by omega), ee _ _ (by omega) (by omega)]
          exact d4 p hp
      · rw [sq_off (by omega), sq_off (by omega), sq_off (by omega), sq_hit]
      · rw [sq_off (by omega), sq_off (by omega), sq_hit]
      · rw [sq_off (by omega), sq_hit]
      · rw [sq_off (by omega), sq_off (by omega), sq_off (by omega), sq_off (by omega)]
        exact y8 u k (by omega) p3 p4
    · obtain ⟨S5, y1, y2, y8⟩ := r2 e
      have nf : ¬ nI r.1 = nI 0 := nI_ne0 (by omega) (by omega)
      refine ⟨sI (sI (sI S5 375 5 (nI r.1)) 375 6 (nI (tS B r.2.1))) 375 4 (nI 0), ?_, ?_, ?_, sq_hit _ _ _ _, fun u k p1 p3 p4 => ?_⟩
      · rw [E9, y1, bd_s, stp_s, sq_hit, if_neg nf, sq_off (by omega), y2, u_X9_text_36, stp_s, stp_s, sq_off (by omega), sq_off (by omega), sq_hit, if_neg nf]
      · rw [sq_off (by omega), sq_off (by omega), sq_hit]
      · rw [sq_off (by omega), sq_hit]
      · rw [sq_off (by omega), sq_off (by omega), sq_off (by omega)]
        exact y8 u k (by omega) p3 p4
  by_cases e : (tTx (kp B) (vp B) 25 (fun _ _ => 0) 0 0).1 = 0
  · obtain ⟨⟨k1, k2, k3, k4, k5, k6, k7, k8⟩, hP⟩ := x3 e
    have zb : (tTx (kp B) (vp B) 25 (fun _ _ => 0) 0 0).2.2.2 ≤ 300 := by have := k1.1; omega
    have X3 : XC S3 3 (tTx (kp B) (vp B) 25 (fun _ _ => 0) 0 0).2.2.1 (tTx (kp B) (vp B) 25 (fun _ _ => 0) 0 0).2.2.2 := by
      obtain ⟨a1, a2, a3, a4, a5⟩ := k7
      refine ⟨(e3 _ _ (by omega)).trans a1, (e3 _ _ (by omega)).trans a2, fun c hc => ?_, fun l hl => ?_, fun p hp => (e3 _ _ (by omega)).trans (a5 p hp)⟩
      · rw [e3 _ _ (by omega), e3 _ _ (by omega), e3 _ _ (by omega), e3 _ _ (by omega)]
        exact a3 c hc
      · rw [e3 _ _ (by omega), e3 _ _ (by omega)]
        exact a4 l hl
    obtain ⟨S4, y1, y2, y3⟩ := x5_copy (F := F) (S := S3) (t := 12 + 5 * N 0 2) (by omega) X3 hP zb
    have c4 : S4.1 40 4 = nI (N 0 2) := (y3 _ _ (by omega)).trans ((f3 _ _ (by omega)).trans g4)
    rw [(e3 2 1 (by omega)).trans k2, if_pos rfl, y1, bd_s, c4, nI_add, stp_s, sq_hit, pk_sub (by omega), show N 0 2 + 1 - 1 = N 0 2 by omega] at E8
    have e5 : ∀ u k, ¬ (u = 40 ∧ k = 4) → (sI S4 40 4 (nI (N 0 2 + 1))).1 u k = S4.1 u k := fun u k q => sq_off (by omega)
    have e54 : (sI S4 40 4 (nI (N 0 2 + 1))).1 40 4 = nI (N 0 2 + 1) := sq_hit _ _ _ _
    generalize sI S4 40 4 (nI (N 0 2 + 1)) = S5 at *
    have f5 : ∀ u k, (u = 0 ∧ k ≠ 1 ∧ k ≠ 2) ∨ u = 1 ∨ (10 < u ∧ ¬ (12 + 5 * N 0 2 ≤ u ∧ u ≤ 16 + 5 * N 0 2) ∧ ¬ (u = 40 ∧ k = 4)) → S5.1 u k = S.1 u k := fun u k q => (e5 u k (by omega)).trans ((y3 u k (by omega)).trans (f3 u k (by omega)))
    obtain ⟨S6, z1, z2, z3, z4, z5, z6, z7⟩ := (ref S5 (fun u k hu => f5 u k (by omega))).1 e
    have d6 : ∀ u k, u < 375 → S6.1 u k = S5.1 u k := fun u k hu => z7 u k (by omega) (by omega) (by omega) (by omega)
    have f6 : ∀ u k, (u = 0 ∧ k ≠ 1 ∧ k ≠ 2) ∨ u = 1 ∨ (10 < u ∧ u < 375 ∧ ¬ (12 + 5 * N 0 2 ≤ u ∧ u ≤ 16 + 5 * N 0 2) ∧ ¬ (u = 40 ∧ k = 4)) ∨ (u = 376 ∧ k ≠ 1) ∨ u = 377 ∨ (u = 378 ∧ ¬ (705 * N 0 2 ≤ k ∧ k < 705 * N 0 2 + 705)) ∨ u = 379 → S6.1 u k = S.1 u k := fun u k q => (z7 u k (by omega) (by omega) (by omega) (by omega)).trans (f5 u k (by omega))
    refine stepW (S1 := S5) (S2 := S6) (r := nI (N 0 2)) (c_X8_text k_0 E8) (c_X9_text k_375 z1) ⟨T, P, tu N 0 2 (N 0 2 + 1), T1, P1, N1, fun i => if i = N 0 2 then (tTx (kp B) (vp B) 25 (fun _ _ => 0) 0 0).2.2.1 else E i, ?_, ?_, ?_, hC1.fr (fun u k a b => f6 u k (by omega)), hR1.fr (fun k => f6 _ _ (by omega)), hV1, ?_, fun i hi => ?_, ?_⟩ (by decide) (by decide)
    · refine hCW.n rfl rfl b1 (fun u k c => f6 u k (by omega)) ⟨(d6 _ _ (by omega)).trans e54, (f6 _ _ (by omega)).trans g5, (f6 _ _ (by omega)).trans g9, (f6 _ _ (by omega)).trans g12⟩ (fun k hk => ?_) (fun k hk => ?_)
      · rw [f6 _ _ (by omega), f6 _ _ (by omega), f6 _ _ (by omega)]; exact hCW.2.2.2.2.1 k hk
      · rw [f6 _ _ (by omega), f6 _ _ (by omega)]; exact hCW.2.2.2.2.2 k hk
    · refine hRW.n hWV rfl (fun k => ⟨rfl, rfl, rfl⟩) (fun k c => f6 _ _ (by omega)) ⟨z6, (f6 _ _ (by omega)).trans q2, (f6 _ _ (by omega)).trans q4, (f6 _ _ (by omega)).trans q5⟩ (fun k hk => ?_) (fun k hk => ?_)
      · rw [f6 _ _ (by omega), f6 _ _ (by omega), f6 _ _ (by omega)]; exact hRW.2.2.2.1 k hk
      · rw [f6 _ _ (by omega), f6 _ _ (by omega)]; exact hRW.2.2.2.2.1 k hk
    · refine hWV.n rfl rfl (fun k => ⟨rfl, rfl, rfl⟩) ⟨?_, ?_, b3, b4⟩ hWV.2.2.2.1 hWV.2.2.2.2.1
      · rw [tu_hit]; omega
      · rw [tu_hit, tu_off (by omega)]; omega
    · rw [tu_hit]; omega
    · rw [tu_hit] at hi
      by_cases q : i = N 0 2
      · subst q
        show TR S6 (N 0 2) (if N 0 2 = N 0 2 then _ else _)
        rw [if_pos rfl]
        refine TR_of ?_ z2 hP zb
        have e6 : ∀ u k, 12 ≤ u → u ≤ 36 → S6.1 u k = S4.1 u k := fun u k p1 p2 => (d6 u k (by omega)).trans (e5 u k (by omega))
        obtain ⟨a1, a2, a3, a4, a5⟩ := y2
        refine ⟨(e6 _ _ (by omega) (by omega)).trans a1, (e6 _ _ (by omega) (by omega)).trans a2, fun c hc => ?_, fun l hl => ?_, fun p hp => (e6 _ _ (by omega) (by omega)).trans (a5 p hp)⟩
        · rw [e6 _ _ (by omega) (by omega), e6 _ _ (by omega) (by omega), e6 _ _ (by omega) (by omega), e6 _ _ (by omega) (by omega)]
          exact a3 c hc
        · rw [e6 _ _ (by omega) (by omega), e6 _ _ (by omega) (by omega)]
          exact a4 l hl
      · show TR S6 i (if i = N 0 2 then _ else E i)
        rw [if_neg q]
        exact (hTR i (by omega)).fr2 (fun u k p1 p2 => f6 u k (by omega)) (fun k p1 p2 => f6 _ _ (by omega))
    · refine ⟨⟨0, by omega, ?_, z5, fun k hk => absurd hk (Nat.not_lt_zero _)⟩, Or.inr ⟨?_, ?_, ?_⟩, fun l hl => ?_⟩
      · rw [d6 _ _ (by omega), e5 _ _ (by omega), y3 _ _ (by omega)]; exact e31
      · rw [d6 _ _ (by omega), e5 _ _ (by omega), y3 _ _ (by omega)]; exact e32
      · rw [z3, d6 _ _ (by omega), e5 _ _ (by omega), y3 _ _ (by omega), e3 _ _ (by omega)]; exact k2
      · rw [z4, d6 _ _ (by omega), e5 _ _ (by omega), y3 _ _ (by omega), e3 _ _ (by omega)]; exact k3
      · rw [f6 _ _ (by omega), f6 _ _ (by omega)]; exact l5 l hl
  · have hD := x4 e
    rw [if_neg (show ¬ S3.1 2 1 = nI 0 by rw [e3 _ _ (by omega)]; exact hD.nz)] at E8
    obtain ⟨S6, z1, z3, z4, z5, z7⟩ := (ref S3 (fun u k hu => f3 u k (by omega))).2 e hD.2.1.2
    have d6 : ∀ u k, u < 375 → S6.1 u k = S3.1 u k := fun u k hu => z7 u k (by omega) (by omega) (by omega)
    have f6 : ∀ u k, (u = 0 ∧ k ≠ 1 ∧ k ≠ 2) ∨ u = 1 ∨ (10 < u ∧ u < 375) ∨ u = 376 ∨ u = 377 ∨ (u = 378 ∧ ¬ (705 * N 0 2 ≤ k ∧ k < 705 * N 0 2 + 705)) ∨ u = 379 → S6.1 u k = S.1 u k := fun u k q => (z7 u k (by omega) (by omega) (by omega)).trans (f3 u k (by omega))
    refine stepW (S1 := S3) (S2 := S6) (r := -1) (c_X8_text k_0 E8) (c_X9_text k_375 z1) ⟨T, P, N, T1, P1, N1, E, hCW.fr (fun u k a b => f6 u k (by omega)), hRW.fr (fun k => f6 _ _ (by omega)), hWV, hC1.fr (fun u k a b => f6 u k (by omega)), hR1.fr (fun k => f6 _ _ (by omega)), hV1, hN1, fun i hi => (hTR i hi).fr2 (fun u k p1 p2 => f6 u k (by omega)) (fun k p1 p2 => f6 _ _ (by omega)), ?_⟩ (by decide) (by decide)
    refine ⟨⟨0, by omega, ?_, z5, fun k hk => absurd hk (Nat.not_lt_zero _)⟩, Or.inr ⟨?_, ?_, ?_⟩, fun l hl => ?_⟩
    · rw [d6 _ _ (by omega)]; exact e31
    · rw [d6 _ _ (by omega)]; exact e32
    · rw [z3, d6 _ _ (by omega), e3 _ _ (by omega)]; exact hD.1
    · rw [z4, d6 _ _ (by omega), e3 _ _ (by omega)]; exact hD.2.2.1
    · rw [f6 _ _ (by omega), f6 _ _ (by omega)]; exact l5 l hl
