/-! ===== the beginning, and all steps ===== -/
theorem Inv.rsc : ∀ S, Inv S → Rsc S := by
  intro S hI
  obtain ⟨T, P, N, T1, P1, N1, E, hCW, hRW, hWV, hC1, hR1, hV1, hN1, hTR, ⟨L, hL, l1, l2, l3⟩, l4, l5⟩ := hI
  obtain ⟨g2, g3, g4, g5, g9, g12⟩ := hCW.2.2.2.1
  obtain ⟨q1, q2, q3, q4, q5⟩ := hRW.2.2.1
  obtain ⟨t1, t2, t3, t4, t5, -⟩ := hCW.1
  obtain ⟨r1, r2, r3, r4, -⟩ := hRW.1
  exact ⟨t1.trans r1.symm, g4.trans q1.symm, g5.trans q2.symm, g3.trans q3.symm, g9.trans q4.symm, g12.trans q5.symm, t3.trans r2.symm, t4.trans r3.symm, t5.trans r4.symm, l1.trans l2.symm⟩
theorem allSteps : AllSteps Inv := ⟨⟨st_house, st_feed, st_end, st_text, st_fault, st_by, st_knock, st_marry, st_hat, st_forget, st_day, st_played, st_years, st_undo, st_of⟩, ⟨st_is, st_book, st_foretold, st_indoors, st_crowded, st_feast, st_alone, st_nobodys, st_poorest, st_seen, st_sets, st_odds, st_nextKnock, st_thieves, st_night⟩, ⟨st_appointments, st_rounds, st_weddings, st_twins, st_gossip, st_knows, st_never, st_richest, st_whose, st_knocks, st_offended, st_leap, st_image, st_back, st_about Inv.rsc⟩⟩
def T00 : Tw := tu (fun _ _ => 0) 0 3 131
theorem Wf_0 : Wf T00 := ⟨by decide, by decide, by decide, by decide, by decide, fun h hh => absurd hh (Nat.not_lt_zero _), fun k hk => absurd hk (Nat.not_lt_zero _)⟩
theorem WV_0 : WV T00 (fun _ => T00) (fun _ _ => 0) := ⟨Wf_0, fun j hj => absurd hj (Nat.not_lt_zero _), by decide, fun k hk => absurd hk (Nat.not_lt_zero _), fun k hk => absurd hk (Nat.not_lt_zero _), fun j hj => absurd hj (Nat.not_lt_zero _)⟩
theorem CW_0 {S : mS} {w : Nat} (hw : w = 40 ∨ w = 202) (e : ∀ u k, u < 375 → S.1 u k = s0 u k) : CW S w T00 (fun _ => T00) (fun _ _ => 0) := by
  have t5 : ∀ i, i < 30 → s0 (w + 12 + 5 * i) 5 = nI 0 := by
    rcases hw with rfl | rfl
    · decide +kernel
    · decide +kernel
  have c : s0 (w + 1) 5 = nI 0 ∧ s0 (w + 1) 6 = nI 0 ∧ s0 (w + 1) 7 = nI 0 ∧ s0 (w + 1) 8 = nI 131 ∧ s0 (w + 1) 4 = nI 0 ∧ s0 w 2 = nI 0 ∧ s0 w 3 = nI 0 ∧ s0 w 4 = nI 0 ∧ s0 w 5 = rul 0 ∧ s0 w 9 = nI 0 ∧ s0 w 12 = nI 0 := by
    rcases hw with rfl | rfl
    · decide +kernel
    · decide +kernel
  obtain ⟨c1, c2, c3, c4, c5, c6, c7, c8, c9, c10, c11⟩ := c
  have hb : w + 161 < 375 := by omega
  refine ⟨⟨(e _ _ (by omega)).trans c1, (e _ _ (by omega)).trans c2, (e _ _ (by omega)).trans c3, (e _ _ (by omega)).trans c4, (e _ _ (by omega)).trans c5, fun h hh => absurd hh (Nat.not_lt_zero _), fun h hh => absurd hh (Nat.not_lt_zero _), fun h hh => absurd hh (Nat.not_lt_zero _), fun h hh => absurd hh (Nat.not_lt_zero _)⟩, fun j hj => absurd hj (Nat.not_lt_zero _), fun i hi => ⟨0, by omega, (e _ _ (by omega)).trans (t5 i hi)⟩, ⟨(e _ _ (by omega)).trans c6, (e _ _ (by omega)).trans c7, (e _ _ (by omega)).trans c8, (e _ _ (by omega)).trans c9, (e _ _ (by omega)).trans c10, (e _ _ (by omega)).trans c11⟩, fun k hk => absurd hk (Nat.not_lt_zero _), fun k hk => absurd hk (Nat.not_lt_zero _)⟩
theorem RW_0 {S : mS} {c : Nat} (e : ∀ k, k < 2308 → S.1 c k = if k = 9 then nI 131 else if k = 2 then -1 else nI 0) : RW S c T00 (fun _ => T00) (fun _ _ => 0) := by
  refine ⟨⟨e 0 (by omega), e 8 (by omega), e 9 (by omega), e 10 (by omega), fun h hh => absurd hh (Nat.not_lt_zero _), fun h hh => absurd hh (Nat.not_lt_zero _), fun h hh => absurd hh (Nat.not_lt_zero _), fun h hh => absurd hh (Nat.not_lt_zero _), fun h hh => absurd hh (Nat.not_lt_zero _)⟩, fun j hj => absurd hj (Nat.not_lt_zero _), ⟨e 1 (by omega), e 2 (by omega), e 3 (by omega), e 4 (by omega), e 5 (by omega)⟩, fun k hk => absurd hk (Nat.not_lt_zero _), fun k hk => absurd hk (Nat.not_lt_zero _), fun h hh => absurd hh (Nat.not_lt_zero _)⟩
theorem begins : Begins Inv := by
  intro S
  obtain ⟨F, hF⟩ := big_F
  have a1 : ∀ u k, u < 375 → (sM (xS eE S 375)).1 u k = s0 u k := fun u k hu => by
    unfold sM
    rw [sq_off (by omega), sq_off (by omega)]
    show (if u = 375 then g9 k else if 375 ≤ u ∧ u < 390 then s0 u k else (if 0 ≤ u ∧ u < 375 then s0 u k else S.1 u k)) = _
    rw [if_neg (by omega), if_neg (by omega), if_pos (by omega)]
  have a2 : ∀ k, k < 2308 → (sM (xS eE S 375)).1 376 k = if k = 9 then nI 131 else if k = 2 then -1 else nI 0 := fun k _ => by
    unfold sM
    by_cases q2 : k = 2
    · rw [if_neg (by omega), if_pos q2, q2, sq_hit]
    · rw [sq_off (by omega)]
      by_cases q9 : k = 9
      · rw [if_pos q9, q9, sq_hit]; rfl
      · rw [if_neg q9, if_neg q2, sq_off (by omega)]
        show (if (376 : Nat) = 375 then g9 k else if 375 ≤ 376 ∧ 376 < 390 then s0 376 k else (xS eE S 375).1 376 k) = _
        rw [if_neg (by omega), if_pos (by omega)]
        have hk : kd0 376 ≠ 6 ∧ kd0 376 ≠ 7 ∧ kd0 376 ≠ 4 ∧ kd0 376 ≠ 9 := by decide +kernel
        unfold s0
        rw [if_neg (fun q => hk.1 q.1), if_neg (fun q => hk.2.1 q.1), if_neg (fun q => hk.2.2.1 q.1), if_neg (fun q => hk.2.2.2 q.1)]
        rfl
  have a3 : ∀ k, (sM (xS eE S 375)).1 375 k = g9 k := fun k => by
    unfold sM
    rw [sq_off (by omega), sq_off (by omega)]
    show (if (375 : Nat) = 375 then g9 k else if 375 ≤ 375 ∧ 375 < 390 then s0 375 k else (xS eE S 375).1 375 k) = _
    exact if_pos rfl
  refine ⟨F, _, x9_cpy (S := sM (xS eE S 375)) (by omega) (by decide), T00, fun _ => T00, fun _ _ => 0, T00, fun _ => T00, fun _ _ => 0, fun _ => T00, ?_⟩
  generalize sM (xS eE S 375) = X at *
  have b : ∀ u k, u ≠ 377 → (sF X 377 (fillg (X.1 377) (X.1 376) 0 (fun k => k) 2308)).1 u k = X.1 u k := fun u k hu => sF_u hu
  have b7 : ∀ k, k < 2308 → (sF X 377 (fillg (X.1 377) (X.1 376) 0 (fun k => k) 2308)).1 377 k = X.1 376 k := fun k hk => by
    rw [sF_c, fg_in (by omega) (by omega)]
    rfl
  generalize sF X 377 (fillg (X.1 377) (X.1 376) 0 (fun k => k) 2308) = Y at *
  have c : ∀ u k, u < 375 → Y.1 u k = s0 u k := fun u k hu => (b u k (by omega)).trans (a1 u k hu)
  refine ⟨CW_0 (Or.inl rfl) c, RW_0 (fun k hk => (b _ _ (by omega)).trans (a2 k hk)), WV_0, CW_0 (Or.inr rfl) c, RW_0 (fun k hk => (b7 k hk).trans (a2 k hk)), WV_0, Nat.le_refl _, fun i hi => absurd hi (Nat.not_lt_zero _), ⟨0, by omega, ?_, ?_, fun k hk => absurd hk (Nat.not_lt_zero _)⟩, Or.inl ⟨?_, ?_, ?_⟩, fun l hl => ⟨?_, ?_⟩⟩
  · rw [c _ _ (by omega)]; decide +kernel
  · rw [b _ _ (by omega), a3]; rfl
  · rw [c _ _ (by omega)]; decide +kernel
  · rw [b _ _ (by omega), a3]; rfl
  · rw [b _ _ (by omega), a3]; rfl
  · rw [c _ _ (by omega)]
    exact (by decide +kernel : ∀ l, l < 3 → s0 34 l = nI 0) l hl
  · rw [c _ _ (by omega)]
    exact (by decide +kernel : ∀ l, l < 3 → s0 35 l = nI 0) l hl
