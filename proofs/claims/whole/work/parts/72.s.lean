/-! ===== marry, forget, hat ===== -/
/-- the houses h and g made one -/
def maT (T : Tw) (h g m : Nat) : Tw := tu (tu (tu (tu T 1 g m) 2 g (min 9999 (T 2 h + T 2 g))) 3 g (min 99 (T 3 h + T 3 g))) 0 1 (T 0 1 ||| 2 ^ h)
section
variable {F : Nat} {S : mS} {T : Tw}
theorem ma_Wf (hW : Wf T) {h g m : Nat} (hh : h < T 0 0) (hm : m < 1048576) (hm3 : pcf 20 m ≤ 3) : Wf (maT T h g m) := by
  refine (((hW.shut hm hm3).purse (Nat.min_le_left _ _)).friends (Nat.min_le_left _ _)).gone (Nat.or_lt_two_pow hW.2.1 (Nat.pow_lt_pow_right (by decide) hh))
theorem x6_joinS (hC : CT S 41 T) (hW : Wf T) {h g m : Nat} (hh : h < T 0 0) (hg : g < T 0 0) (hne : h ≠ g) (ah : (T 0 1).testBit h = false) (ag : (T 0 1).testBit g = false) : ∃ S', f_X6_join F S 41 (nI h) (nI g) (nI m) = some S' ∧ CT S' 41 (maT T h g m) ∧ Ft S S' := by
  have w0 := hW.1
  have hp := (hW.2.2.2.2.2.1 h hh)
  have gp := (hW.2.2.2.2.2.1 g hg)
  have p1 : S.1 43 h = nI (T 2 h) := hC.2.2.2.2.2.2.1 h hh
  have p2 : S.1 43 g = nI (T 2 g) := hC.2.2.2.2.2.2.1 g hg
  have f1 : S.1 44 h = nI (T 3 h) := hC.2.2.2.2.2.2.2.1 h hh
  have f2 : S.1 44 g = nI (T 3 g) := hC.2.2.2.2.2.2.2.1 g hg
  have g6 : S.1 41 6 = nI (T 0 1) := hC.2.1
  refine ⟨sI (sI (sI (sI S 42 g (nI m)) 43 g (nI (min 9999 (T 2 h + T 2 g)))) 44 g (nI (min 99 (T 3 h + T 3 g)))) 41 6 (nI (T 0 1 ||| 2 ^ h)), ?_, (((hC.shut (g := g) (v := m)).purse (g := g)).friends (g := g)).gone, (((ft_sI (by omega)).trans (ft_sI (by omega))).trans (ft_sI (by omega))).trans (ft_sI (by omega))⟩
  rw [u_X6_join, x6_livesn hC hW hh, x6_livesn hC hW hg, ah, ag, if_pos (by decide), if_pos (by decide)]
  simp (disch := omega) only [inb_n, ck_t, ↓stp_s, nI_clamp, Nat.reduceAdd, sq_hit, sq_off, p1, p2, f1, f2, g6, nI_add, imin_n, i_shl, fa_or]
theorem x9_joinS (hR : RT S 376 T) (hW : Wf T) {h g m : Nat} (hh : h < T 0 0) (hg : g < T 0 0) (hne : h ≠ g) : ∃ S', (bd (f_X9_put F S 375 (nI g) (nI 0) (nI m)) fun q3 => bd (f_X9_get F q3 375 (nI g) (nI 1)) fun q4 => bd (f_X9_get F q3 375 (nI h) (nI 1)) fun q5 => bd (f_X9_put F q3 375 (nI g) (nI 1) (f_X9_cut q3 (Int32.toInt64 (q4 + q5)) (nI 0) (nI 9999))) fun q6 => bd (f_X9_get F q6 375 (nI g) (nI 2)) fun q7 => bd (f_X9_get F q6 375 (nI h) (nI 2)) fun q8 => bd (f_X9_put F q6 375 (nI g) (nI 2) (f_X9_cut q6 (Int32.toInt64 (q7 + q8)) (nI 0) (nI 99))) fun q9 => bd (f_X9_put F q9 375 (nI h) (nI 3) (nI 1)) fun q10 => some (q10, nI m)) = some (S', nI m) ∧ RT S' 376 (maT T h g m) ∧ Fq S S' := by
  have w0 := hW.1
  have hp := (hW.2.2.2.2.2.1 h hh)
  have gp := (hW.2.2.2.2.2.1 g hg)
  have p1 : S.1 376 (12 + 8 * h + 1) = nI (T 2 h) := hR.2.2.2.2.2.1 h hh
  have p2 : S.1 376 (12 + 8 * g + 1) = nI (T 2 g) := hR.2.2.2.2.2.1 g hg
  have f1 : S.1 376 (12 + 8 * h + 2) = nI (T 3 h) := hR.2.2.2.2.2.2.1 h hh
  have f2 : S.1 376 (12 + 8 * g + 2) = nI (T 3 g) := hR.2.2.2.2.2.2.1 g hg
  refine ⟨sI (sI (sI (sI S 376 (12 + 8 * g) (nI m)) 376 (12 + 8 * g + 1) (nI (min 9999 (T 2 h + T 2 g)))) 376 (12 + 8 * g + 2) (nI (min 99 (T 3 h + T 3 g)))) 376 (12 + 8 * h + 3) (nI 1), ?_, (((hR.shut (g := g) (by omega)).purse (g := g) (by omega)).friends (g := g) (by omega)).gone1 (by omega), (((fq_sI (by omega)).trans (fq_sI (by omega))).trans (fq_sI (by omega))).trans (fq_sI (by omega))⟩
  rw [x9_put _ _ (by omega) (by omega), bd_s, x9_get _ (by omega) (by omega), bd_s, x9_get _ (by omega) (by omega), bd_s, Nat.add_zero, sq_off (by omega), sq_off (by omega), p1, p2, nI_add, cut_n _ (by omega) (by omega), x9_put _ _ (by omega) (by omega), bd_s, x9_get _ (by omega) (by omega), bd_s, x9_get _ (by omega) (by omega), bd_s, sq_off (by omega), sq_off (by omega), sq_off (by omega), sq_off (by omega), f1, f2, nI_add, cut_n _ (by omega) (by omega), x9_put _ _ (by omega) (by omega), bd_s, x9_put _ _ (by omega) (by omega), bd_s, Nat.add_comm (T 2 g), Nat.add_comm (T 3 g)]
end
theorem pcf_and (a b : Nat) : pcf 20 (a &&& b) ≤ pcf 20 a := by
  rw [pcf_ct, pcf_ct]
  refine fb_ct_sub (fun k _ h => ?_)
  rw [Nat.testBit_and, Bool.and_eq_true] at h
  exact h.1
theorem sim_marry {F : Nat} (hF : 3000 < F) {E : Nat → Tw} {T : Tw} {P : Nat → Tw} {N : Tw} (hV : WV T P N) (a b : Int32) : Sim (fun S => f_X8_marry F S 0 a b) (fun S => f_X9_marry F S 375 a b) E T P N (fun _ _ _ r => r = -1 ∨ ∃ n, n < 1048576 ∧ r = nI n) := by
  have hW := hV.1
  have w0 := hW.1
  have nop : (∀ S, CW S 40 T P N → f_X8_marry F S 0 a b = some (S, -1)) → (∀ S, RW S 376 T P N → f_X9_marry F S 375 a b = some (S, -1)) → Sim (fun S => f_X8_marry F S 0 a b) (fun S => f_X9_marry F S 375 a b) E T P N (fun _ _ _ r => r = -1 ∨ ∃ n, n < 1048576 ∧ r = nI n) := fun h8 h9 => Sim.same hV (-1) h8 h9 (Or.inl rfl)
  cases la : lvs T a
  · refine nop (fun S hS => ?_) (fun S hS => ?_)
    · rw [u_X8_marry, u_X6_marriedDates, x6_lives hS.1 hW, la]; rfl
    · rw [u_X9_marry, x9_isHere hS.1 hW, la]; rfl
  cases lb : lvs T b
  · refine nop (fun S hS => ?_) (fun S hS => ?_)
    · rw [u_X8_marry, u_X6_marriedDates, x6_lives hS.1 hW, x6_lives hS.1 hW, la, lb]; rfl
    · rw [u_X9_marry, x9_isHere hS.1 hW, x9_isHere hS.1 hW, la, lb]; rfl
  by_cases e : a = b
  · refine nop (fun S hS => ?_) (fun S hS => ?_)
    · rw [u_X8_marry, u_X6_marriedDates, x6_lives hS.1 hW, x6_lives hS.1 hW, la, lb, if_pos rfl, if_pos rfl, if_pos e]; rfl
    · rw [u_X9_marry, x9_isHere hS.1 hW, x9_isHere hS.1 hW, la, lb, bd_s, bd_s, if_pos rfl, if_pos rfl, if_pos e]
  have la' := la
  have lb' := lb
  unfold lvs at la' lb'
  rcases tld_c a (n := T 0 0) (by omega) with z | ⟨h, hh, rfl, z⟩
  · rw [z, Bool.false_and] at la'; exact absurd la' (by decide)
  rcases tld_c b (n := T 0 0) (by omega) with z2 | ⟨g, hg, rfl, z2⟩
  · rw [z2, Bool.false_and] at lb'; exact absurd lb' (by decide)
  rw [z, Bool.true_and, nI_clamp (by omega)] at la'
  rw [z2, Bool.true_and, nI_clamp (by omega)] at lb'
  have ah : (T 0 1).testBit h = false := by cases q : (T 0 1).testBit h; rfl; rw [q] at la'; exact absurd la' (by decide)
  have ag : (T 0 1).testBit g = false := by cases q : (T 0 1).testBit g; rfl; rw [q] at lb'; exact absurd lb' (by decide)
  have hne : h ≠ g := fun w => e (by rw [w])
  have hp := (hW.2.2.2.2.2.1 h hh)
  have gp := (hW.2.2.2.2.2.1 g hg)
  have b1 : T 1 h &&& T 1 g < 1048576 := Nat.lt_of_le_of_lt Nat.and_le_left hp.1
  have b2 : T 1 h ||| T 1 g < 1048576 := or_lt20 hp.1 gp.1
  have b3 : pcf 20 (T 1 h &&& T 1 g) ≤ 3 := Nat.le_trans (pcf_and _ _) hp.2.1
  have e8 : ∀ S, CW S 40 T P N → f_X6_marriedDates F S 41 (nI h) (nI g) = some (if T 1 h &&& T 1 g = 0 then (if 3 < pcf 20 (T 1 h ||| T 1 g) then -1 else nI (T 1 h ||| T 1 g)) else nI (T 1 h &&& T 1 g)) := fun S hS => by
    have cs : ∀ h, h < T 0 0 → S.1 (41 + 1) h = nI (T 1 h) := hS.1.2.2.2.2.2.1
    have q1 := pcf_le 20 (T 1 h ||| T 1 g)
    rw [u_X6_marriedDates, x6_lives hS.1 hW, x6_lives hS.1 hW, la, lb, if_pos rfl, if_pos rfl, if_neg e, inb_n (by omega) (by omega), inb_n (by omega) (by omega), ck_t, ck_t, ck_t, ck_t, nI_clamp (by omega), nI_clamp (by omega), cs h hh, cs g hg, fa_and, fa_or, bc_n b2]
    simp (disch := omega) only [nI_eq, nI_ltI, some_ite]
  have e9 : ∀ S, RW S 376 T P N → f_X9_marry F S 375 (nI h) (nI g) = (if T 1 h &&& T 1 g = 0 then lX9_marry_58 F 375 (nI h) (nI g) S (nI (T 1 h ||| T 1 g)) else lX9_marry_58 F 375 (nI h) (nI g) S (nI (T 1 h &&& T 1 g))) := fun S hS => by
    rw [u_X9_marry, x9_isHere hS.1 hW, x9_isHere hS.1 hW, la, lb, bd_s, bd_s, if_pos rfl, if_pos rfl, if_neg e, x9_shut hS.1 hW hh, x9_shut hS.1 hW hg, bd_s, bd_s, bd_s, bd_s, fa_and, fa_or]
    simp (disch := omega) only [nI_eq]
  have main : ∀ m, m < 1048576 → pcf 20 m ≤ 3 → (∀ S, CW S 40 T P N → f_X6_marriedDates F S 41 (nI h) (nI g) = some (nI m)) → (∀ S, RW S 376 T P N → f_X9_marry F S 375 (nI h) (nI g) = lX9_marry_58 F 375 (nI h) (nI g) S (nI m)) → Sim (fun S => f_X8_marry F S 0 (nI h) (nI g)) (fun S => f_X9_marry F S 375 (nI h) (nI g)) E T P N (fun _ _ _ r => r = -1 ∨ ∃ n, n < 1048576 ∧ r = nI n) := fun m hm hm3 h8 h9 => by
    refine Sim.kept (g8 := fun q2 => bd (f_X6_join F q2 41 (nI h) (nI g) (nI m)) fun q3 => some (q3, nI m)) (g9 := fun q2 => (bd (f_X9_put F q2 375 (nI g) (nI 0) (nI m)) fun q3 => bd (f_X9_get F q3 375 (nI g) (nI 1)) fun q4 => bd (f_X9_get F q3 375 (nI h) (nI 1)) fun q5 => bd (f_X9_put F q3 375 (nI g) (nI 1) (f_X9_cut q3 (Int32.toInt64 (q4 + q5)) (nI 0) (nI 9999))) fun q6 => bd (f_X9_get F q6 375 (nI g) (nI 2)) fun q7 => bd (f_X9_get F q6 375 (nI h) (nI 2)) fun q8 => bd (f_X9_put F q6 375 (nI g) (nI 2) (f_X9_cut q6 (Int32.toInt64 (q7 + q8)) (nI 0) (nI 99))) fun q9 => bd (f_X9_put F q9 375 (nI h) (nI 3) (nI 1)) fun q10 => some (q10, nI m))) (T' := maT T h g m) (r := nI m) hF hV (fun S hS => ?_) (fun S hS => ?_) (fun S hS _ => ?_) (fun S hS _ => ?_) (ma_Wf hW hh hm hm3) rfl (Or.inr ⟨m, hm, rfl⟩)
    · show f_X8_marry F S 0 (nI h) (nI g) = _
      rw [u_X8_marry, h8 S hS, bd_s, if_neg (by rw [n_m1 (by omega)]; exact fun q => q)]
    · show f_X9_marry F S 375 (nI h) (nI g) = _
      rw [h9 S hS, u_X9_marry_58, bits_f (by omega) hm, bd_s, if_pos (nI_le hm3 (by omega))]
    · obtain ⟨S', u, c, f⟩ := x6_joinS (F := F) (m := m) hS.1 hW hh hg hne ah ag
      exact ⟨S', by show bd _ _ = _; rw [u, bd_s], c, f⟩
    · exact x9_joinS hS.1 hW hh hg hne
  by_cases y : T 1 h &&& T 1 g = 0
  · by_cases y2 : 3 < pcf 20 (T 1 h ||| T 1 g)
    · have q1 := pcf_le 20 (T 1 h ||| T 1 g)
      refine nop (fun S hS => ?_) (fun S hS => ?_)
      · rw [u_X8_marry, e8 S hS, if_pos y, if_pos y2, bd_s, if_pos rfl]
      · rw [e9 S hS, if_pos y, u_X9_marry_58, bits_f (by omega) b2, bd_s, if_neg (nI_ge y2 (by omega))]
    · exact main _ b2 (by omega) (fun S hS => by rw [e8 S hS, if_pos y, if_neg y2]) (fun S hS => by rw [e9 S hS, if_pos y])
  · exact main _ b1 b3 (fun S hS => by rw [e8 S hS, if_neg y]) (fun S hS => by rw [e9 S hS, if_neg y])
theorem st_marry : ∀ S, Inv S → ∀ a1 a2, Step μX8_marry μX9_marry Inv S [.int a1, .int a2] := by
  intro S hI a b
  obtain ⟨T, P, N, T1, P1, N1, E, hI⟩ := hI
  obtain ⟨F, hF⟩ := big_F
  obtain ⟨S1, S2, r, h1, h2, h3⟩ := (sim_marry (F := F) (by omega) hI.2.2.1 a b).run hI
  exact stepW (S1 := S1) (S2 := S2) (r := r) (c_X8_marry k_0 h1) (c_X9_marry k_375 h2) h3 (by decide) (by decide)
