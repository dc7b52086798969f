/-! ===== text ===== -/
theorem va_n {f g : Nat → Int32} {n k : Nat} (h : k < n) : va_cpy f g 0 0 n k = f k := by
  unfold va_cpy
  rw [if_pos (by omega)]
  exact congrArg f (by omega)
theorem XP_0 : XP (fun _ _ => 0) 0 := ⟨Nat.zero_le _, fun c hc => absurd hc (Nat.not_lt_zero _), fun l _ => ⟨Nat.le_refl _, Nat.le_refl _⟩, fun l _ h => absurd h (Nat.lt_irrefl _), fun p hp => absurd hp (Nat.not_lt_zero _)⟩
theorem x5_clear {F : Nat} {S : mS} (hF : 10 < F) : ∃ S', f_X5_clear F S 3 = some S' ∧ S'.1 3 1 = nI 0 ∧ S'.1 3 5 = nI 0 ∧ (∀ l, l < 3 → S'.1 5 l = nI 0 ∧ S'.1 6 l = nI 0) ∧ ∀ u k, ¬ (u = 3 ∧ (k = 1 ∨ k = 5)) → u ≠ 5 → u ≠ 6 → S'.1 u k = S.1 u k := by
  obtain ⟨G, rfl⟩ : ∃ G, F = G + 1 + 1 + 1 + 1 := ⟨F - 4, by omega⟩
  refine ⟨sI (sI (sI (sI (sI (sI (sI (sI S 3 1 (nI 0)) 3 5 (nI 0)) 5 0 (nI 0)) 6 0 (nI 0)) 5 1 (nI 0)) 6 1 (nI 0)) 5 2 (nI 0)) 6 2 (nI 0), ?_, ?_, ?_, fun l hl => ?_, fun u k a b c => ?_⟩
  · rw [u_X5_clear, stp_s, stp_s, u_X5_clear_12, if_neg (by decide), inb_n (by omega) (by omega), ck_t, stp_s, ck_t, stp_s, nI_clamp (by omega), nI_add, u_X5_clear_12, if_neg (by decide), inb_n (by omega) (by omega), ck_t, stp_s, ck_t, stp_s, nI_clamp (by omega), nI_add, u_X5_clear_12, if_neg (by decide), inb_n (by omega) (by omega), ck_t, stp_s, ck_t, stp_s, nI_clamp (by omega), nI_add, u_X5_clear_12, if_pos (by decide)]
  · simp (disch := omega) only [sq_hit, sq_off]
  · simp (disch := omega) only [sq_hit, sq_off]
  · have hc : l = 0 ∨ l = 1 ∨ l = 2 := by omega
    rcases hc with rfl | rfl | rfl
    · simp (disch := omega) only [sq_hit, sq_off]
      exact ⟨trivial, trivial⟩
    · simp (disch := omega) only [sq_hit, sq_off]
      exact ⟨trivial, trivial⟩
    · simp (disch := omega) only [sq_hit, sq_off]
      exact ⟨trivial, trivial⟩
  · simp (disch := omega) only [sq_off]
section
variable {F : Nat} {B : Nat → Nat} {L : Nat} {S : mS}
theorem x4_read (hF : 1000 < F) (hB : BL B L) (hT : TC S B L) : ∃ S0 S' n, f_X4_read F S 2 1 (nI L) = some S' ∧ (∀ u k, u < 2 ∨ 10 < u → S'.1 u k = S.1 u k) ∧ (∀ k, 300 ≤ k → kp B k = 0) ∧ ((tTx (kp B) (vp B) 25 (fun _ _ => 0) 0 0).1 = 0 → CK S0 S' n (kp B) (vp B) (tS B) (tTx (kp B) (vp B) 25 (fun _ _ => 0) 0 0).2.1 (tTx (kp B) (vp B) 25 (fun _ _ => 0) 0 0).2.2.1 (tTx (kp B) (vp B) 25 (fun _ _ => 0) 0 0).2.2.2 ∧ XP (tTx (kp B) (vp B) 25 (fun _ _ => 0) 0 0).2.2.1 (tTx (kp B) (vp B) 25 (fun _ _ => 0) 0 0).2.2.2) ∧ ((tTx (kp B) (vp B) 25 (fun _ _ => 0) 0 0).1 ≠ 0 → DQ S0 S' (tS B) (tTx (kp B) (vp B) 25 (fun _ _ => 0) 0 0).1 (tTx (kp B) (vp B) 25 (fun _ _ => 0) 0 0).2.1) := by
  have h0 := hB.1
  rw [u_X4_read, stp_s, stp_s, stp_s]
  have e3 : ∀ u k, ¬ (u = 2 ∧ (k = 1 ∨ k = 2 ∨ k = 7)) → (sI (sI (sI S 2 1 (nI 0)) 2 2 (-1)) 2 7 (nI 0)).1 u k = S.1 u k := fun u k q => by rw [sq_off (by omega), sq_off (by omega), sq_off (by omega)]
  have a1 : (sI (sI (sI S 2 1 (nI 0)) 2 2 (-1)) 2 7 (nI 0)).1 2 1 = nI 0 := by rw [sq_off (by omega), sq_off (by omega), sq_hit]
  have a2 : (sI (sI (sI S 2 1 (nI 0)) 2 2 (-1)) 2 7 (nI 0)).1 2 2 = -1 := by rw [sq_off (by omega), sq_hit]
  have a7 : (sI (sI (sI S 2 1 (nI 0)) 2 2 (-1)) 2 7 (nI 0)).1 2 7 = nI 0 := sq_hit _ _ _ _
  generalize sI (sI (sI S 2 1 (nI 0)) 2 2 (-1)) 2 7 (nI 0) = S3 at *
  obtain ⟨S4, x4, b1, b5, b6, b7⟩ := x5_clear (F := F) (S := S3) (by omega)
  rw [x4, bd_s, imin_n (by omega) (by omega), show min L 300 = L by omega, u_X4_splitUp, stp_s]
  have e5 : ∀ u k, ¬ (u = 2 ∧ k = 6) → (sI S4 2 6 (nI 0)).1 u k = S4.1 u k := fun u k q => sq_off (by omega)
  have e56 : (sI S4 2 6 (nI 0)).1 2 6 = nI 0 := sq_hit _ _ _ _
  generalize sI S4 2 6 (nI 0) = S5 at *
  obtain ⟨S6, n, y1, y2, y3⟩ := x4_sp (F := F) hF hB (S0 := S5) 301 0 F 0 (S := S5) (by omega) (by omega) (by omega) (by omega) rfl e56 (fun j hj => absurd hj (Nat.not_lt_zero _)) (fun k hk => (e5 _ _ (by omega)).trans ((b7 _ _ (by omega) (by omega) (by omega)).trans ((e3 _ _ (by omega)).trans (hT k hk)))) (fun _ _ _ _ _ _ => rfl)
  have f6 : ∀ u k, ¬ (u = 2 ∧ k = 6) → u ≠ 8 → u ≠ 9 → u ≠ 10 → S6.1 u k = S4.1 u k := fun u k p1 p2 p3 p4 => (y3 u k p1 p2 p3 p4).trans (e5 u k p1)
  have hC : CK S6 S6 n (kp B) (vp B) (tS B) 0 (fun _ _ => 0) 0 := by
    refine ⟨y2, ?_, ?_, ?_, Nat.zero_le _, Nat.le_refl _, ⟨?_, ?_, fun c hc => absurd hc (Nat.not_lt_zero _), fun l hl => ⟨?_, ?_⟩, fun p hp => absurd hp (Nat.not_lt_zero _)⟩, fun _ _ _ => rfl⟩
    · rw [f6 _ _ (by omega) (by omega) (by omega) (by omega), b7 _ _ (by omega) (by omega) (by omega)]; exact a1
    · rw [f6 _ _ (by omega) (by omega) (by omega) (by omega), b7 _ _ (by omega) (by omega) (by omega)]; exact a2
    · rw [f6 _ _ (by omega) (by omega) (by omega) (by omega), b7 _ _ (by omega) (by omega) (by omega)]; exact a7
    · rw [f6 _ _ (by omega) (by omega) (by omega) (by omega)]; exact b5
    · rw [f6 _ _ (by omega) (by omega) (by omega) (by omega)]; exact b1
    · rw [f6 _ _ (by omega) (by omega) (by omega) (by omega)]; exact (b6 l hl).1
    · rw [f6 _ _ (by omega) (by omega) (by omega) (by omega)]; exact (b6 l hl).2
  obtain ⟨S7, z1, z2, z3⟩ := x4_35 (F := F) (by omega) (a1 := 1) (a2 := nI L) 25 F (S0 := S6) (S := S6) (i := 0) (E := fun _ _ => 0) (z := 0) rfl (by omega) hC XP_0
  have z1 : lX4_read_35 F 2 1 (nI L) F S6 (nI 0) = some S7 := z1
  refine ⟨S6, S7, n, ?_, fun u k hu => ?_, y2.N, z2, z3⟩
  · rw [y1, bd_s]; exact z1
  · have e7 : S7.1 u k = S6.1 u k := by
      by_cases q : (tTx (kp B) (vp B) 25 (fun _ _ => 0) 0 0).1 = 0
      · exact (z2 q).1.2.2.2.2.2.2.2 u k (by omega)
      · exact (z3 q).2.2.2.2.2 u k (by omega)
    rw [e7, f6 _ _ (by omega) (by omega) (by omega) (by omega), b7 _ _ (by omega) (by omega) (by omega)]
    exact e3 u k (by omega)
theorem x9_read (hF : 1000 < F) (hB : BL B L) (hT : TP S B L) (hN : ∀ k, 300 ≤ k → kp B k = 0) {nt : Nat} (hn : nt < 4) (h1 : S.1 376 1 = nI nt) : ((tTx (kp B) (vp B) 25 (fun _ _ => 0) 0 0).1 = 0 → ∃ S', f_X9_readText F S 375 = some (S', nI 0) ∧ RK B L S S' (705 * nt) (tTx (kp B) (vp B) 25 (fun _ _ => 0) 0 0).2.1 (tTx (kp B) (vp B) 25 (fun _ _ => 0) 0 0).2.2.1 (tTx (kp B) (vp B) 25 (fun _ _ => 0) 0 0).2.2.2) ∧ ((tTx (kp B) (vp B) 25 (fun _ _ => 0) 0 0).1 ≠ 0 → ∃ S', f_X9_readText F S 375 = some (S', nI (tTx (kp B) (vp B) 25 (fun _ _ => 0) 0 0).1) ∧ S'.1 375 8 = nI (tS B (tTx (kp B) (vp B) 25 (fun _ _ => 0) 0 0).2.1) ∧ FK (705 * nt) S S') := by
  have h0 := hB.1
  rw [u_X9_readText, inb_n (by omega) (by omega), ck_t, nI_clamp (by omega), h1, pk_mul, stp_s, sq_hit, inb_n (by omega) (by omega), ck_t, stp_s, nI_clamp (by omega), stp_s, stp_s, stp_s]
  have e5 : ∀ u k, ¬ (u = 375 ∧ (k = 7 ∨ k = 12 ∨ k = 13 ∨ k = 20)) → ¬ (u = 378 ∧ k = 705 * nt) → (sI (sI (sI (sI (sI S 375 12 (nI (705 * nt))) 378 (705 * nt) (nI 0)) 375 13 (nI 0)) 375 20 (nI 0)) 375 7 (nI 0)).1 u k = S.1 u k := fun u k p q => by rw [sq_off (by omega), sq_off (by omega), sq_off (by omega), sq_off (by omega), sq_off (by omega)]
  have a7 : (sI (sI (sI (sI (sI S 375 12 (nI (705 * nt))) 378 (705 * nt) (nI 0)) 375 13 (nI 0)) 375 20 (nI 0)) 375 7 (nI 0)).1 375 7 = nI 0 := sq_hit _ _ _ _
  have a12 : (sI (sI (sI (sI (sI S 375 12 (nI (705 * nt))) 378 (705 * nt) (nI 0)) 375 13 (nI 0)) 375 20 (nI 0)) 375 7 (nI 0)).1 375 12 = nI (705 * nt) := by rw [sq_off (by omega), sq_off (by omega), sq_off (by omega), sq_off (by omega), sq_hit]
  have a13 : (sI (sI (sI (sI (sI S 375 12 (nI (705 * nt))) 378 (705 * nt) (nI 0)) 375 13 (nI 0)) 375 20 (nI 0)) 375 7 (nI 0)).1 375 13 = nI 0 := by rw [sq_off (by omega), sq_off (by omega), sq_hit]
  have a20 : (sI (sI (sI (sI (sI S 375 12 (nI (705 * nt))) 378 (705 * nt) (nI 0)) 375 13 (nI 0)) 375 20 (nI 0)) 375 7 (nI 0)).1 375 20 = nI 0 := by rw [sq_off (by omega), sq_hit]
  have ab : (sI (sI (sI (sI (sI S 375 12 (nI (705 * nt))) 378 (705 * nt) (nI 0)) 375 13 (nI 0)) 375 20 (nI 0)) 375 7 (nI 0)).1 378 (705 * nt) = nI 0 := by rw [sq_off (by omega), sq_off (by omega), sq_off (by omega), sq_hit]
  generalize sI (sI (sI (sI (sI S 375 12 (nI (705 * nt))) 378 (705 * nt) (nI 0)) 375 13 (nI 0)) 375 20 (nI 0)) 375 7 (nI 0) = S7 at *
  have hT7 : TP S7 B L := hT.fr (e5 _ _ (by omega) (by omega)) (fun k => e5 _ _ (by omega) (by omega))
  obtain ⟨S8, x1, x2, x3⟩ := x9_nt (F := F) hF hB hT7 a7 (Nat.zero_le _)
  have x2 : TQ B S8 (tS B 0) := x2
  rw [x1, bd_s]
  have hR : RK B L S S8 (705 * nt) 0 (fun _ _ => 0) 0 := by
    refine ⟨x2, ⟨sk_le hB (Nat.zero_le _), Nat.zero_le _⟩, (x3 _ _ (by omega)).trans a12, hT7.fr (x3 _ _ (by omega)) (fun k => x3 _ _ (by omega)), ⟨(x3 _ _ (by omega)).trans ab, (x3 _ _ (by omega)).trans a13, fun c hc => absurd hc (Nat.not_lt_zero _), fun p hp => absurd hp (Nat.not_lt_zero _), 0, by omega, (x3 _ _ (by omega)).trans a20, fun l hl => ?_⟩, Nat.le_refl _, fun u k p1 p2 p3 => (x3 u k (by omega)).trans (e5 u k (by omega) (by omega))⟩
    rw [Nat.zero_testBit]
    exact (decide_eq_false (Nat.lt_irrefl _)).symm
  exact x9_43 (F := F) hF hB hN (by omega) 25 F rfl (by omega) hR XP_0
end
/-- texts by their rows -/
theorem TR_of {S : mS} {i z : Nat} {E : Tw} (h1 : XC S (12 + 5 * i) E z) (h2 : XR S (705 * i) E z) (hP : XP E z) (hz : z ≤ 300) : TR S i E := by
  obtain ⟨a1, a2, a3, a4, a5⟩ := h1
  obtain ⟨b1, b2, b3, b4, -⟩ := h2
  obtain ⟨p1, p2, p3, p4, p5⟩ := hP
  refine ⟨p1, a1, b1, fun c hc => ⟨(p2 c hc).1, (a3 c hc).1, (b3 c hc).1⟩, fun c hc h3 => ?_, fun c hc h3 => ?_, fun c hc h3 => ⟨(a3 c hc).2.2.2 h3, (b3 c hc).2.2.2.1 h3, (p2 c hc).2.2.2.1 h3⟩, fun l hl => ?_, fun c hc h3 => ⟨(p2 c hc).2.2.2.2 h3, (b3 c hc).2.2.2.2 h3⟩, fun l hl h3 => p4 l hl h3, fun p hp ⟨l, hl, q1, q2⟩ => ?_⟩
  · exact ⟨(a3 c hc).2.1 h3, (b3 c hc).2.1 h3, (p2 c hc).2.1 h3⟩
  · exact ⟨(a3 c hc).2.2.1 h3, (b3 c hc).2.2.1 h3, (p2 c hc).2.2.1 h3⟩
  · have := p3 l hl
    exact ⟨(a4 l hl).1, (a4 l hl).2, by omega, by omega⟩
  · have := p3 l hl
    have pz : p < z := by omega
    exact ⟨a5 p pz, p5 p pz, b4 p pz⟩
theorem TR.fr2 {S S' : mS} {i : Nat} {E : Tw} (h : TR S i E) (e : ∀ u k, 12 + 5 * i ≤ u → u ≤ 16 + 5 * i → S'.1 u k = S.1 u k) (e2 : ∀ k, 705 * i ≤ k → k < 705 * i + 705 → S'.1 378 k = S.1 378 k) : TR S' i E := by
  have a0 : ∀ k, S'.1 (12 + 5 * i) k = S.1 (12 + 5 * i) k := fun k => e _ _ (by omega) (by omega)
  have a1 : ∀ k, S'.1 (12 + 5 * i + 1) k = S.1 (12 + 5 * i + 1) k := fun k => e _ _ (by omega) (by omega)
  have a2 : ∀ k, S'.1 (12 + 5 * i + 2) k = S.1 (12 + 5 * i + 2) k := fun k => e _ _ (by omega) (by omega)
  have a3 : ∀ k, S'.1 (12 + 5 * i + 3) k = S.1 (12 + 5 * i + 3) k := fun k => e _ _ (by omega) (by omega)
  have a4 : ∀ k, S'.1 (12 + 5 * i + 4) k = S.1 (12 + 5 * i + 4) k := fun k => e _ _ (by omega) (by omega)
  obtain ⟨h1, h2, h3, h4, h5, h6, h7, h8, h9, h10, h11⟩ := h
  refine ⟨h1, (a0 _).trans h2, (e2 _ (by omega) (by omega)).trans h3, fun c hc => ?_, fun c hc q => ?_, fun c hc q => ?_, fun c hc q => ?_, fun l hl => ?_, fun c hc q => ?_, h10, fun p hp q => ?_⟩
  · rw [a4, e2 _ (by omega) (by omega)]; exact h4 c hc
  · rw [a4, e2 _ (by omega) (by omega)]; exact h5 c hc q
  · rw [a4, e2 _ (by omega) (by omega)]; exact h6 c hc q
  · rw [a4, e2 _ (by omega) (by omega)]; exact h7 c hc q
  · rw [a2, a3]; exact h8 l hl
  · rw [e2 _ (by omega) (by omega), e2 _ (by omega) (by omega)]; exact h9 c hc q
  · rw [a1, e2 _ (by omega) (by omega), e2 _ (by omega) (by omega)]; exact h11 p hp q
theorem x5_copy {F : Nat} {S : mS} {t z : Nat} {E : Tw} (ht : 12 ≤ t) (h : XC S 3 E z) (hP : XP E z) (hz : z ≤ 300) : ∃ S', f_X5_copyFrom F S t 3 = some S' ∧ XC S' t E z ∧ ∀ u k, ¬ (t ≤ u ∧ u ≤ t + 4) → S'.1 u k = S.1 u k := by
  obtain ⟨a1, a2, a3, a4, a5⟩ := h
  have e24 := hP.1
  have c1 : cpo (nI 0) (nI 0) (nI 300) 300 300 = true := cpo_n (by omega) (by omega) (by omega) (by omega)
  have c2 : cpo (nI 0) (nI 0) (nI 3) 3 3 = true := cpo_n (by omega) (by omega) (by omega) (by omega)
  have c3 : cpo (nI 0) (nI 0) (nI 96) 96 96 = true := cpo_n (by omega) (by omega) (by omega) (by omega)
  rw [u_X5_copyFrom, c1, ck_t, stp_s, stp_s, c2, ck_t, stp_s, ck_t, stp_s, c3, ck_t, stp_s, stp_s, nI_clamp (by omega), nI_clamp (by omega), nI_clamp (by omega), nI_clamp (by omega)]
  refine ⟨_, rfl, ⟨?_, ?_, fun c hc => ?_, fun l hl => ?_, fun p hp => ?_⟩, fun u k q => ?_⟩
  · rw [sq_hit, sC_u (by omega), sC_u (by omega), sC_u (by omega), sq_off (by omega), sC_u (by omega)]; exact a1
  · rw [sq_off (by omega), sC_u (by omega), sC_u (by omega), sC_u (by omega), sq_hit, sC_u (by omega)]; exact a2
  · have row : ∀ k, k < 96 → (sI (sC (sC (sC (sI (sC S (3 + 1) (t + 1) 0 0 300) t 1 ((sC S (3 + 1) (t + 1) 0 0 300).1 3 1)) (3 + 2) (t + 2) 0 0 3) (3 + 3) (t + 3) 0 0 3) (3 + 4) (t + 4) 0 0 96) t 5 ((sC (sC (sC (sI (sC S (3 + 1) (t + 1) 0 0 300) t 1 ((sC S (3 + 1) (t + 1) 0 0 300).1 3 1)) (3 + 2) (t + 2) 0 0 3) (3 + 3) (t + 3) 0 0 3) (3 + 4) (t + 4) 0 0 96).1 3 5)).1 (t + 4) k = S.1 7 k := fun k hk => by
      rw [sq_off (by omega), sC_b, va_n hk, sC_u (by omega), sC_u (by omega), sq_off (by omega), sC_u (by omega)]
    rw [row _ (by omega), row _ (by omega), row _ (by omega), row _ (by omega)]
    exact a3 c hc
  · refine ⟨?_, ?_⟩
    · rw [sq_off (by omega), sC_u (by omega), sC_u (by omega), sC_b, va_n hl, sq_off (by omega), sC_u (by omega)]; exact (a4 l hl).1
    · rw [sq_off (by omega), sC_u (by omega), sC_b, va_n hl, sC_u (by omega), sq_off (by omega), sC_u (by omega)]; exact (a4 l hl).2
  · rw [sq_off (by omega), sC_u (by omega), sC_u (by omega), sC_u (by omega), sq_off (by omega), sC_b, va_n (by omega)]; exact a5 p hp
  · rw [sq_off (by omega), sC_u (by omega), sC_u (by omega), sC_u (by omega), sq_off (by omega), sC_u (by omega)]
