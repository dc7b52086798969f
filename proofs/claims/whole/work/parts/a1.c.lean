/-! ===== the class reads a text ===== -/
theorem tDd_l {κ vl : Nat → Nat} {s i : Nat} (h : (tDd κ vl s i).1 = 0) : 1 ≤ (tDd κ vl s i).2.2.length ∧ (s = 3 ∨ s = 5 ∨ s = 7 → 2 ≤ (tDd κ vl s i).2.2.length) ∧ (s = 3 → 3 ≤ (tDd κ vl s i).2.2.length) := by
  unfold tDd at h ⊢
  by_cases s3 : s = 3
  · rw [if_pos s3] at h ⊢
    obtain ⟨a1, a2⟩ := tB_z h
    obtain ⟨b1, b2⟩ := tB_z a1
    obtain ⟨c1, c2⟩ := tB_z b1
    obtain ⟨d1, d2⟩ := tB_z c1
    rw [tB_0 a1, (tNm_0 a2).2.2, tB_0 b1, (tEx_0 b2).2, tB_0 c1, (tNm_0 c2).2.2, tB_0 d1, (tEx_0 d2).2, (tNm_0 d1).2.2]
    exact ⟨show 1 ≤ 3 by omega, fun _ => show 2 ≤ 3 by omega, fun _ => Nat.le_refl 3⟩
  rw [if_neg s3] at h ⊢
  by_cases s5 : s = 5
  · rw [if_pos s5] at h ⊢
    obtain ⟨a1, a2⟩ := tB_z h
    obtain ⟨b1, b2⟩ := tB_z a1
    rw [tB_0 a1, (tNm_0 a2).2.2, tB_0 b1, (tEx_0 b2).2, (tNm_0 b1).2.2]
    exact ⟨show 1 ≤ 2 by omega, fun _ => Nat.le_refl 2, fun y => absurd y s3⟩
  rw [if_neg s5] at h ⊢
  by_cases s7 : s = 7
  · rw [if_pos s7] at h ⊢
    obtain ⟨a1, a2⟩ := tB_z h
    obtain ⟨b1, b2⟩ := tB_z a1
    rw [tB_0 a1, (tNm_0 a2).2.2, tB_0 b1, (tEx_0 b2).2, (tNm_0 b1).2.2]
    exact ⟨show 1 ≤ 2 by omega, fun _ => Nat.le_refl 2, fun y => absurd y s3⟩
  rw [if_neg s7] at h ⊢
  by_cases s8 : s = 8
  · rw [if_pos s8] at h ⊢
    rw [(tNm_0 h).2.2]
    exact ⟨Nat.le_refl 1, fun y => by omega, fun y => absurd y s3⟩
  · rw [if_neg s8] at h ⊢
    rw [(tNm_0 h).2.2]
    exact ⟨Nat.le_refl 1, fun y => by omega, fun y => absurd y s3⟩
theorem av_n {l : List Nat} {k : Nat} (h : k < l.length) : av l k = nI (l.getD k 0) := if_pos h
section
variable {F n i z : Nat} {κ vl ps : Nat → Nat} {S0 S : mS} {E : Tw}
theorem CK.adv {S' : mS} {j : Nat} (h : CK S0 S n κ vl ps i E z) (h' : CQ S S' n z j []) : CK S0 S' n κ vl ps j E z := by
  obtain ⟨h1, h2, h3, h4, h5, h6, ⟨x1, x2, x3, x4, x5⟩, h8⟩ := h
  obtain ⟨g1, g2, g3, g4, g5, g6, g7⟩ := h'
  have g5 : z + 0 ≤ j := g5
  have e : ∀ u k, ¬ (u = 2 ∧ k = 7) → ¬ (u = 3 ∧ k = 1) → u ≠ 4 → S'.1 u k = S.1 u k := fun u k a b c => g7 u k a b (fun y => c y.1)
  refine ⟨h1.fr (e _ _ (by omega) (by omega) (by omega)) (fun k => e _ _ (by omega) (by omega) (by omega)) (fun k => e _ _ (by omega) (by omega) (by omega)) (fun k => e _ _ (by omega) (by omega) (by omega)), g1, (e _ _ (by omega) (by omega) (by omega)).trans h3, g2, g6, by omega, ⟨(e _ _ (by omega) (by omega) (by omega)).trans x1, g3, fun c hc => ?_, fun l hl => ?_, fun p hp => ?_⟩, fun u k y => (e u k (by omega) (by omega) (by omega)).trans (h8 u k y)⟩
  · rw [e _ _ (by omega) (by omega) (by omega), e _ _ (by omega) (by omega) (by omega), e _ _ (by omega) (by omega) (by omega), e _ _ (by omega) (by omega) (by omega)]
    exact x3 c hc
  · rw [e _ _ (by omega) (by omega) (by omega), e _ _ (by omega) (by omega) (by omega)]
    exact x4 l hl
  · rw [g7 _ _ (by omega) (by omega) (by omega)]
    exact x5 p hp
/-- a clause added: the rows of the class -/
theorem XC_dd {S2 : mS} {s : Nat} {l : List Nat} (hX : XC S 3 E z) (hs : 3 ≤ s) (e1 : S2.1 3 1 = nI z) (e : ∀ u k, ¬ (u = 2 ∧ k = 7) → ¬ (u = 3 ∧ k = 1) → ¬ (u = 4 ∧ z ≤ k) → S2.1 u k = S.1 u k) (hl : 1 ≤ l.length ∧ (s = 3 ∨ s = 5 ∨ s = 7 → 2 ≤ l.length) ∧ (s = 3 → 3 ≤ l.length)) : XC (apS S2 (E 0 0) (nI (kdS s)) (av l 0) (av l 1) (av l 2)) 3 (adE E z s l) z := by
  obtain ⟨x1, x2, x3, x4, x5⟩ := hX
  obtain ⟨r1, r2, r3, r4⟩ := apS_r (S := S2) (k := E 0 0) (a := nI (kdS s)) (b := av l 0) (c := av l 1) (d := av l 2)
  obtain ⟨b1, b2, b3⟩ := adE_2 (E := E) (z := z) (l := l) hs
  refine ⟨by rw [adE_0]; exact apS_5, ?_, fun c hc => ?_, fun m hm => ?_, fun p hp => ?_⟩
  · rw [apS_o (by omega) (by omega)]; exact e1
  · rw [adE_0] at hc
    by_cases q : c = E 0 0
    · subst q
      rw [adE_1, b1, b2, b3]
      exact ⟨r1, fun _ => r2.trans (av_n (by omega)), fun y => r3.trans (av_n (by have := hl.2.1 y; omega)), fun y => r4.trans (av_n (by have := hl.2.2 y; omega))⟩
    · rw [adE_1o q, adE_2o (Or.inl rfl) q, adE_2o (Or.inr (Or.inl rfl)) q, adE_2o (Or.inr (Or.inr rfl)) q, apS_o (by omega) (by omega), apS_o (by omega) (by omega), apS_o (by omega) (by omega), apS_o (by omega) (by omega), e _ _ (by omega) (by omega) (by omega), e _ _ (by omega) (by omega) (by omega), e _ _ (by omega) (by omega) (by omega), e _ _ (by omega) (by omega) (by omega)]
      exact x3 c (by omega)
  · rw [adE_5 hs (by omega), adE_5 hs (by omega), apS_o (by omega) (by omega), apS_o (by omega) (by omega), e _ _ (by omega) (by omega) (by omega), e _ _ (by omega) (by omega) (by omega)]
    exact x4 m hm
  · rw [adE_5 hs (by omega), apS_o (by omega) (by omega), e _ _ (by omega) (by omega) (by omega)]
    exact x5 p hp
theorem sf_24 {s : Nat} (hP : XP E z) (hf : tSf E s = 0) : E 0 0 < 24 ∧ s ≠ 9 := by
  have := hP.1
  unfold tSf at hf
  by_cases a : s = 9
  · rw [if_pos a] at hf; omega
  · rw [if_neg a] at hf
    by_cases b : s < 3 ∧ E 6 s < E 7 s
    · rw [if_pos b] at hf; omega
    · rw [if_neg b] at hf
      by_cases c : E 0 0 = 24
      · rw [if_pos c] at hf; omega
      · omega
theorem x4_dd (hP : XP E z) (h : CK S0 S n κ vl ps i E z) {S1 : mS} {i' s : Nat} (h1 : CQ S S1 n z i' []) (hs : 3 ≤ s ∧ s < 9) (hf : tSf E s = 0) : ((tDd κ vl s i').1 = 0 → ∃ S', f_X4_readDeed F S1 2 (nI (kdS s)) = some S' ∧ CK S0 S' n κ vl ps (tDd κ vl s i').2.1 (adE E z s (tDd κ vl s i').2.2) z) ∧ ((tDd κ vl s i').1 ≠ 0 → ∃ S', f_X4_readDeed F S1 2 (nI (kdS s)) = some S' ∧ DQ S S' ps (tDd κ vl s i').1 (tDd κ vl s i').2.1) := by
  have hX := h.2.2.2.2.2.2.1
  have e24 := (sf_24 hP hf).1
  obtain ⟨a, b⟩ := x4_deed (F := F) h.1 ⟨_, hP.1, hX.1⟩ h1 hs
  refine ⟨fun e => ?_, b⟩
  obtain ⟨S2, c1, c2⟩ := a e
  have c5 : S2.1 3 5 = nI (E 0 0) := (c1.2.2.2.2.2.2 _ _ (by omega) (by omega) (by omega)).trans hX.1
  rw [x5_apc c5 e24] at c2
  have hk := h.adv c1
  refine ⟨_, c2, ?_⟩
  obtain ⟨k1, k2, k3, k4, k5, k6, k7, k8⟩ := hk
  exact ⟨k1.fr (apS_o (by omega) (by omega)) (fun k => apS_o (by omega) (by omega)) (fun k => apS_o (by omega) (by omega)) (fun k => apS_o (by omega) (by omega)), (apS_o (by omega) (by omega)).trans k2, (apS_o (by omega) (by omega)).trans k3, (apS_o (by omega) (by omega)).trans k4, k5, k6, XC_dd hX hs.1 c1.2.2.1 c1.2.2.2.2.2.2 (tDd_l e), fun u k y => (apS_o (by omega) (by omega)).trans (k8 u k y)⟩
theorem x4_lw (hF : 301 < F) (hP : XP E z) (h : CK S0 S n κ vl ps i E z) {S1 : mS} {i' s : Nat} (h1 : CQ S S1 n z i' []) (hs : s < 3) (hf : tSf E s = 0) : ((tLw κ vl (decide (s = 2)) i').1 = 0 → ∃ S', f_X4_readLaw F S1 2 (nI (24 + s)) = some S' ∧ CK S0 S' n κ vl ps (tLw κ vl (decide (s = 2)) i').2.1 (adE E z s (tLw κ vl (decide (s = 2)) i').2.2) (z + (tLw κ vl (decide (s = 2)) i').2.2.length)) ∧ ((tLw κ vl (decide (s = 2)) i').1 ≠ 0 → ∃ S', f_X4_readLaw F S1 2 (nI (24 + s)) = some S' ∧ DQ S S' ps (tLw κ vl (decide (s = 2)) i').1 (tLw κ vl (decide (s = 2)) i').2.1) := by
  have hX := h.2.2.2.2.2.2.1
  have e24 := (sf_24 hP hf).1
  obtain ⟨g1, g2, g3, g4, g5, g6, g7⟩ := h1
  have g3 : S1.1 3 1 = nI z := g3
  have n3 := h.1.1
  have b01 : ∀ b : Nat, b = (if s = 2 then 1 else 0) → is01 (nI b) = true := fun b hb => by
    rw [hb]
    split <;> decide
  have E1 : f_X4_readLaw F S1 2 (nI (24 + s)) = lX4_readLaw_17 F (fun (S : mS) (v2 : Int32) => lX4_readLaw_55 F 2 (nI (24 + s)) S v2) 2 (nI (24 + s)) S1 (nI s) (nI (if s = 2 then 1 else 0)) := by
    rw [u_X4_readLaw, ifn (by omega) (by omega), pk_sub (by omega), show 24 + s - 24 = s by omega]
    by_cases q : s = 2
    · rw [if_pos (by omega), if_pos q]
    · rw [if_neg (by omega), if_neg q]
  rw [E1, u_X4_readLaw_17, b01 _ rfl, ck_t, stp_s, inb_n (by omega) (by omega), ck_t, stp_s, nI_clamp (by omega), show (sI S1 2 8 (nI (if s = 2 then 1 else 0))).1 3 1 = nI z from (sq_off (by omega)).trans g3]
  have e3 : ∀ u k, ¬ (u = 2 ∧ k = 8) → ¬ (u = 5 ∧ k = s) → (sI (sI S1 2 8 (nI (if s = 2 then 1 else 0))) 5 s (nI z)).1 u k = S1.1 u k := fun u k a b => by rw [sq_off (by omega), sq_off (by omega)]
  have e38 : (sI (sI S1 2 8 (nI (if s = 2 then 1 else 0))) 5 s (nI z)).1 2 8 = nI (if s = 2 then 1 else 0) := by rw [sq_off (by omega), sq_hit]
  have e35 : (sI (sI S1 2 8 (nI (if s = 2 then 1 else 0))) 5 s (nI z)).1 5 s = nI z := sq_hit _ _ _ _
  generalize sI (sI S1 2 8 (nI (if s = 2 then 1 else 0))) 5 s (nI z) = S3 at *
  have f3 : ∀ u k, ¬ (u = 2 ∧ (k = 7 ∨ k = 8)) → ¬ (u = 3 ∧ k = 1) → ¬ (u = 4 ∧ z ≤ k) → ¬ (u = 5 ∧ k = s) → S3.1 u k = S.1 u k := fun u k a b c d => (e3 u k (by omega) d).trans (g7 u k (by omega) b c)
  have hT3 : TK S3 n κ vl ps := h.1.fr (f3 _ _ (by omega) (by omega) (by omega) (by omega)) (fun k => f3 _ _ (by omega) (by omega) (by omega) (by omega)) (fun k => f3 _ _ (by omega) (by omega) (by omega) (by omega)) (fun k => f3 _ _ (by omega) (by omega) (by omega) (by omega))
  have c35 : S3.1 3 5 = nI (E 0 0) := (f3 _ _ (by omega) (by omega) (by omega) (by omega)).trans hX.1
  have cq3 : CQ S3 S3 n z i' [] := ⟨(e3 _ _ (by omega) (by omega)).trans g1, (e3 _ _ (by omega) (by omega)).trans g2, (e3 _ _ (by omega) (by omega)).trans g3, fun k hk => absurd hk (Nat.not_lt_zero _), g5, g6, fun _ _ _ _ _ => rfl⟩
  have hlt : S3.1 2 8 = nI (if decide (s = 2) = true then 1 else 0) := by
    rw [e38]
    by_cases q : s = 2
    · rw [if_pos q, decide_eq_true q]; rfl
    · rw [if_neg q, decide_eq_false q]; rfl
  have key : ∃ S4, (if S3.1 2 8 = nI 0 then (bd (f_X4_readSum F S3 2 (nI 0)) fun q4 => (fun (S : mS) (v2 : Int32) => lX4_readLaw_55 F 2 (nI (24 + s)) S v2) q4 (nI s)) else (bd (f_X4_readEither F S3 2) fun q5 => (fun (S : mS) (v2 : Int32) => lX4_readLaw_55 F 2 (nI (24 + s)) S v2) q5 (nI s))) = lX4_readLaw_55 F 2 (nI (24 + s)) S4 (nI s) ∧ ((tLw κ vl (decide (s = 2)) i').1 = 0 → CQ S3 S4 n z (tLw κ vl (decide (s = 2)) i').2.1 ([] ++ (tLw κ vl (decide (s = 2)) i').2.2)) ∧ ((tLw κ vl (decide (s = 2)) i').1 ≠ 0 → DQ S3 S4 ps (tLw κ vl (decide (s = 2)) i').1 (tLw κ vl (decide (s = 2)) i').2.1) := by
    rw [e38]
    by_cases q : s = 2
    · obtain ⟨S4, x, y⟩ := x4_either hF hT3 ⟨_, hP.1, c35⟩ hlt cq3
      refine ⟨S4, ?_, ?_⟩
      · rw [if_pos q, if_neg (by decide), x, bd_s]
      · unfold tLw
        rw [decide_eq_true q, if_pos rfl]
        rw [decide_eq_true q] at y
        exact y
    · obtain ⟨S4, x, y⟩ := x4_rS hF hT3 ⟨_, hP.1, c35⟩ hlt (d := 8) (Nat.le_refl _) cq3
      refine ⟨S4, ?_, ?_⟩
      · rw [if_neg q, if_pos rfl, show nI 0 = nI (8 - 8) from rfl, x, bd_s]
      · unfold tLw
        rw [decide_eq_false q, if_neg Bool.false_ne_true]
        rw [decide_eq_false q] at y
        exact y
  obtain ⟨S4, k1, k2, k3⟩ := key
  refine ⟨fun e => ?_, fun e => ?_⟩
  · obtain ⟨j1, j2, j3, j4, j5, j6, j7⟩ := k2 e
    rw [List.nil_append] at j3 j4 j5
    have c45 : (sI S4 6 s (nI (z + (tLw κ vl (decide (s = 2)) i').2.2.length))).1 3 5 = nI (E 0 0) := by
      rw [sq_off (by omega), j7 _ _ (by omega) (by omega) (by omega)]
      exact c35
    refine ⟨apS (sI S4 6 s (nI (z + (tLw κ vl (decide (s = 2)) i').2.2.length))) (E 0 0) (nI (24 + s)) (-1) (-1) (-1), k1.trans ?_, ?_⟩
    · rw [u_X4_readLaw_55, inb_n (by omega) (by omega), ck_t, stp_s, nI_clamp (by omega), j3, x5_apc c45 e24, bd_s]
    · generalize (tLw κ vl (decide (s = 2)) i').2.2 = l at *
      generalize (tLw κ vl (decide (s = 2)) i').2.1 = j at *
      have e6 : ∀ u k, ¬ (u = 2 ∧ (k = 7 ∨ k = 8)) → ¬ (u = 3 ∧ (k = 1 ∨ k = 5)) → ¬ (u = 4 ∧ z ≤ k) → ¬ (u = 5 ∧ k = s) → ¬ (u = 6 ∧ k = s) → ¬ (u = 7 ∧ 4 * E 0 0 ≤ k ∧ k ≤ 4 * E 0 0 + 3) → (apS (sI S4 6 s (nI (z + l.length))) (E 0 0) (nI (24 + s)) (-1) (-1) (-1)).1 u k = S.1 u k := fun u k a b c d f g => by
        rw [apS_o (by omega) (by omega), sq_off (by omega), j7 u k (by omega) (by omega) (by omega)]
        exact f3 u k (by omega) (by omega) c d
      obtain ⟨x1, x2, x3, x4, x5⟩ := hX
      refine ⟨h.1.fr (e6 _ _ (by omega) (by omega) (by omega) (by omega) (by omega) (by omega)) (fun k => e6 _ _ (by omega) (by omega) (by omega) (by omega) (by omega) (by omega)) (fun k => e6 _ _ (by omega) (by omega) (by omega) (by omega) (by omega) (by omega)) (fun k => e6 _ _ (by omega) (by omega) (by omega) (by omega) (by omega) (by omega)), ?_, (e6 _ _ (by omega) (by omega) (by omega) (by omega) (by omega) (by omega)).trans h.2.2.1, ?_, j6, by omega, ⟨by rw [adE_0]; exact apS_5, ?_, fun c hc => ?_, fun m hm => ?_, fun p hp => ?_⟩, fun u k y => (e6 _ _ (by omega) (by omega) (by omega) (by omega) (by omega) (by omega)).trans (h.2.2.2.2.2.2.2 u k y)⟩
      · rw [apS_o (by omega) (by omega), sq_off (by omega)]; exact j1
      · rw [apS_o (by omega) (by omega), sq_off (by omega)]; exact j2
      · rw [apS_o (by omega) (by omega), sq_off (by omega)]; exact j3
      · rw [adE_0] at hc
        by_cases q : c = E 0 0
        · subst q
          rw [adE_1]
          refine ⟨?_, fun y => by omega, fun y => by omega, fun y => by omega⟩
          rw [show kdS s = 24 + s from if_pos hs]
          exact apS_r.1
        · rw [adE_1o q, adE_2o (Or.inl rfl) q, adE_2o (Or.inr (Or.inl rfl)) q, adE_2o (Or.inr (Or.inr rfl)) q, e6 _ _ (by omega) (by omega) (by omega) (by omega) (by omega) (by omega), e6 _ _ (by omega) (by omega) (by omega) (by omega) (by omega) (by omega), e6 _ _ (by omega) (by omega) (by omega) (by omega) (by omega) (by omega), e6 _ _ (by omega) (by omega) (by omega) (by omega) (by omega) (by omega)]
          exact x3 c (by omega)
      · by_cases q : m = s
        · subst q
          rw [(adE_6 hs).1, (adE_6 hs).2]
          refine ⟨?_, ?_⟩
          · rw [apS_o (by omega) (by omega), sq_off (by omega), j7 _ _ (by omega) (by omega) (by omega)]; exact e35
          · rw [apS_o (by omega) (by omega), sq_hit]
        · rw [(adE_6o hs q).1, (adE_6o hs q).2, e6 _ _ (by omega) (by omega) (by omega) (by omega) (by omega) (by omega), e6 _ _ (by omega) (by omega) (by omega) (by omega) (by omega) (by omega)]
          exact x4 m hm
      · by_cases q : p < z
        · rw [adE_5o hs q, e6 _ _ (by omega) (by omega) (by omega) (by omega) (by omega) (by omega)]
          exact x5 p q
        · have w := adE_5n (E := E) (z := z) (l := l) hs (k := p - z) (by omega)
          rw [show z + (p - z) = p by omega] at w
          rw [w, apS_o (by omega) (by omega), sq_off (by omega)]
          have := j4 (p - z) (by omega)
          rw [show z + (p - z) = p by omega] at this
          exact this
  · have d4 := k3 e
    obtain ⟨h1, h2, h3, ⟨zz, z1, z2⟩, ⟨kk, kk1, kk2⟩, h5⟩ := id d4
    have d5 : DQ S3 (sI S4 6 s (S4.1 3 1)) ps (tLw κ vl (decide (s = 2)) i').1 (tLw κ vl (decide (s = 2)) i').2.1 := ⟨(sq_off (by omega)).trans h1, h2, (sq_off (by omega)).trans h3, ⟨zz, z1, (sq_off (by omega)).trans z2⟩, ⟨kk, kk1, (sq_off (by omega)).trans kk2⟩, fun u k y => (sq_off (by omega)).trans (h5 u k y)⟩
    obtain ⟨S6, x6, y6⟩ := d4_apc (F := F) d5 (nI (24 + s)) (-1) (-1) (-1)
    refine ⟨S6, k1.trans ?_, y6.up (fun u k y => f3 u k (by omega) (by omega) (by omega) (by omega))⟩
    rw [u_X4_readLaw_55, inb_n (by omega) (by omega), ck_t, stp_s, nI_clamp (by omega), x6, bd_s]
theorem d4_35 {a1 : Nat} {a2 : Int32} {f j k : Nat} {v : Int32} (h : DQ S0 S ps f j) : lX4_read_35 F 2 a1 a2 (k + 1) S v = some S := by
  rw [u_X4_read_35, d4_kind h, bd_s]
  by_cases q : nI 24 < v
  · rw [if_pos q]
  · rw [if_neg q, if_neg (by decide), if_neg h.nz]
theorem x4_35 (hF : 301 < F) {a1 : Nat} {a2 : Int32} : ∀ (m k : Nat) {S : mS} {i : Nat} {E : Tw} {z : Nat}, E 0 0 + m = 25 → m + 1 < k → CK S0 S n κ vl ps i E z → XP E z → ∃ S', lX4_read_35 F 2 a1 a2 k S (nI (E 0 0)) = some S' ∧ ((tTx κ vl m E z i).1 = 0 → CK S0 S' n κ vl ps (tTx κ vl m E z i).2.1 (tTx κ vl m E z i).2.2.1 (tTx κ vl m E z i).2.2.2 ∧ XP (tTx κ vl m E z i).2.2.1 (tTx κ vl m E z i).2.2.2) ∧ ((tTx κ vl m E z i).1 ≠ 0 → DQ S0 S' ps (tTx κ vl m E z i).1 (tTx κ vl m E z i).2.1)
  | 0, k, S, i, E, z, hm, hk, h, hP => by have := hP.1; omega
  | m + 1, k, S, i, E, z, hm, hk, h, hP => by
    obtain ⟨k, rfl⟩ : ∃ k', k = k' + 1 := ⟨k - 1, by omega⟩
    obtain ⟨k2, hk2⟩ : ∃ k', k = k' + 1 := ⟨k - 1, by omega⟩
    have hT := h.1
    have kb := hT.b i
    have e24 := hP.1
    have n3 := hT.1
    have T1 : ∀ X : tX, (if κ i = 0 then (0, i, E, z) else (if (tCs κ vl E z i).1 = 0 then tTx κ vl m (tCs κ vl E z i).2.2.1 (tCs κ vl E z i).2.2.2 (tCs κ vl E z i).2.1 else tCs κ vl E z i)) = X → tTx κ vl (m + 1) E z i = X := fun X hX => hX
    rw [u_X4_read_35, if_neg (nI_nlt (by omega) (by omega)), x4_kind hT h.cq, bd_s, ifn (by omega) (by omega)]
    by_cases e0 : κ i = 0
    · rw [if_pos e0, T1 _ (if_pos e0)]
      exact ⟨S, rfl, fun _ => ⟨h, hP⟩, fun y => absurd rfl y⟩
    have inn := hT.tl e0
    have dead : ∀ (f j : Nat) (S1 : mS), DQ S S1 ps f j → ∃ S', lX4_read_35 F 2 a1 a2 k S1 (nI (E 0 0) + nI 1) = some S' ∧ DQ S0 S' ps f j := fun f j S1 hd => ⟨S1, by rw [hk2]; exact d4_35 hd, hd.up h.2.2.2.2.2.2.2⟩
    rw [if_neg e0, h.2.1, if_pos rfl, bd_s]
    obtain ⟨c1, c2⟩ := x4_cst (F := F) hP h
    have bad : ∀ (f j : Nat) (S1 : mS), f ≠ 0 → tCs κ vl E z i = (f, j, E, z) → DQ S S1 ps f j → ∃ S', lX4_read_35 F 2 a1 a2 k S1 (nI (E 0 0) + nI 1) = some S' ∧ ((tTx κ vl (m + 1) E z i).1 = 0 → CK S0 S' n κ vl ps (tTx κ vl (m + 1) E z i).2.1 (tTx κ vl (m + 1) E z i).2.2.1 (tTx κ vl (m + 1) E z i).2.2.2 ∧ XP (tTx κ vl (m + 1) E z i).2.2.1 (tTx κ vl (m + 1) E z i).2.2.2) ∧ ((tTx κ vl (m + 1) E z i).1 ≠ 0 → DQ S0 S' ps (tTx κ vl (m + 1) E z i).1 (tTx κ vl (m + 1) E z i).2.1) := fun f j S1 hf hc hd => by
      have et : tTx κ vl (m + 1) E z i = (f, j, E, z) := by
        rw [T1 _ (if_neg e0), hc, if_neg hf]
      rw [et]
      obtain ⟨S', x, y⟩ := dead f j S1 hd
      exact ⟨S', x, fun q => absurd q hf, fun _ => y⟩
    by_cases f0 : tSf E (srtK (κ i)) = 0
    · rw [c1 f0, bd_s, if_pos rfl]
      obtain ⟨S1, x1, y1⟩ := x4_adv (F := F) hT h.cq e0
      have cs1 : tCs κ vl E z i = (if (tBy κ vl (srtK (κ i)) (i + 1)).1 ≠ 0 then ((tBy κ vl (srtK (κ i)) (i + 1)).1, (tBy κ vl (srtK (κ i)) (i + 1)).2.1, E, z) else (if κ (tBy κ vl (srtK (κ i)) (i + 1)).2.1 ≠ 13 then (1, (tBy κ vl (srtK (κ i)) (i + 1)).2.1, E, z) else (0, (tBy κ vl (srtK (κ i)) (i + 1)).2.1 + 1, adE E z (srtK (κ i)) (tBy κ vl (srtK (κ i)) (i + 1)).2.2, if srtK (κ i) < 3 then z + (tBy κ vl (srtK (κ i)) (i + 1)).2.2.length else z))) := if_neg (fun q => q f0)
      have s9 : srtK (κ i) < 9 ∧ kdS (srtK (κ i)) = κ i := by
        rcases srt_kd (κ i) kb with y | y
        · exact absurd y (sf_24 hP f0).2
        · exact y
      -- behind the clause: the semicolon
      have fin : ∀ o : Option mS, ((tBy κ vl (srtK (κ i)) (i + 1)).1 = 0 → ∃ S', o = some S' ∧ CK S0 S' n κ vl ps (tBy κ vl (srtK (κ i)) (i + 1)).2.1 (adE E z (srtK (κ i)) (tBy κ vl (srtK (κ i)) (i + 1)).2.2) (if srtK (κ i) < 3 then z + (tBy κ vl (srtK (κ i)) (i + 1)).2.2.length else z)) → ((tBy κ vl (srtK (κ i)) (i + 1)).1 ≠ 0 → ∃ S', o = some S' ∧ DQ S S' ps (tBy κ vl (srtK (κ i)) (i + 1)).1 (tBy κ vl (srtK (κ i)) (i + 1)).2.1) → ∃ S', (bd o fun q7 => bd (f_X4_expect F q7 2 (nI 13)) fun q8 => lX4_read_35 F 2 a1 a2 k q8 (nI (E 0 0) + (nI 1))) = some S' ∧ ((tTx κ vl (m + 1) E z i).1 = 0 → CK S0 S' n κ vl ps (tTx κ vl (m + 1) E z i).2.1 (tTx κ vl (m + 1) E z i).2.2.1 (tTx κ vl (m + 1) E z i).2.2.2 ∧ XP (tTx κ vl (m + 1) E z i).2.2.1 (tTx κ vl (m + 1) E z i).2.2.2) ∧ ((tTx κ vl (m + 1) E z i).1 ≠ 0 → DQ S0 S' ps (tTx κ vl (m + 1) E z i).1 (tTx κ vl (m + 1) E z i).2.1) := by
        intro o ho1 ho2
        by_cases b0 : (tBy κ vl (srtK (κ i)) (i + 1)).1 = 0
        · obtain ⟨S2, x2, y2⟩ := ho1 b0
          rw [if_neg (fun q => q b0)] at cs1
          have hX2 := y2.2.2.2.2.2.2.1
          have a24 : (adE E z (srtK (κ i)) (tBy κ vl (srtK (κ i)) (i + 1)).2.2) 0 0 ≤ 24 := by
            rw [adE_0]
            have := (sf_24 hP f0).1
            omega
          obtain ⟨S3, x3, y3, y4⟩ := x4_expect (F := F) y2.1 ⟨_, a24, hX2.1⟩ y2.cq (a := 13) (by omega)
          rw [x2, bd_s, x3, bd_s]
          by_cases b13 : κ (tBy κ vl (srtK (κ i)) (i + 1)).2.1 = 13
          · rw [if_neg (fun q => q b13)] at cs1
            unfold tEx at y3
            rw [if_pos b13] at y3
            have y5 := y2.adv (y3 rfl)
            have px := XP_cs (κ := κ) (vl := vl) hT.N (E := E) (z := z) (i := i) (by omega) kb hP (by rw [cs1]) h.2.2.2.2.2.1
            rw [cs1] at px
            dsimp only at px
            have et : tTx κ vl (m + 1) E z i = tTx κ vl m (adE E z (srtK (κ i)) (tBy κ vl (srtK (κ i)) (i + 1)).2.2) (if srtK (κ i) < 3 then z + (tBy κ vl (srtK (κ i)) (i + 1)).2.2.length else z) ((tBy κ vl (srtK (κ i)) (i + 1)).2.1 + 1) := by
              rw [T1 _ (if_neg e0), cs1, if_pos rfl]
            rw [et, nI_add, ← px.2.1]
            exact x4_35 hF m k (by rw [adE_0]; omega) (by omega) y5 px.1
          · rw [if_pos b13] at cs1
            unfold tEx at y4
            rw [if_neg b13] at y4
            exact bad 1 _ S3 (by omega) cs1 ((y4 (by show ¬ 1 = 0; omega)).up (fun u k q => (y2.2.2.2.2.2.2.2 u k q).trans (h.2.2.2.2.2.2.2 u k q).symm))
        · obtain ⟨S2, x2, y2⟩ := ho2 b0
          rw [if_pos b0] at cs1
          rw [x2, bd_s, d4_expect y2 (by omega), bd_s]
          exact bad _ _ S2 b0 cs1 y2
      rw [x1, bd_s, u_X4_isLaw, win_n (by omega) (by omega) (by omega)]
      by_cases s3 : srtK (κ i) < 3
      · have kl : 24 + srtK (κ i) = κ i := by
          have : kdS (srtK (κ i)) = 24 + srtK (κ i) := if_pos s3
          omega
        rw [decide_eq_true (show 24 ≤ κ i ∧ κ i ≤ 26 by omega), if_pos rfl]
        obtain ⟨l1, l2⟩ := x4_lw (F := F) hF hP h y1 s3 f0
        rw [kl] at l1 l2
        have eb : tBy κ vl (srtK (κ i)) (i + 1) = tLw κ vl (decide (srtK (κ i) = 2)) (i + 1) := if_pos s3
        refine fin _ ?_ ?_
        · rw [eb, if_pos s3]; exact l1
        · rw [eb]; exact l2
      · have nl : ¬ (24 ≤ κ i ∧ κ i ≤ 26) := fun q => s3 ((by decide : ∀ k, k < 38 → 24 ≤ k ∧ k ≤ 26 → srtK k < 3) _ kb q)
        rw [decide_eq_false nl, if_neg Bool.false_ne_true]
        obtain ⟨l1, l2⟩ := x4_dd (F := F) hP h y1 (s := srtK (κ i)) ⟨by omega, s9.1⟩ f0
        rw [s9.2] at l1 l2
        have eb : tBy κ vl (srtK (κ i)) (i + 1) = tDd κ vl (srtK (κ i)) (i + 1) := if_neg s3
        refine fin _ ?_ ?_
        · rw [eb, if_neg s3]; exact l1
        · rw [eb]; exact l2
    · obtain ⟨S1, x1, y1⟩ := c2 f0
      rw [x1, bd_s, if_neg Bool.false_ne_true]
      exact bad _ _ S1 f0 (if_pos f0) y1
end
