/-! ===== the reference reads a law's clause, a clause, a text ===== -/
def FB (b z x : Nat) (Sb S : mS) : Prop := ∀ u k, ¬ (u = 375 ∧ ((7 ≤ k ∧ k ≤ 10) ∨ k = 13 ∨ (16 ≤ k ∧ k ≤ 19))) → u ≠ 380 → ¬ (u = 378 ∧ x + 1 ≤ k ∧ k ≤ x + 3) → ¬ (u = 378 ∧ b + 97 + 2 * z ≤ k ∧ k < b + 705) → S.1 u k = Sb.1 u k
/-- behind a clause's body -/
def BO (B : Nat → Nat) (L : Nat) (Sb S : mS) (b z x s j : Nat) (l : List Nat) : Prop := TQ B S (tS B j) ∧ (tS B j ≤ L ∧ j ≤ 300) ∧ S.1 375 13 = nI (if s < 3 then z + l.length else z) ∧ (3 ≤ s → ∀ k, k < l.length → S.1 378 (x + 1 + k) = nI (l.getD k 0)) ∧ (s < 3 → S.1 378 (x + 1) = nI z ∧ S.1 378 (x + 2) = nI (z + l.length) ∧ ∀ k, k < l.length → S.1 378 (b + 97 + 2 * (z + k)) = nI (rOp (l.getD k 0)) ∧ S.1 378 (b + 97 + 2 * (z + k) + 1) = nI (rVal (l.getD k 0))) ∧ FB b z x Sb S
section
variable {F : Nat} {B : Nat → Nat} {L : Nat} {S0 S : mS} {b i z : Nat} {E : Tw}
theorem x9_lw (hF : 1000 < F) (hB : BL B L) (hN : ∀ k, 300 ≤ k → kp B k = 0) {Sb : mS} {x s : Nat} (hb : b ≤ 2115) (hx : b ≤ x ∧ x + 3 < b + 97) (hs : s < 3) (hz : z ≤ i) (h1 : TQ B Sb (tS B i)) (h2 : tS B i ≤ L ∧ i ≤ 300) (hT : TP Sb B L) (h12 : Sb.1 375 12 = nI b) (h13 : Sb.1 375 13 = nI z) (h14 : Sb.1 375 14 = nI s) : ((tLw (kp B) (vp B) (decide (s = 2)) i).1 = 0 → ∃ S', f_X9_body F Sb 375 (nI s) (nI x) = some (S', nI 0) ∧ BO B L Sb S' b z x s (tLw (kp B) (vp B) (decide (s = 2)) i).2.1 (tLw (kp B) (vp B) (decide (s = 2)) i).2.2) ∧ ((tLw (kp B) (vp B) (decide (s = 2)) i).1 ≠ 0 → ∃ S', f_X9_body F Sb 375 (nI s) (nI x) = some (S', nI (tLw (kp B) (vp B) (decide (s = 2)) i).1) ∧ S'.1 375 8 = nI (tS B (tLw (kp B) (vp B) (decide (s = 2)) i).2.1) ∧ FB b z x Sb S') := by
  have ei : ∃ ei, ei = if decide (s = 2) = true then 1 else 0 := ⟨_, rfl⟩
  obtain ⟨ei, hei⟩ := ei
  have ei2 : ei < 2 := by rw [hei]; split <;> omega
  have e01 : is01 (nI ei) = true := by rw [hei]; split <;> decide
  have e2 : ∀ o : Option (mS × Int32), (bd o fun q2 => some (q2.1, q2.2)) = o := fun o => by cases o <;> rfl
  have E1 : f_X9_body F Sb 375 (nI s) (nI x) = f_X9_lawClause F Sb 375 (nI x) (nI ei) := by
    rw [u_X9_body, ifn (by omega) (by omega), ifn (by omega) (by omega), ifn (by omega) (by omega), ifn (by omega) (by omega), ifn (by omega) (by omega), ifn (by omega) (by omega), ifn (by omega) (by omega), if_neg (by omega), if_neg (by omega), if_neg (by omega), if_neg (by omega), if_neg (by omega), if_neg (by omega), e2, e2, hei]
    by_cases q : s = 2
    · rw [if_pos q, decide_eq_true q]; rfl
    · rw [if_neg q, decide_eq_false q]; rfl
  rw [E1, u_X9_lawClause, nI_add, nI_add, inb_n (by omega) (by omega), ck_t, stp_s, nI_clamp (by omega), h13, u_X9_parsed, stp_s, stp_s, stp_s, e01, ck_t, stp_s]
  have f3 : ∀ u k, ¬ (u = 375 ∧ 16 ≤ k ∧ k ≤ 19) → ¬ (u = 378 ∧ k = x + 1) → (sI (sI (sI (sI (sI Sb 378 (x + 1) (nI z)) 375 16 (nI 0)) 375 17 (nI 0)) 375 18 (nI 0)) 375 19 (nI ei)).1 u k = Sb.1 u k := fun u k p q => by rw [sq_off (by omega), sq_off (by omega), sq_off (by omega), sq_off (by omega), sq_off (by omega)]
  have g16 : (sI (sI (sI (sI (sI Sb 378 (x + 1) (nI z)) 375 16 (nI 0)) 375 17 (nI 0)) 375 18 (nI 0)) 375 19 (nI ei)).1 375 16 = nI 0 := by rw [sq_off (by omega), sq_off (by omega), sq_off (by omega), sq_hit]
  have g17 : (sI (sI (sI (sI (sI Sb 378 (x + 1) (nI z)) 375 16 (nI 0)) 375 17 (nI 0)) 375 18 (nI 0)) 375 19 (nI ei)).1 375 17 = nI 0 := by rw [sq_off (by omega), sq_off (by omega), sq_hit]
  have g18 : (sI (sI (sI (sI (sI Sb 378 (x + 1) (nI z)) 375 16 (nI 0)) 375 17 (nI 0)) 375 18 (nI 0)) 375 19 (nI ei)).1 375 18 = nI 0 := by rw [sq_off (by omega), sq_hit]
  have g19 : (sI (sI (sI (sI (sI Sb 378 (x + 1) (nI z)) 375 16 (nI 0)) 375 17 (nI 0)) 375 18 (nI 0)) 375 19 (nI ei)).1 375 19 = nI ei := sq_hit _ _ _ _
  have gx : (sI (sI (sI (sI (sI Sb 378 (x + 1) (nI z)) 375 16 (nI 0)) 375 17 (nI 0)) 375 18 (nI 0)) 375 19 (nI ei)).1 378 (x + 1) = nI z := by rw [sq_off (by omega), sq_off (by omega), sq_off (by omega), sq_off (by omega), sq_hit]
  have gs : (sI (sI (sI (sI (sI Sb 378 (x + 1) (nI z)) 375 16 (nI 0)) 375 17 (nI 0)) 375 18 (nI 0)) 375 19 (nI ei)).2 = Sb.2 := rfl
  generalize sI (sI (sI (sI (sI Sb 378 (x + 1) (nI z)) 375 16 (nI 0)) 375 17 (nI 0)) 375 18 (nI 0)) 375 19 (nI ei) = S3 at *
  have h0 : RB0 B L S3 b z ei s := ⟨hB, hT.fr (f3 _ _ (by omega) (by omega)) (fun k => f3 _ _ (by omega) (by omega)), (f3 _ _ (by omega) (by omega)).trans h12, hb, g19, (f3 _ _ (by omega) (by omega)).trans h14, ei2, by omega, by omega⟩
  have hR : RQ B L S3 S3 b z i [] [] 0 0 := by
    refine ⟨⟨(f3 _ _ (by omega) (by omega)).trans h1.1, fun y => (f3 _ _ (by omega) (by omega)).trans (h1.2.1 y), ?_⟩, ⟨h2.1, h2.2, Nat.zero_le _⟩, ⟨g16, trivial⟩, ⟨(f3 _ _ (by omega) (by omega)).trans h13, fun k hk => absurd hk (Nat.not_lt_zero _)⟩, ⟨g17, g18⟩, fun _ _ _ _ _ => rfl⟩
    rw [f3 _ _ (by omega) (by omega), f3 _ _ (by omega) (by omega), gs]
    exact h1.2.2
  obtain ⟨r1, r2⟩ := r_Lw (F := F) (lt := decide (s = 2)) hF h0 rfl hei hN hR hz
  have ff : ∀ S', FQ b z S3 S' → FB b z x Sb S' := fun S' hf u k p1 p2 p3 p4 => (hf u k (by omega) p2 p4).trans (f3 u k (by omega) (by omega))
  refine ⟨fun e => ?_, fun e => ?_⟩
  · obtain ⟨S4, x4, wh, y4⟩ := r1 e
    have x4 : lX9_parsed_20 F 375 (nI ei) F S3 = some (S4, nI 0) := x4
    have y13 := y4.2.2.2.1.1
    have cl : z + (tLw (kp B) (vp B) (decide (s = 2)) i).2.2.length ≤ 300 := by
      have g := (tLw_g (κ := kp B) (vl := vp B) hN (s := s) (i := i) h2.2).2 e
      have j3 := y4.2.1.2.1
      omega
    have yf := y4.2.2.2.2.2
    rw [x4, bd_s, inb_n (by omega) (by omega), ck_t, stp_s, nI_clamp (by omega), y13]
    refine ⟨_, rfl, ⟨⟨(sq_off (by omega)).trans y4.1.1, fun y => (sq_off (by omega)).trans (y4.1.2.1 y), ?_⟩, ⟨y4.2.1.1, y4.2.1.2.1⟩, ?_, fun y => by omega, fun _ => ⟨?_, sq_hit _ _ _ _, fun k hk => ?_⟩, fun u k p1 p2 p3 p4 => (sq_off (by omega)).trans (ff S4 yf u k p1 p2 p3 p4)⟩⟩
    · rw [sq_off (by omega), sq_off (by omega)]
      exact y4.1.2.2
    · rw [sq_off (by omega), if_pos hs]; exact y13
    · rw [sq_off (by omega), yf _ _ (by omega) (by omega) (by omega)]; exact gx
    · rw [sq_off (by omega), sq_off (by omega)]
      exact y4.2.2.2.1.2 k hk
  · obtain ⟨S4, x4, y4⟩ := r2 e
    have x4 : lX9_parsed_20 F 375 (nI ei) F S3 = some (S4, nI (tLw (kp B) (vp B) (decide (s = 2)) i).1) := x4
    rw [x4, bd_s, inb_n (by omega) (by omega), ck_t, stp_s, nI_clamp (by omega)]
    refine ⟨_, rfl, (sq_off (by omega)).trans y4.1, fun u k p1 p2 p3 p4 => (sq_off (by omega)).trans (ff S4 y4.2 u k p1 p2 p3 p4)⟩
theorem x9_by (hF : 1000 < F) (hB : BL B L) (hN : ∀ k, 300 ≤ k → kp B k = 0) {Sb : mS} {x s : Nat} (hb : b ≤ 2115) (hx : b ≤ x ∧ x + 3 < b + 97) (hs : s < 9) (hz : z ≤ i) (h1 : TQ B Sb (tS B i)) (h2 : tS B i ≤ L ∧ i ≤ 300) (hT : TP Sb B L) (h12 : Sb.1 375 12 = nI b) (h13 : Sb.1 375 13 = nI z) (h14 : Sb.1 375 14 = nI s) : ((tBy (kp B) (vp B) s i).1 = 0 → ∃ S', f_X9_body F Sb 375 (nI s) (nI x) = some (S', nI 0) ∧ BO B L Sb S' b z x s (tBy (kp B) (vp B) s i).2.1 (tBy (kp B) (vp B) s i).2.2) ∧ ((tBy (kp B) (vp B) s i).1 ≠ 0 → ∃ S', f_X9_body F Sb 375 (nI s) (nI x) = some (S', nI (tBy (kp B) (vp B) s i).1) ∧ S'.1 375 8 = nI (tS B (tBy (kp B) (vp B) s i).2.1) ∧ FB b z x Sb S') := by
  by_cases q : s < 3
  · rw [show tBy (kp B) (vp B) s i = tLw (kp B) (vp B) (decide (s = 2)) i from if_pos q]
    exact x9_lw hF hB hN hb hx q hz h1 h2 hT h12 h13 h14
  · rw [show tBy (kp B) (vp B) s i = tDd (kp B) (vp B) s i from if_neg q]
    obtain ⟨r1, r2⟩ := x9_dd (F := F) hF hB hT (x := x) (by omega) (Sb := Sb) (S := Sb) (i := i) ⟨h1, h2, fun k hk => absurd hk (Nat.not_lt_zero _), fun _ _ _ _ => rfl⟩ (s := s) ⟨by omega, hs⟩
    refine ⟨fun e => ?_, fun e => ?_⟩
    · obtain ⟨S', x1, y1, y2, y3, y4⟩ := r1 e
      exact ⟨S', x1, y1, y2, by rw [if_neg q, y4 _ _ (by omega) (by omega)]; exact h13, fun _ => y3, fun y => absurd y q, fun u k p1 p2 p3 p4 => y4 u k (by omega) p3⟩
    · obtain ⟨S', x1, y1, y4⟩ := r2 e
      exact ⟨S', x1, y1, fun u k p1 p2 p3 p4 => y4 u k (by omega) p3⟩
theorem x9_sort (hB : BL B L) (h : TQ B S (tS B i)) : f_X9_sortOf S 375 = if srtK (kp B i) = 9 then -1 else nI (srtK (kp B i)) := by
  rw [u_X9_sortOf, iW hB h (w := 8) (by omega) cw_earns, iW hB h (w := 9) (by omega) cw_loses, iW hB h (w := 10) (by omega) cw_lets, iW hB h (w := 2) (by omega) cw_house, iW hB h (w := 11) (by omega) cw_knock, iW hB h (w := 12) (by omega) cw_marry, iW hB h (w := 13) (by omega) cw_hat, iW hB h (w := 14) (by omega) cw_forget, iW hB h (w := 0) (by omega) cw_day]
  show _ = if srtK (kd B (tS B i)) = 9 then -1 else nI (srtK (kd B (tS B i)))
  have kb := kd_lt (B := B) (tS B i)
  generalize kd B (tS B i) = k at *
  exact (by decide +kernel : ∀ k, k < 38 → (if decide (k = 16 + 8) = true then (nI 0) else (if decide (k = 16 + 9) = true then (nI 1) else (if decide (k = 16 + 10) = true then (nI 2) else (if decide (k = 16 + 2) = true then (nI 3) else (if decide (k = 16 + 11) = true then (nI 4) else (if decide (k = 16 + 12) = true then (nI 5) else (if decide (k = 16 + 13) = true then (nI 6) else (if decide (k = 16 + 14) = true then (nI 7) else (if decide (k = 16 + 0) = true then (nI 8) else (-1 : Int32)))))))))) = if srtK k = 9 then -1 else nI (srtK k)) k kb
/-- a clause, once it may begin -/
theorem x9_65c (hF : 1000 < F) (hB : BL B L) (hN : ∀ k, 300 ≤ k → kp B k = 0) (hb : b ≤ 2115) (hP : XP E z) (h : RK B L S0 S b i E z) (hk : kp B i ≠ 0) {s : Nat} (hs : s < 9) (e24 : E 0 0 < 24) (hnw : s < 3 → ¬ E 6 s < E 7 s) {S1 : mS} {o : Nat} (ho : o < 8) (h1 : ∀ u k, ¬ (u = 375 ∧ k = 20) → S1.1 u k = S.1 u k) (h12 : S1.2 = S.2) (h20 : S1.1 375 20 = nI o) (hob : (tBy (kp B) (vp B) s (i + 1)).1 = 0 → ∀ m, m < 3 → o.testBit m = decide (adE E z s (tBy (kp B) (vp B) s (i + 1)).2.2 6 m < adE E z s (tBy (kp B) (vp B) s (i + 1)).2.2 7 m)) :
    (((tBy (kp B) (vp B) s (i + 1)).1 = 0 ∧ kp B (tBy (kp B) (vp B) s (i + 1)).2.1 = 13) → ∃ S', lX9_clause_65 F 375 S1 (nI s) (nI (E 0 0)) = some (S', nI 0) ∧ RK B L S0 S' b ((tBy (kp B) (vp B) s (i + 1)).2.1 + 1) (adE E z s (tBy (kp B) (vp B) s (i + 1)).2.2) (if s < 3 then z + (tBy (kp B) (vp B) s (i + 1)).2.2.length else z)) ∧
    ((tBy (kp B) (vp B) s (i + 1)).1 ≠ 0 → ∃ S', lX9_clause_65 F 375 S1 (nI s) (nI (E 0 0)) = some (S', nI (tBy (kp B) (vp B) s (i + 1)).1) ∧ S'.1 375 8 = nI (tS B (tBy (kp B) (vp B) s (i + 1)).2.1) ∧ FK b S0 S') ∧
    (((tBy (kp B) (vp B) s (i + 1)).1 = 0 ∧ kp B (tBy (kp B) (vp B) s (i + 1)).2.1 ≠ 13) → ∃ S', lX9_clause_65 F 375 S1 (nI s) (nI (E 0 0)) = some (S', nI 1) ∧ S'.1 375 8 = nI (tS B (tBy (kp B) (vp B) s (i + 1)).2.1) ∧ FK b S0 S') := by
  obtain ⟨a1, ⟨a2, a3⟩, a4, a5, ⟨x1, x2, x3, x4, -⟩, a7, a8⟩ := h
  have hB1 := hB.1
  have nz : B (tS B i) ≠ 256 := fun q => hk ((kd_0 _).mpr q)
  have te := tE_le hB nz
  have tl := hB.nz nz
  have ti := tS_i (B := B) i
  -- the next token
  have h1' : ∀ u k, ¬ (u = 375 ∧ (k = 14 ∨ k = 20)) → (sI S1 375 14 (nI s)).1 u k = S.1 u k := fun u k q => (sq_off (by omega)).trans (h1 u k (by omega))
  obtain ⟨S2, y1, y2, y3⟩ := x9_nt (F := F) (S := sI S1 375 14 (nI s)) hF hB (a5.fr (h1' _ _ (by omega)) (fun k => h1' _ _ (by omega))) (p := tE B (tS B i)) ((h1' _ _ (by omega)).trans (a1.2.1 nz)) te
  have y2 : TQ B S2 (tS B (i + 1)) := y2
  have e2 : ∀ u k, ¬ (u = 375 ∧ ((7 ≤ k ∧ k ≤ 10) ∨ k = 14 ∨ k = 20)) → S2.1 u k = S.1 u k := fun u k q => (y3 u k (by omega)).trans (h1' u k (by omega))
  have s14 : S2.1 375 14 = nI s := (y3 _ _ (by omega)).trans (sq_hit _ _ _ _)
  have s20 : S2.1 375 20 = nI o := (y3 _ _ (by omega)).trans ((sq_off (by omega)).trans h20)
  have s12 : S2.1 375 12 = nI b := (e2 _ _ (by omega)).trans a4
  have eb : ∀ u k, ¬ (u = 378 ∧ k = b + 1 + 4 * E 0 0) → (sI S2 378 (b + 1 + 4 * E 0 0) (nI s)).1 u k = S2.1 u k := fun u k q => sq_off (by omega)
  have ebx : (sI S2 378 (b + 1 + 4 * E 0 0) (nI s)).1 378 (b + 1 + 4 * E 0 0) = nI s := sq_hit _ _ _ _
  have ebs : (sI S2 378 (b + 1 + 4 * E 0 0) (nI s)).2 = S2.2 := rfl
  rw [u_X9_clause_65, stp_s, y1, bd_s, s12, nI_add, pk_mul, nI_add, inb_n (by omega) (by omega), ck_t, stp_s, nI_clamp (by omega)]
  generalize sI S2 378 (b + 1 + 4 * E 0 0) (nI s) = Sb at *
  have tb : TQ B Sb (tS B (i + 1)) := by
    refine ⟨(eb _ _ (by omega)).trans y2.1, fun q => (eb _ _ (by omega)).trans (y2.2.1 q), ?_⟩
    rw [eb _ _ (by omega), eb _ _ (by omega), ebs]
    exact y2.2.2
  have tl2 : tS B (i + 1) ≤ L := sk_le hB te
  obtain ⟨r1, r2⟩ := x9_by (F := F) hF hB hN (b := b) (i := i + 1) (z := z) (Sb := Sb) (x := b + 1 + 4 * E 0 0) (s := s) hb (by omega) hs (by omega) tb ⟨tl2, by omega⟩ (a5.fr ((eb _ _ (by omega)).trans (e2 _ _ (by omega))) (fun k => (eb _ _ (by omega)).trans (e2 _ _ (by omega)))) ((eb _ _ (by omega)).trans s12) ((eb _ _ (by omega)).trans ((e2 _ _ (by omega)).trans x2)) ((eb _ _ (by omega)).trans s14)
  have lg : (tBy (kp B) (vp B) s (i + 1)).1 = 0 → (s < 3 → 0 < (tBy (kp B) (vp B) s (i + 1)).2.2.length ∧ z + (tBy (kp B) (vp B) s (i + 1)).2.2.length ≤ (tBy (kp B) (vp B) s (i + 1)).2.1) ∧ (3 ≤ s → 1 ≤ (tBy (kp B) (vp B) s (i + 1)).2.2.length ∧ (s = 3 ∨ s = 5 ∨ s = 7 → 2 ≤ (tBy (kp B) (vp B) s (i + 1)).2.2.length) ∧ (s = 3 → 3 ≤ (tBy (kp B) (vp B) s (i + 1)).2.2.length)) ∧ i + 1 ≤ (tBy (kp B) (vp B) s (i + 1)).2.1 := fun e => by
    have g := tBy_g (κ := kp B) (vl := vp B) hN (s := s) (i := i + 1) (by omega)
    refine ⟨fun q => ?_, fun q => ?_, g.1⟩
    · rw [show tBy (kp B) (vp B) s (i + 1) = tLw (kp B) (vp B) (decide (s = 2)) (i + 1) from if_pos q] at e ⊢
      have w := (tLw_g (κ := kp B) (vl := vp B) hN (s := s) (i := i + 1) (by omega)).2 e
      exact ⟨w.1.1, by omega⟩
    · rw [show tBy (kp B) (vp B) s (i + 1) = tDd (kp B) (vp B) s (i + 1) from if_neg (by omega)] at e ⊢
      exact tDd_l e
  have b6 : (tBy (kp B) (vp B) s (i + 1)).1 ≤ 6 := (tBy_g (κ := kp B) (vl := vp B) hN (s := s) (i := i + 1) (by omega)).2.2
  generalize tBy (kp B) (vp B) s (i + 1) = r at *
  have fk : ∀ S', FB b z (b + 1 + 4 * E 0 0) Sb S' → FK b S0 S' := fun S' hf u k p1 p2 p3 => (hf u k (by omega) p2 (by omega) (by omega)).trans ((eb u k (by omega)).trans ((e2 u k (by omega)).trans (a8 u k p1 p2 p3)))
  have ok : r.1 = 0 → ∃ S5, f_X9_body F Sb 375 (nI s) (nI (b + 1 + 4 * E 0 0)) = some (S5, nI 0) ∧ BO B L Sb S5 b z (b + 1 + 4 * E 0 0) s r.2.1 r.2.2 := r1
  have key : r.1 = 0 → ∃ S8, (bd (f_X9_body F Sb 375 (nI s) (nI (b + 1 + 4 * E 0 0))) fun q5 => if q5.2 = (nI 0) then (ck (inb (q5.1.1 375 12) 2820) (ck (inb (q5.1.1 375 12) 2820) (stp (sI q5.1 378 (q5.1.1 375 12).toNatClampNeg ((q5.1.1 378 (q5.1.1 375 12).toNatClampNeg) + (nI 1))) fun S8 => if (S8.1 375 9) = (nI 59) then (bd (f_X9_nextToken F S8 375) fun q9 => some (q9, (nI 0))) else (some (S8, (nI 1)))))) else (some (q5.1, q5.2))) = (if kp B r.2.1 = 13 then (bd (f_X9_nextToken F S8 375) fun q9 => some (q9, (nI 0))) else (some (S8, (nI 1)))) ∧ RK B L S0 S8 b r.2.1 (adE E z s r.2.2) (if s < 3 then z + r.2.2.length else z) := fun e => by
    obtain ⟨S5, w1, w2, w3, w4, w5, w6, w7⟩ := ok e
    obtain ⟨l1, l2, l3⟩ := lg e
    have ob := hob e
    have v12 : S5.1 375 12 = nI b := (w7 _ _ (by omega) (by omega) (by omega) (by omega)).trans ((eb _ _ (by omega)).trans s12)
    have vb : S5.1 378 b = nI (E 0 0) := (w7 _ _ (by omega) (by omega) (by omega) (by omega)).trans ((eb _ _ (by omega)).trans ((e2 _ _ (by omega)).trans x1))
    have e5 : ∀ k, (b + 1 ≤ k ∧ k < b + 1 + 4 * E 0 0) ∨ (b + 97 ≤ k ∧ k < b + 97 + 2 * z) → S5.1 378 k = S.1 378 k := fun k hk => (w7 _ _ (by omega) (by omega) (by omega) (by omega)).trans ((eb _ _ (by omega)).trans (e2 _ _ (by omega)))
    have hR : RK B L S0 (sI S5 378 b (nI (E 0 0 + 1))) b r.2.1 (adE E z s r.2.2) (if s < 3 then z + r.2.2.length else z) := by
      have o5 : ∀ u k, ¬ (u = 378 ∧ k = b) → (sI S5 378 b (nI (E 0 0 + 1))).1 u k = S5.1 u k := fun u k q => sq_off (by omega)
      refine ⟨⟨(o5 _ _ (by omega)).trans w2.1, fun q => (o5 _ _ (by omega)).trans (w2.2.1 q), ?_⟩, w3, (o5 _ _ (by omega)).trans v12, a5.fr ((o5 _ _ (by omega)).trans ((w7 _ _ (by omega) (by omega) (by omega) (by omega)).trans ((eb _ _ (by omega)).trans (e2 _ _ (by omega))))) (fun k => (o5 _ _ (by omega)).trans ((w7 _ _ (by omega) (by omega) (by omega) (by omega)).trans ((eb _ _ (by omega)).trans (e2 _ _ (by omega))))), ⟨by rw [adE_0]; exact sq_hit _ _ _ _, (o5 _ _ (by omega)).trans w4, fun c hc => ?_, fun p hp => ?_, o, ho, ?_, ob⟩, ?_, fun u k p1 p2 p3 => (o5 u k (by omega)).trans (fk S5 w7 u k p1 p2 p3)⟩
      · rw [o5 _ _ (by omega), o5 _ _ (by omega)]
        exact w2.2.2
      · rw [adE_0] at hc
        rw [o5 _ _ (by omega), o5 _ _ (by omega), o5 _ _ (by omega), o5 _ _ (by omega)]
        by_cases q : c = E 0 0
        · subst q
          have vx : S5.1 378 (b + 1 + 4 * E 0 0) = nI s := (w7 _ _ (by omega) (by omega) (by omega) (by omega)).trans ebx
          rw [adE_1]
          refine ⟨vx, fun y => ?_, fun y => ?_, fun y => ?_, fun y => ?_⟩
          · rw [(adE_2 y).1]
            exact w5 y 0 (by have := (l2 y).1; omega)
          · have y3 : 3 ≤ s := by omega
            rw [(adE_2 y3).2.1]
            exact w5 y3 1 (by have := (l2 y3).2.1 y; omega)
          · have y3 : 3 ≤ s := by omega
            rw [(adE_2 y3).2.2]
            exact w5 y3 2 (by have := (l2 y3).2.2 y; omega)
          · rw [(adE_6 y).1, (adE_6 y).2]
            exact ⟨(w6 y).1, (w6 y).2.1⟩
        · rw [adE_1o q, adE_2o (Or.inl rfl) q, adE_2o (Or.inr (Or.inl rfl)) q, adE_2o (Or.inr (Or.inr rfl)) q, e5 _ (by omega), e5 _ (by omega), e5 _ (by omega), e5 _ (by omega)]
          obtain ⟨c1, c2, c3, c4, c5⟩ := x3 c (by omega)
          refine ⟨c1, c2, c3, c4, fun y => ?_⟩
          by_cases s3 : s < 3
          · by_cases q2 : E 1 c = s
            · exfalso
              have z1 := hP.2.1 c (by omega)
              have z2 := z1.2.2.2.2 y
              rw [q2] at z2
              exact hnw s3 z2
            · rw [(adE_6o s3 q2).1, (adE_6o s3 q2).2]
              exact c5 y
          · rw [adE_5 (by omega) (by omega), adE_5 (by omega) (by omega)]
            exact c5 y
      · rw [o5 _ _ (by omega), o5 _ _ (by omega)]
        by_cases s3 : s < 3
        · rw [if_pos s3] at hp
          by_cases q : p < z
          · rw [adE_5o s3 q, e5 _ (by omega), e5 _ (by omega)]
            exact x4 p q
          · have w := adE_5n (E := E) (z := z) (l := r.2.2) s3 (k := p - z) (by omega)
            have v := (w6 s3).2.2 (p - z) (by omega)
            rw [show z + (p - z) = p by omega] at w v
            rw [w]
            exact v
        · rw [if_neg s3] at hp
          rw [adE_5 (by omega) (by omega), e5 _ (by omega), e5 _ (by omega)]
          exact x4 p hp
      · rw [o5 _ _ (by omega), w7 _ _ (by omega) (by omega) (by omega) (by omega), eb _ _ (by omega)]
        exact s20
      · split
        · rename_i q; exact (l1 q).2
        · omega
    refine ⟨_, ?_, hR⟩
    rw [w1, bd_s, if_pos rfl, v12, inb_n (by omega) (by omega), ck_t, ck_t, stp_s, nI_clamp (by omega), vb, nI_add, iT hR.1 59 13 (by decide)]
    rfl
  refine ⟨fun e => ?_, fun e => ?_, fun e => ?_⟩
  · obtain ⟨S8, w1, w2⟩ := key e.1
    rw [w1, if_pos e.2]
    obtain ⟨c1, ⟨c2, c3⟩, c4, c5, c6, c7, c8⟩ := w2
    have nz2 : B (tS B r.2.1) ≠ 256 := fun q => by
      have := (kd_0 _).mpr q
      have e3 : kd B (tS B r.2.1) = 13 := e.2
      omega
    have te2 := tE_le hB nz2
    have tl3 := hB.nz nz2
    have ti2 := tS_i (B := B) r.2.1
    obtain ⟨S9, z1, z2, z3⟩ := x9_nt (F := F) hF hB c5 (c1.2.1 nz2) te2
    refine ⟨S9, by rw [z1, bd_s], z2, ⟨sk_le hB te2, by omega⟩, (z3 _ _ (by omega)).trans c4, c5.fr (z3 _ _ (by omega)) (fun k => z3 _ _ (by omega)), ?_, by omega, fun u k p1 p2 p3 => (z3 u k (by omega)).trans (c8 u k p1 p2 p3)⟩
    obtain ⟨d1, d2, d3, d4, o', d5, d6, d7⟩ := c6
    refine ⟨(z3 _ _ (by omega)).trans d1, (z3 _ _ (by omega)).trans d2, fun c hc => ?_, fun p hp => ?_, o', d5, (z3 _ _ (by omega)).trans d6, d7⟩
    · rw [z3 _ _ (by omega), z3 _ _ (by omega), z3 _ _ (by omega), z3 _ _ (by omega)]
      exact d3 c hc
    · rw [z3 _ _ (by omega), z3 _ _ (by omega)]
      exact d4 p hp
  · obtain ⟨S5, w1, w2, w3⟩ := r2 e
    rw [w1, bd_s, if_neg (show ¬ nI r.1 = nI 0 from nI_ne0 (by omega) (by omega))]
    exact ⟨S5, rfl, w2, fk S5 w3⟩
  · obtain ⟨S8, w1, w2⟩ := key e.1
    rw [w1, if_neg e.2]
    exact ⟨S8, rfl, w2.1.1, w2.2.2.2.2.2.2⟩
theorem x9_cls (hF : 1000 < F) (hB : BL B L) (hN : ∀ k, 300 ≤ k → kp B k = 0) (hb : b ≤ 2115) (hP : XP E z) (h : RK B L S0 S b i E z) (hk : kp B i ≠ 0) : ((tCs (kp B) (vp B) E z i).1 = 0 → ∃ S', f_X9_clause F S 375 = some (S', nI 0) ∧ RK B L S0 S' b (tCs (kp B) (vp B) E z i).2.1 (tCs (kp B) (vp B) E z i).2.2.1 (tCs (kp B) (vp B) E z i).2.2.2) ∧ ((tCs (kp B) (vp B) E z i).1 ≠ 0 → ∃ S', f_X9_clause F S 375 = some (S', nI (tCs (kp B) (vp B) E z i).1) ∧ S'.1 375 8 = nI (tS B (tCs (kp B) (vp B) E z i).2.1) ∧ FK b S0 S') := by
  obtain ⟨x1, x2, x3, x4, o, o1, o2, o3⟩ := h.2.2.2.2.1
  have a4 := h.2.2.1
  have e24 := hP.1
  have kb := kp_lt B i
  have bad : ∀ f, f ≠ 0 → f_X9_clause F S 375 = some (S, nI f) → tCs (kp B) (vp B) E z i = (f, i, E, z) → ((tCs (kp B) (vp B) E z i).1 = 0 → ∃ S', f_X9_clause F S 375 = some (S', nI 0) ∧ RK B L S0 S' b (tCs (kp B) (vp B) E z i).2.1 (tCs (kp B) (vp B) E z i).2.2.1 (tCs (kp B) (vp B) E z i).2.2.2) ∧ ((tCs (kp B) (vp B) E z i).1 ≠ 0 → ∃ S', f_X9_clause F S 375 = some (S', nI (tCs (kp B) (vp B) E z i).1) ∧ S'.1 375 8 = nI (tS B (tCs (kp B) (vp B) E z i).2.1) ∧ FK b S0 S') := fun f hf e1 e2 => by
    rw [e2]
    exact ⟨fun q => absurd q hf, fun _ => ⟨S, e1, h.1.1, h.2.2.2.2.2.2⟩⟩
  have sf : tSf E (srtK (kp B i)) ≠ 0 → tCs (kp B) (vp B) E z i = (tSf E (srtK (kp B i)), i, E, z) := fun q => if_pos q
  have st := x9_sort (i := i) hB h.1
  rcases srt_kd (kp B i) kb with y | ⟨y1, y2⟩
  · have ef : tSf E (srtK (kp B i)) = 1 := if_pos y
    have := sf (by omega)
    rw [ef] at this
    refine bad 1 (by omega) ?_ this
    rw [u_X9_clause, st, if_pos y, if_neg (by decide)]
  rw [if_neg (show ¬ srtK (kp B i) = 9 by omega)] at st
  generalize hs : srtK (kp B i) = s at *
  have c29 : ∀ S1 : mS, S1.1 375 12 = nI b → S1.1 378 b = nI (E 0 0) → E 0 0 = 24 → lX9_clause_29 F (fun (S : mS) (v1 : Int32) (v2 : Int32) => lX9_clause_65 F 375 S v1 v2) 375 S1 (nI s) = some (S1, nI 6) := fun S1 p1 p2 p3 => by
    rw [u_X9_clause_29, p1, inb_n (by omega) (by omega), ck_t, nI_clamp (by omega), p2, p3, if_pos rfl]
  -- what the clause does, given how far it came
  have fin : ∀ (S1 : mS) (o' : Nat), tSf E s = 0 → o' < 8 → (∀ u k, ¬ (u = 375 ∧ k = 20) → S1.1 u k = S.1 u k) → S1.2 = S.2 → S1.1 375 20 = nI o' → ((tBy (kp B) (vp B) s (i + 1)).1 = 0 → ∀ m, m < 3 → o'.testBit m = decide (adE E z s (tBy (kp B) (vp B) s (i + 1)).2.2 6 m < adE E z s (tBy (kp B) (vp B) s (i + 1)).2.2 7 m)) → f_X9_clause F S 375 = lX9_clause_65 F 375 S1 (nI s) (nI (E 0 0)) → ((tCs (kp B) (vp B) E z i).1 = 0 → ∃ S', f_X9_clause F S 375 = some (S', nI 0) ∧ RK B L S0 S' b (tCs (kp B) (vp B) E z i).2.1 (tCs (kp B) (vp B) E z i).2.2.1 (tCs (kp B) (vp B) E z i).2.2.2) ∧ ((tCs (kp B) (vp B) E z i).1 ≠ 0 → ∃ S', f_X9_clause F S 375 = some (S', nI (tCs (kp B) (vp B) E z i).1) ∧ S'.1 375 8 = nI (tS B (tCs (kp B) (vp B) E z i).2.1) ∧ FK b S0 S') := fun S1 o' f0 p1 p2 p3 p4 p5 p6 => by
    obtain ⟨t1, t2⟩ := sf_24 hP f0
    have nw : s < 3 → ¬ E 6 s < E 7 s := fun q1 q2 => by
      unfold tSf at f0
      rw [if_neg (by omega), if_pos ⟨q1, q2⟩] at f0
      omega
    obtain ⟨k1, k2, k3⟩ := x9_65c (F := F) hF hB hN hb hP h hk y1 t1 nw p1 p2 p3 p4 p5
    have cs : tCs (kp B) (vp B) E z i = (if (tBy (kp B) (vp B) s (i + 1)).1 ≠ 0 then ((tBy (kp B) (vp B) s (i + 1)).1, (tBy (kp B) (vp B) s (i + 1)).2.1, E, z) else (if kp B (tBy (kp B) (vp B) s (i + 1)).2.1 ≠ 13 then (1, (tBy (kp B) (vp B) s (i + 1)).2.1, E, z) else (0, (tBy (kp B) (vp B) s (i + 1)).2.1 + 1, adE E z s (tBy (kp B) (vp B) s (i + 1)).2.2, if s < 3 then z + (tBy (kp B) (vp B) s (i + 1)).2.2.length else z))) := by
      unfold tCs
      rw [hs, if_neg (fun q => q f0)]
    rw [p6]
    by_cases b0 : (tBy (kp B) (vp B) s (i + 1)).1 = 0
    · rw [if_neg (fun q => q b0)] at cs
      by_cases b13 : kp B (tBy (kp B) (vp B) s (i + 1)).2.1 = 13
      · rw [if_neg (fun q => q b13)] at cs
        rw [cs]
        exact ⟨fun _ => k1 ⟨b0, b13⟩, fun q => absurd rfl q⟩
      · rw [if_pos b13] at cs
        rw [cs]
        exact ⟨fun q => absurd q (by show ¬ 1 = 0; omega), fun _ => k3 ⟨b0, b13⟩⟩
    · rw [if_pos b0] at cs
      rw [cs]
      exact ⟨fun q => absurd q b0, fun q => k2 b0⟩
  have go : ∀ S1 : mS, S1.1 375 12 = nI b → S1.1 378 b = nI (E 0 0) → E 0 0 ≠ 24 → lX9_clause_29 F (fun (S : mS) (v1 : Int32) (v2 : Int32) => lX9_clause_65 F 375 S v1 v2) 375 S1 (nI s) = if nI 2 < nI s then lX9_clause_65 F 375 S1 (nI s) (nI (E 0 0)) else lX9_clause_65 F 375 (sI S1 375 20 ((S1.1 375 20) ||| ((nI 1) <<< (nI s &&& 31)))) (nI s) (nI (E 0 0)) := fun S1 p1 p2 p3 => by
    rw [u_X9_clause_29, p1, inb_n (by omega) (by omega), ck_t, nI_clamp (by omega), p2, ifn (by omega) (by omega), if_neg p3, stp_s]
  by_cases s3 : s < 3
  · have E1 : f_X9_clause F S 375 = if decide (E 6 s < E 7 s) = true then some (S, nI 4) else lX9_clause_29 F (fun (S : mS) (v1 : Int32) (v2 : Int32) => lX9_clause_65 F 375 S v1 v2) 375 S (nI s) := by
      rw [u_X9_clause, st, if_pos (nI_le (by omega) (by omega)), if_neg (nI_nlt (by omega) (by omega)), o2, x9_has S (by omega) (by omega), o3 s s3]
    by_cases q : E 6 s < E 7 s
    · have ef : tSf E s = 4 := by
        unfold tSf
        rw [if_neg (by omega), if_pos ⟨s3, q⟩]
      have := sf (by omega)
      rw [ef] at this
      refine bad 4 (by omega) ?_ this
      rw [E1, decide_eq_true q, if_pos rfl]
    rw [decide_eq_false q, if_neg Bool.false_ne_true] at E1
    by_cases e : E 0 0 = 24
    · have ef : tSf E s = 6 := by
        unfold tSf
        rw [if_neg (by omega), if_neg (fun w => q w.2), if_pos e]
      have := sf (by omega)
      rw [ef] at this
      exact bad 6 (by omega) (E1.trans (c29 S a4 x1 e)) this
    · have ef : tSf E s = 0 := by
        unfold tSf
        rw [if_neg (by omega), if_neg (fun w => q w.2), if_neg e]
      rw [go S a4 x1 e, if_neg (nI_nlt (by omega) (by omega)), o2, i_shl (by omega), fa_or] at E1
      refine fin _ (o ||| 2 ^ s) ef (Nat.or_lt_two_pow (n := 3) o1 (Nat.pow_lt_pow_right (by decide) s3)) (fun u k p => sq_off (by omega)) rfl (sq_hit _ _ _ _) (fun e0 m hm => ?_) E1
      rw [Nat.testBit_or, Nat.testBit_two_pow, o3 m hm]
      by_cases ms : m = s
      · subst ms
        have w : 0 < (tBy (kp B) (vp B) m (i + 1)).2.2.length := by
          rw [show tBy (kp B) (vp B) m (i + 1) = tLw (kp B) (vp B) (decide (m = 2)) (i + 1) from if_pos s3] at e0 ⊢
          have i3 := h.2.1.2
          have hi : i < 300 := by
            rcases Nat.lt_or_ge i 300 with y | y
            · exact y
            · exact absurd (hN i y) hk
          exact ((tLw_g (κ := kp B) (vl := vp B) hN (s := m) (i := i + 1) (by omega)).2 e0).1.1
        rw [(adE_6 s3).1, (adE_6 s3).2, decide_eq_true rfl, Bool.or_true, decide_eq_true (by omega)]
      · rw [(adE_6o s3 ms).1, (adE_6o s3 ms).2, decide_eq_false (show ¬ s = m from fun w => ms w.symm), Bool.or_false]
  · have E1 : f_X9_clause F S 375 = lX9_clause_29 F (fun (S : mS) (v1 : Int32) (v2 : Int32) => lX9_clause_65 F 375 S v1 v2) 375 S (nI s) := by
      rw [u_X9_clause, st, if_pos (nI_le (by omega) (by omega)), if_pos (nI_lt (by omega) (by omega))]
    by_cases e : E 0 0 = 24
    · have ef : tSf E s = 6 := by
        unfold tSf
        rw [if_neg (by omega), if_neg (fun w => s3 w.1), if_pos e]
      have := sf (by omega)
      rw [ef] at this
      exact bad 6 (by omega) (E1.trans (c29 S a4 x1 e)) this
    · have ef : tSf E s = 0 := by
        unfold tSf
        rw [if_neg (by omega), if_neg (fun w => s3 w.1), if_neg e]
      rw [go S a4 x1 e, if_pos (nI_lt (by omega) (by omega))] at E1
      refine fin S o ef o1 (fun _ _ _ => rfl) rfl o2 (fun e0 m hm => ?_) E1
      rw [adE_5 (by omega) (by omega), adE_5 (by omega) (by omega)]
      exact o3 m hm
theorem x9_43 (hF : 1000 < F) (hB : BL B L) (hN : ∀ k, 300 ≤ k → kp B k = 0) (hb : b ≤ 2115) : ∀ (m k : Nat) {S : mS} {i : Nat} {E : Tw} {z : Nat}, E 0 0 + m = 25 → m < k → RK B L S0 S b i E z → XP E z → ((tTx (kp B) (vp B) m E z i).1 = 0 → ∃ S', lX9_readText_43 F 375 k S = some (S', nI 0) ∧ RK B L S0 S' b (tTx (kp B) (vp B) m E z i).2.1 (tTx (kp B) (vp B) m E z i).2.2.1 (tTx (kp B) (vp B) m E z i).2.2.2) ∧ ((tTx (kp B) (vp B) m E z i).1 ≠ 0 → ∃ S', lX9_readText_43 F 375 k S = some (S', nI (tTx (kp B) (vp B) m E z i).1) ∧ S'.1 375 8 = nI (tS B (tTx (kp B) (vp B) m E z i).2.1) ∧ FK b S0 S')
  | 0, k, S, i, E, z, hm, hk, h, hP => by have := hP.1; omega
  | m + 1, k, S, i, E, z, hm, hk, h, hP => by
    obtain ⟨k, rfl⟩ : ∃ k', k = k' + 1 := ⟨k - 1, by omega⟩
    have T1 : ∀ X : tX, (if kp B i = 0 then (0, i, E, z) else (if (tCs (kp B) (vp B) E z i).1 = 0 then tTx (kp B) (vp B) m (tCs (kp B) (vp B) E z i).2.2.1 (tCs (kp B) (vp B) E z i).2.2.2 (tCs (kp B) (vp B) E z i).2.1 else tCs (kp B) (vp B) E z i)) = X → tTx (kp B) (vp B) (m + 1) E z i = X := fun X hX => hX
    rw [u_X9_readText_43, iT h.1 0 0 (by decide)]
    show (_ → ∃ S', (if kp B i = 0 then _ else _) = _ ∧ _) ∧ (_ → ∃ S', (if kp B i = 0 then _ else _) = _ ∧ _)
    by_cases e0 : kp B i = 0
    · rw [if_pos e0, T1 _ (if_pos e0)]
      exact ⟨fun _ => ⟨S, rfl, h⟩, fun q => absurd rfl q⟩
    rw [if_neg e0]
    have hi : i < 300 := by
      rcases Nat.lt_or_ge i 300 with y | y
      · exact y
      · exact absurd (hN i y) e0
    obtain ⟨c1, c2⟩ := x9_cls (F := F) hF hB hN hb hP h e0
    by_cases f0 : (tCs (kp B) (vp B) E z i).1 = 0
    · obtain ⟨S1, x1, y1⟩ := c1 f0
      obtain ⟨p1, p2, p3, p4, p5⟩ := XP_cs (κ := kp B) (vl := vp B) hN (E := E) (z := z) (i := i) hi (kp_lt B i) hP f0 h.2.2.2.2.2.1
      rw [x1, bd_s, if_pos rfl, T1 _ ((if_neg e0).trans (if_pos f0))]
      exact x9_43 hF hB hN hb m k (by omega) (by omega) y1 p1
    · obtain ⟨S1, x1, y1⟩ := c2 f0
      have f6 : (tCs (kp B) (vp B) E z i).1 ≤ 6 := by
        unfold tCs
        by_cases a : tSf E (srtK (kp B i)) ≠ 0
        · rw [if_pos a]
          show tSf E (srtK (kp B i)) ≤ 6
          unfold tSf
          repeat' split
          all_goals omega
        · rw [if_neg a]
          by_cases b1 : (tBy (kp B) (vp B) (srtK (kp B i)) (i + 1)).1 ≠ 0
          · rw [if_pos b1]
            exact (tBy_g (κ := kp B) (vl := vp B) hN (s := srtK (kp B i)) (i := i + 1) (by omega)).2.2
          · rw [if_neg b1]
            split
            · show 1 ≤ 6; omega
            · exact Nat.zero_le _
      rw [x1, bd_s, if_neg (show ¬ nI (tCs (kp B) (vp B) E z i).1 = nI 0 from nI_ne0 (by omega) (by omega)), T1 _ ((if_neg e0).trans (if_neg f0))]
      exact ⟨fun q => absurd q f0, fun _ => ⟨S1, rfl, y1⟩⟩
end
