/-! ===== end, feed ===== -/
def TpC (S : mS) (L : Nat) (f : Nat → Int32) : Prop := S.1 0 1 = nI L ∧ ∀ k, k < L → S.1 1 k = f k
def TpR (S : mS) (L : Nat) (f : Nat → Int32) : Prop := S.1 375 4 = nI L ∧ ∀ k, k < L → S.1 379 k = f k
def FtC (S S' : mS) : Prop := ∀ u k, ¬ (u = 0 ∧ k = 1) → u ≠ 1 → S'.1 u k = S.1 u k
def FtR (S S' : mS) : Prop := ∀ u k, ¬ (u = 375 ∧ k = 4) → u ≠ 379 → S'.1 u k = S.1 u k
theorem Inv.tape {S S1 S2 : mS} (hI : Inv S) {L : Nat} {f : Nat → Int32} (hL : L ≤ 300) (f1 : FtC S S1) (f2 : FtR S1 S2) (t1 : TpC S1 L f) (t2 : TpR S2 L f) (hf : ∀ k, k < L → ∃ b, b < 256 ∧ f k = nI b) : Inv S2 := by
  obtain ⟨T, P, N, T1, P1, N1, E, h1, h2, h3, h4, h5, h6, h7, h8, g1, g2, g3⟩ := hI
  have x2 := h3.2.2.1
  have e : ∀ u k, ¬ (u = 0 ∧ k = 1) → u ≠ 1 → ¬ (u = 375 ∧ k = 4) → u ≠ 379 → S2.1 u k = S.1 u k := fun u k a b c d => (f2 u k c d).trans (f1 u k a b)
  refine ⟨T, P, N, T1, P1, N1, E, h1.fr (fun u k a b => e _ _ (by omega) (by omega) (by omega) (by omega)), h2.fr (fun k => e _ _ (by omega) (by omega) (by omega) (by omega)), h3, h4.fr (fun u k a b => e _ _ (by omega) (by omega) (by omega) (by omega)), h5.fr (fun k => e _ _ (by omega) (by omega) (by omega) (by omega)), h6, h7, fun i hi => (h8 i hi).fr (by omega) (fun u k a b => e _ _ (by omega) (by omega) (by omega) (by omega)) (fun k => e _ _ (by omega) (by omega) (by omega) (by omega)), ⟨L, hL, ?_, t2.1, fun k hk => ?_⟩, ?_, fun l hl => ?_⟩
  · rw [f2 _ _ (by omega) (by omega)]; exact t1.1
  · obtain ⟨b, hb, e1⟩ := hf k hk
    refine ⟨b, hb, ?_, ?_⟩
    · rw [f2 _ _ (by omega) (by omega), t1.2 k hk, e1]
    · rw [t2.2 k hk, e1]
  · rw [e 0 2 (by omega) (by omega) (by omega) (by omega), e 375 5 (by omega) (by omega) (by omega) (by omega), e 375 6 (by omega) (by omega) (by omega) (by omega), e 2 1 (by omega) (by omega) (by omega) (by omega), e 2 2 (by omega) (by omega) (by omega) (by omega)]
    exact g2
  · rw [e 34 l (by omega) (by omega) (by omega) (by omega), e 35 l (by omega) (by omega) (by omega) (by omega)]
    exact g3 l hl
theorem st_end : ∀ S, Inv S → ∀ a1, Step μX8_end μX9_end Inv S [.int a1] := by
  intro S hI a
  have hI' := hI
  obtain ⟨T, P, N, T1, P1, N1, E, h1, h2, h3, h4, h5, h6, h7, h8, ⟨L, hL, g1, g2, g4⟩, -, -⟩ := hI'
  have e8 : f_X8_end 0 S 0 a = if f_X8_isWithin S a (nI 0) (nI L) = true then some (sI S 0 1 a, a) else some (S, -1) := by
    rw [u_X8_end, g1]; rfl
  have e9 : ∀ S', S'.1 375 4 = nI L → f_X9_end 0 S' 375 a = if f_X8_isWithin S a (nI 0) (nI L) = true then some (sI S' 375 4 a, a) else some (S', -1) := fun S' h => by
    rw [u_X9_end, h]; rfl
  rcases win_c (S := S) a 0 L (by omega) (by omega) with z | ⟨j, -, hj, rfl, z⟩
  · rw [z] at e8 e9
    exact stepR hI (c_X8_end k_0 e8) (c_X9_end k_375 (e9 S g2)) (by decide) (by decide)
  · rw [z, if_pos rfl] at e8
    have e9' := e9 (sI S 0 1 (nI j)) g2
    rw [z, if_pos rfl] at e9'
    refine stepW (S1 := sI S 0 1 (nI j)) (S2 := sI (sI S 0 1 (nI j)) 375 4 (nI j)) (r := nI j) (c_X8_end k_0 e8) (c_X9_end k_375 e9') (hI.tape (L := j) (f := S.1 1) (by omega) (fun u k a b => sq_off (by omega)) (fun u k a b => sq_off (by omega)) ⟨rfl, fun k hk => rfl⟩ ⟨rfl, fun k hk => ?_⟩ (fun k hk => ?_)) (by decide) (by decide)
    · obtain ⟨b, hb, x, y⟩ := g4 k (by omega)
      show S.1 379 k = S.1 1 k
      rw [x, y]
    · obtain ⟨b, hb, x, y⟩ := g4 k (by omega)
      exact ⟨b, hb, x⟩
/-- a byte more -/
def bya (f : Nat → Int32) (L : Nat) (b : Int32) : Nat → Int32 := fun k => if k = L then b else f k
section
variable {F : Nat} {S : mS} {L : Nat} {f : Nat → Int32}
theorem x8_ap1 (n : Nat) {a v : Int32} (h : TpC S L f) (hL : L < 300) (hv : ¬ v < nI 0) : lX8_appendBytes_3 F 0 a (n + 1) S v = lX8_appendBytes_3 F 0 a n (sI (sI S 1 L ((a >>> (v &&& 31)) &&& nI 255)) 0 1 (nI (L + 1))) (v + (-8)) ∧ TpC (sI (sI S 1 L ((a >>> (v &&& 31)) &&& nI 255)) 0 1 (nI (L + 1))) (L + 1) (bya f L ((a >>> (v &&& 31)) &&& nI 255)) := by
  constructor
  · have y : ∀ w, (sI S 1 L w).1 0 1 = nI L := fun w => by rw [sq_u (by decide)]; exact h.1
    rw [u_X8_appendBytes_3, if_neg hv, h.1, if_neg (nI_ge hL (by omega)), inb_n hL (by omega), ck_t, nI_clamp (by omega), stp_s, stp_s, y, nI_add]
  · refine ⟨rfl, fun k hk => ?_⟩
    rw [sq_u (by decide)]
    unfold bya
    by_cases q : k = L
    · rw [if_pos q, q]; exact sq_hit _ _ _ _
    · rw [if_neg q, sq_off (by omega)]; exact h.2 k (by omega)
theorem x9_ap1 (n : Nat) {a v : Int32} (h : TpR S L f) (hL : L < 300) (hv : ¬ v < nI 0) : lX9_four_3 F 375 a (n + 1) S v = lX9_four_3 F 375 a n (sI (sI S 379 L ((a >>> (v &&& 31)) &&& nI 255)) 375 4 (nI (L + 1))) (v + (-8)) ∧ TpR (sI (sI S 379 L ((a >>> (v &&& 31)) &&& nI 255)) 375 4 (nI (L + 1))) (L + 1) (bya f L ((a >>> (v &&& 31)) &&& nI 255)) := by
  constructor
  · have y : ∀ w, (sI S 379 L w).1 375 4 = nI L := fun w => by rw [sq_u (by decide)]; exact h.1
    rw [u_X9_four_3, if_neg hv, h.1, inb_n hL (by omega), ck_t, nI_clamp (by omega), stp_s, stp_s, y, nI_add]
  · refine ⟨rfl, fun k hk => ?_⟩
    rw [sq_u (by decide)]
    unfold bya
    by_cases q : k = L
    · rw [if_pos q, q]; exact sq_hit _ _ _ _
    · rw [if_neg q, sq_off (by omega)]; exact h.2 k (by omega)
def by4 (f : Nat → Int32) (L : Nat) (a : Int32) : Nat → Int32 := bya (bya (bya (bya f L ((a >>> (nI 24 &&& 31)) &&& nI 255)) (L + 1) ((a >>> (nI 16 &&& 31)) &&& nI 255)) (L + 2) ((a >>> (nI 8 &&& 31)) &&& nI 255)) (L + 3) ((a >>> (nI 0 &&& 31)) &&& nI 255)
theorem FtC.trans {S S1 S2 : mS} (h : FtC S S1) (h2 : FtC S1 S2) : FtC S S2 := fun u k a b => (h2 u k a b).trans (h u k a b)
theorem FtR.trans {S S1 S2 : mS} (h : FtR S S1) (h2 : FtR S1 S2) : FtR S S2 := fun u k a b => (h2 u k a b).trans (h u k a b)
theorem ftc_1 {S : mS} {L : Nat} {b v : Int32} : FtC S (sI (sI S 1 L b) 0 1 v) := fun u k h1 h2 => by rw [sq_off (by omega), sq_off (by omega)]
theorem ftr_1 {S : mS} {L : Nat} {b v : Int32} : FtR S (sI (sI S 379 L b) 375 4 v) := fun u k h1 h2 => by rw [sq_off (by omega), sq_off (by omega)]
theorem x8_ap (hF : 10 < F) (a : Int32) (h : TpC S L f) (hL : L + 4 ≤ 300) : ∃ S', f_X8_appendBytes F S 0 a = some S' ∧ TpC S' (L + 4) (by4 f L a) ∧ FtC S S' := by
  obtain ⟨F', rfl⟩ : ∃ F', F = F' + 5 := ⟨F - 5, by omega⟩
  obtain ⟨a1, a2⟩ := x8_ap1 (F := F' + 5) (F' + 4) (a := a) (v := nI 24) h (by omega) (by decide)
  obtain ⟨b1, b2⟩ := x8_ap1 (F := F' + 5) (F' + 3) (a := a) (v := nI 16) a2 (by omega) (by decide)
  obtain ⟨c1, c2⟩ := x8_ap1 (F := F' + 5) (F' + 2) (a := a) (v := nI 8) b2 (by omega) (by decide)
  obtain ⟨d1, d2⟩ := x8_ap1 (F := F' + 5) (F' + 1) (a := a) (v := nI 0) c2 (by omega) (by decide)
  refine ⟨_, ?_, d2, ((ftc_1.trans ftc_1).trans ftc_1).trans ftc_1⟩
  rw [u_X8_appendBytes, a1, show nI 24 + (-8) = nI 16 by decide, b1, show nI 16 + (-8) = nI 8 by decide, c1, show nI 8 + (-8) = nI 0 by decide, d1, u_X8_appendBytes_3, if_pos (by decide)]
theorem x9_ap (hF : 10 < F) (a : Int32) (h : TpR S L f) (hL : L + 4 ≤ 300) : ∃ S', f_X9_four F S 375 a = some S' ∧ TpR S' (L + 4) (by4 f L a) ∧ FtR S S' := by
  obtain ⟨F', rfl⟩ : ∃ F', F = F' + 5 := ⟨F - 5, by omega⟩
  obtain ⟨a1, a2⟩ := x9_ap1 (F := F' + 5) (F' + 4) (a := a) (v := nI 24) h (by omega) (by decide)
  obtain ⟨b1, b2⟩ := x9_ap1 (F := F' + 5) (F' + 3) (a := a) (v := nI 16) a2 (by omega) (by decide)
  obtain ⟨c1, c2⟩ := x9_ap1 (F := F' + 5) (F' + 2) (a := a) (v := nI 8) b2 (by omega) (by decide)
  obtain ⟨d1, d2⟩ := x9_ap1 (F := F' + 5) (F' + 1) (a := a) (v := nI 0) c2 (by omega) (by decide)
  refine ⟨_, ?_, d2, ((ftr_1.trans ftr_1).trans ftr_1).trans ftr_1⟩
  rw [u_X9_four, a1, show nI 24 + (-8) = nI 16 by decide, b1, show nI 16 + (-8) = nI 8 by decide, c1, show nI 8 + (-8) = nI 0 by decide, d1, u_X9_four_3, if_pos (by decide)]
def byok (f : Nat → Int32) (L : Nat) : Prop := ∀ k, k < L → ∃ b, b < 256 ∧ f k = nI b
theorem bya_ok (h : byok f L) (x : Int32) : byok (bya f L (x &&& nI 255)) (L + 1) := fun k hk => by
  unfold bya
  by_cases q : k = L
  · rw [if_pos q]
    obtain ⟨j, hj, e⟩ := pk_andE x (m := nI 255) 8 (by decide)
    exact ⟨j, hj, e⟩
  · rw [if_neg q]
    exact h k (by omega)
theorem by4_ok (h : byok f L) (a : Int32) : byok (by4 f L a) (L + 4) := bya_ok (bya_ok (bya_ok (bya_ok h _) _) _) _
end
theorem st_feed : ∀ S, Inv S → ∀ a1 a2 a3 a4 a5, Step μX8_feed μX9_feed Inv S [.int a1, .int a2, .int a3, .int a4, .int a5] := by
  intro S hI a1 a2 a3 a4 a5
  have hI' := hI
  obtain ⟨F, hF⟩ := big_F
  obtain ⟨T, P, N, T1, P1, N1, E, h1, h2, h3, h4, h5, h6, h7, h8, ⟨L, hL, g1, g2, g4⟩, -, -⟩ := hI'
  by_cases q : L ≤ 280
  · have t0 : TpC S L (S.1 1) := ⟨g1, fun k hk => rfl⟩
    have r0 : TpR S L (S.1 1) := ⟨g2, fun k hk => by obtain ⟨b, hb, x, y⟩ := g4 k hk; rw [x, y]⟩
    have ok0 : byok (S.1 1) L := fun k hk => by obtain ⟨b, hb, x, y⟩ := g4 k hk; exact ⟨b, hb, x⟩
    obtain ⟨A1, u1, t1, f1⟩ := x8_ap (F := F) (by omega) a1 t0 (by omega)
    obtain ⟨A2, u2, t2, f2⟩ := x8_ap (F := F) (by omega) a2 t1 (by omega)
    obtain ⟨A3, u3, t3, f3⟩ := x8_ap (F := F) (by omega) a3 t2 (by omega)
    obtain ⟨A4, u4, t4, f4⟩ := x8_ap (F := F) (by omega) a4 t3 (by omega)
    obtain ⟨A5, u5, t5, f5⟩ := x8_ap (F := F) (by omega) a5 t4 (by omega)
    have fA : FtC S A5 := (((f1.trans f2).trans f3).trans f4).trans f5
    have r0' : TpR A5 L (S.1 1) := ⟨(fA _ _ (by omega) (by omega)).trans r0.1, fun k hk => (fA _ _ (by omega) (by omega)).trans (r0.2 k hk)⟩
    obtain ⟨B1, v1, s1, m1⟩ := x9_ap (F := F) (by omega) a1 r0' (by omega)
    obtain ⟨B2, v2, s2, m2⟩ := x9_ap (F := F) (by omega) a2 s1 (by omega)
    obtain ⟨B3, v3, s3, m3⟩ := x9_ap (F := F) (by omega) a3 s2 (by omega)
    obtain ⟨B4, v4, s4, m4⟩ := x9_ap (F := F) (by omega) a4 s3 (by omega)
    obtain ⟨B5, v5, s5, m5⟩ := x9_ap (F := F) (by omega) a5 s4 (by omega)
    have hA : f_X8_feed F S 0 a1 a2 a3 a4 a5 = some (A5, nI (L + 4 + 4 + 4 + 4 + 4)) := by
      rw [u_X8_feed, g1, if_pos (nI_le q (by omega)), u1, bd_s, u2, bd_s, u3, bd_s, u4, bd_s, u5, bd_s, t5.1]
    have hB : f_X9_feed F A5 375 a1 a2 a3 a4 a5 = some (B5, nI (L + 4 + 4 + 4 + 4 + 4)) := by
      rw [u_X9_feed, r0'.1, nI_add, if_pos (nI_le (by omega) (by omega)), v1, bd_s, v2, bd_s, v3, bd_s, v4, bd_s, v5, bd_s, s5.1]
    exact stepW (S1 := A5) (S2 := B5) (r := nI (L + 4 + 4 + 4 + 4 + 4)) (c_X8_feed k_0 hA) (c_X9_feed k_375 hB) (hI.tape (by omega) fA ((((m1.trans m2).trans m3).trans m4).trans m5) t5 s5 (by4_ok (by4_ok (by4_ok (by4_ok (by4_ok ok0 _) _) _) _) _)) (by decide) (by decide)
  · have hA : f_X8_feed F S 0 a1 a2 a3 a4 a5 = some (S, -1) := by
      rw [u_X8_feed, g1, if_neg (nI_ge (by omega) (by omega))]
    have hB : f_X9_feed F S 375 a1 a2 a3 a4 a5 = some (S, -1) := by
      rw [u_X9_feed, g2, nI_add, if_neg (nI_ge (by omega) (by omega))]
    exact stepR hI (c_X8_feed k_0 hA) (c_X9_feed k_375 hB) (by decide) (by decide)
