/-! ===== the reference reads a clause ===== -/
def XR (S : mS) (b : Nat) (E : Tw) (z : Nat) : Prop := S.1 378 b = nI (E 0 0) ∧ S.1 375 13 = nI z ∧ (∀ c, c < E 0 0 → S.1 378 (b + 1 + 4 * c) = nI (E 1 c) ∧ (3 ≤ E 1 c → S.1 378 (b + 1 + 4 * c + 1) = nI (E 2 c)) ∧ (E 1 c = 3 ∨ E 1 c = 5 ∨ E 1 c = 7 → S.1 378 (b + 1 + 4 * c + 2) = nI (E 3 c)) ∧ (E 1 c = 3 → S.1 378 (b + 1 + 4 * c + 3) = nI (E 4 c)) ∧ (E 1 c < 3 → S.1 378 (b + 1 + 4 * c + 1) = nI (E 6 (E 1 c)) ∧ S.1 378 (b + 1 + 4 * c + 2) = nI (E 7 (E 1 c)))) ∧ (∀ p, p < z → S.1 378 (b + 97 + 2 * p) = nI (rOp (E 5 p)) ∧ S.1 378 (b + 97 + 2 * p + 1) = nI (rVal (E 5 p))) ∧ ∃ o, o < 8 ∧ S.1 375 20 = nI o ∧ ∀ l, l < 3 → o.testBit l = decide (E 6 l < E 7 l)
def FK (b : Nat) (S0 S : mS) : Prop := ∀ u k, ¬ (u = 375 ∧ 7 ≤ k ∧ k ≤ 20) → u ≠ 380 → ¬ (u = 378 ∧ b ≤ k ∧ k < b + 705) → S.1 u k = S0.1 u k
def RK (B : Nat → Nat) (L : Nat) (S0 S : mS) (b i : Nat) (E : Tw) (z : Nat) : Prop := TQ B S (tS B i) ∧ (tS B i ≤ L ∧ i ≤ 300) ∧ S.1 375 12 = nI b ∧ TP S B L ∧ XR S b E z ∧ z ≤ i ∧ FK b S0 S
def RN (B : Nat → Nat) (L : Nat) (Sb S : mS) (x i : Nat) (l : List Nat) : Prop := TQ B S (tS B i) ∧ (tS B i ≤ L ∧ i ≤ 300) ∧ (∀ k, k < l.length → S.1 378 (x + 1 + k) = nI (l.getD k 0)) ∧ ∀ u k, ¬ (u = 375 ∧ 7 ≤ k ∧ k ≤ 10) → ¬ (u = 378 ∧ x + 1 ≤ k ∧ k ≤ x + 3) → S.1 u k = Sb.1 u k
def RNr (B : Nat → Nat) (L : Nat) (Sb : mS) (x : Nat) (o : Option (mS × Int32)) (r : tR) : Prop := (r.1 = 0 → ∃ S', o = some (S', nI 0) ∧ RN B L Sb S' x r.2.1 r.2.2) ∧ (r.1 ≠ 0 → ∃ S', o = some (S', nI r.1) ∧ S'.1 375 8 = nI (tS B r.2.1) ∧ ∀ u k, ¬ (u = 375 ∧ 7 ≤ k ∧ k ≤ 10) → ¬ (u = 378 ∧ x + 1 ≤ k ∧ k ≤ x + 3) → S'.1 u k = Sb.1 u k)
section
variable {F : Nat} {B : Nat → Nat} {L : Nat} {Sb S : mS} {x i : Nat} {l : List Nat}
theorem RN.nx (hF : 1000 < F) (hB : BL B L) (hT : TP Sb B L) (h : RN B L Sb S x i l) (hk : kp B i ≠ 0) : ∃ S', f_X9_nextToken F S 375 = some S' ∧ RN B L Sb S' x (i + 1) l := by
  have hB1 := hB.1
  have nz : B (tS B i) ≠ 256 := fun z => hk ((kd_0 _).mpr z)
  obtain ⟨h1, ⟨h2, h3⟩, h4, h5⟩ := id h
  have te := tE_le hB nz
  have tl := hB.nz nz
  have ti := tS_i (B := B) i
  obtain ⟨S', a, b, d⟩ := x9_nt hF hB (hT.fr (h5 _ _ (by omega) (by omega)) (fun k => h5 _ _ (by omega) (by omega))) (h1.2.1 nz) te
  refine ⟨S', a, b, ⟨sk_le hB te, by omega⟩, fun k hk => (d _ _ (by omega)).trans (h4 k hk), fun u k y1 y2 => (d u k y1).trans (h5 u k y1 y2)⟩
theorem RN.bad {f : Nat} {c : List Nat} (h : RN B L Sb S x i l) (hf : f ≠ 0) : RNr B L Sb x (some (S, nI f)) (f, i, c) := ⟨fun z => absurd z hf, fun _ => ⟨S, rfl, h.1.1, h.2.2.2⟩⟩
theorem x9_fig (hF : 1000 < F) (hB : BL B L) (hT : TP Sb B L) (hx : x + 3 < 2820) (h : RN B L Sb S x i l) (hl : l.length < 3) {lo hi : Nat} (h1 : lo < 10000) (h2 : hi < 10000) {v : Int32} (hv : v = nI (x + 1 + l.length)) : RNr B L Sb x (f_X9_figure F S 375 v (nI lo) (nI hi)) (tNm (kp B) (vp B) lo hi i l) := by
  rw [u_X9_figure, iT h.1 1 2 (by decide), hv]
  show RNr B L Sb x (if kp B i = 2 then _ else _) _
  unfold tNm
  by_cases e : kp B i = 2
  · rw [if_pos e, if_pos e]
    obtain ⟨-, m, m1, m2, m3⟩ := h.1.num e
    have m3 : min m 10000 = vp B i := m3
    rw [m2, x9_isIn, win_n (by omega) (by omega) (by omega)]
    by_cases q : lo ≤ vp B i ∧ vp B i ≤ hi
    · have em : m = vp B i := by omega
      rw [em, decide_eq_true q, if_pos rfl, if_pos q, inb_n (by omega) (by omega), ck_t, stp_s, nI_clamp (by omega)]
      have hR : RN B L Sb (sI S 378 (x + 1 + l.length) (nI (vp B i))) x i (l ++ [vp B i]) := by
        obtain ⟨a1, a2, a3, a4⟩ := h
        refine ⟨⟨(sq_off (by omega)).trans a1.1, fun z => (sq_off (by omega)).trans (a1.2.1 z), ?_⟩, a2, fun k hk => ?_, fun u k y1 y2 => (sq_off (by omega)).trans (a4 u k y1 y2)⟩
        · rw [sq_off (by omega), sq_off (by omega)]
          exact a1.2.2
        · rw [gd_app]
          rw [List.length_append, List.length_singleton] at hk
          by_cases y : k < l.length
          · rw [if_pos y, sq_off (by omega)]; exact a3 k y
          · have y2 : k = l.length := by omega
            rw [if_neg y, if_pos y2, y2, sq_hit]
      obtain ⟨S', a, b⟩ := hR.nx (F := F) hF hB hT (by omega)
      rw [a, bd_s]
      exact ⟨fun _ => ⟨S', rfl, b⟩, fun z => absurd rfl z⟩
    · rw [decide_eq_false (fun z => q (by omega)), if_neg Bool.false_ne_true, if_neg q]
      exact h.bad (by decide)
  · rw [if_neg e, if_neg e]
    exact h.bad (by decide)
theorem x9_wrd (hF : 1000 < F) (hB : BL B L) (hT : TP Sb B L) (hx : x + 3 < 2820) (h : RN B L Sb S x i l) (hl : l.length < 3) {hi w : Nat} (h2 : hi < 10000) (hw : w < 22) {v : Int32} {c : Int64} (hc : c = lN (wcs.getD w 0)) (hv : v = nI (x + 1 + l.length)) : RNr B L Sb x (f_X9_worded F S 375 c v (nI hi)) (tB (tEx (kp B) (16 + w) i l) (tNm (kp B) (vp B) 0 hi)) := by
  rw [u_X9_worded, iW hB h.1 hw hc]
  show RNr B L Sb x (if decide (kp B i = 16 + w) = true then _ else _) _
  unfold tEx
  by_cases e : kp B i = 16 + w
  · rw [decide_eq_true e, if_pos rfl, if_pos e, tB_i]
    obtain ⟨S', a, b⟩ := h.nx (F := F) hF hB hT (by omega)
    rw [a, bd_s]
    have r := x9_fig (F := F) hF hB hT hx b hl (lo := 0) (hi := hi) (by omega) h2 hv
    have e2 : ∀ o : Option (mS × Int32), (bd o fun q2 => some (q2.1, q2.2)) = o := fun o => by cases o <;> rfl
    rw [e2]
    exact r
  · rw [decide_eq_false e, if_neg Bool.false_ne_true, if_neg e, tB_n (r := (1, _, _)) (by show ¬ 1 = 0; omega)]
    exact h.bad (by decide)
theorem x9_dd (hF : 1000 < F) (hB : BL B L) (hT : TP Sb B L) (hx : x + 3 < 2820) (h : RN B L Sb S x i []) {s : Nat} (hs : 3 ≤ s ∧ s < 9) : RNr B L Sb x (f_X9_body F S 375 (nI s) (nI x)) (tDd (kp B) (vp B) s i) := by
  have e2 : ∀ o : Option (mS × Int32), (bd o fun q2 => some (q2.1, q2.2)) = o := fun o => by cases o <;> rfl
  have two : ∀ (hi1 w : Nat) (c : mS → Int64), hi1 < 10000 → w < 22 → (∀ S, c S = lN (wcs.getD w 0)) → RNr B L Sb x (bd (f_X9_figure F S 375 (nI x + nI 1) (nI 0) (nI hi1)) fun q6 => if q6.2 = (nI 0) then (bd (f_X9_worded F q6.1 375 (c q6.1) (nI x + (nI 2)) (nI 6)) fun q7 => some (q7.1, q7.2)) else (some (q6.1, q6.2))) (tB (tB (tNm (kp B) (vp B) 0 hi1 i []) (tEx (kp B) (16 + w))) (tNm (kp B) (vp B) 0 6)) := by
    intro hi1 w c hh hw hc
    have r1 := x9_fig (F := F) hF hB hT hx h (by decide) (lo := 0) (hi := hi1) (by omega) hh (v := nI x + nI 1) (by rw [nI_add]; rfl)
    by_cases e : (tNm (kp B) (vp B) 0 hi1 i []).1 = 0
    · obtain ⟨S1, x1, y1⟩ := r1.1 e
      rw [x1, bd_s, if_pos rfl, e2, tB_0 e]
      rw [(tNm_0 e).2.2] at y1 ⊢
      exact x9_wrd hF hB hT hx y1 (by show 1 < 3; omega) (by omega) hw (hc _) (by rw [nI_add]; rfl)
    · obtain ⟨S1, x1, y1⟩ := r1.2 e
      have b6 : (tNm (kp B) (vp B) 0 hi1 i []).1 ≤ 6 := by
        unfold tNm
        split
        · split
          · exact Nat.zero_le _
          · show 2 ≤ 6; omega
        · show 1 ≤ 6; omega
      rw [tB_n (r := tNm (kp B) (vp B) 0 hi1 i []) e, tB_n e, x1, bd_s, if_neg (show ¬ nI (tNm (kp B) (vp B) 0 hi1 i []).1 = nI 0 from nI_ne0 (by omega) (by omega))]
      exact ⟨fun z => absurd z e, fun _ => ⟨S1, rfl, y1⟩⟩
  have one : ∀ lo hi1, lo < 10000 → hi1 < 10000 → RNr B L Sb x (bd (f_X9_figure F S 375 (nI x + nI 1) (nI lo) (nI hi1)) fun q => some (q.1, q.2)) (tNm (kp B) (vp B) lo hi1 i []) := fun lo hi1 h1 h2 => by
    rw [e2]
    exact x9_fig (F := F) hF hB hT hx h (by decide) h1 h2 (by rw [nI_add]; rfl)
  rw [u_X9_body]
  unfold tDd
  have hcase : s = 3 ∨ s = 4 ∨ s = 5 ∨ s = 6 ∨ s = 7 ∨ s = 8 := by omega
  rcases hcase with rfl | rfl | rfl | rfl | rfl | rfl
  · rw [if_pos rfl, if_pos rfl, e2, u_X9_houseClause]
    have r1 := x9_fig (F := F) hF hB hT hx h (by decide) (lo := 0) (hi := 19) (by omega) (by omega) (v := nI x + nI 1) (by rw [nI_add]; rfl)
    by_cases e : (tNm (kp B) (vp B) 0 19 i []).1 = 0
    · obtain ⟨S1, x1, y1⟩ := r1.1 e
      rw [x1, bd_s, if_pos rfl, tB_0 e]
      rw [(tNm_0 e).2.2] at y1 ⊢
      have r2 := x9_wrd (F := F) hF hB hT hx y1 (by show 1 < 3; omega) (hi := 9999) (w := 3) (by omega) (by omega) (c := f_X9_w5 S1 (nI 112) (nI 117) (nI 114) (nI 115) (nI 101)) cw_purse (v := nI x + nI 2) (by rw [nI_add]; rfl)
      dsimp only at r2 ⊢
      have r2 : RNr B L Sb x (f_X9_worded F S1 375 (f_X9_w5 S1 (nI 112) (nI 117) (nI 114) (nI 115) (nI 101)) (nI x + nI 2) (nI 9999)) (tB (tEx (kp B) 19 (i + 1) ([] ++ [vp B i])) (tNm (kp B) (vp B) 0 9999)) := r2
      have rb : (tB (tEx (kp B) 19 (i + 1) ([] ++ [vp B i])) (tNm (kp B) (vp B) 0 9999)).1 ≤ 6 := by
        unfold tB tEx tNm
        repeat' split
        all_goals first | exact Nat.zero_le _ | (show 1 ≤ 6; omega) | (show 2 ≤ 6; omega)
      have ln : (tB (tEx (kp B) 19 (i + 1) ([] ++ [vp B i])) (tNm (kp B) (vp B) 0 9999)).1 = 0 → (tB (tEx (kp B) 19 (i + 1) ([] ++ [vp B i])) (tNm (kp B) (vp B) 0 9999)).2.2.length = 2 := fun q => by
        obtain ⟨q1, q2⟩ := tB_z q
        rw [tB_0 q1, (tNm_0 q2).2.2, (tEx_0 q1).2]
        rfl
      generalize tB (tEx (kp B) 19 (i + 1) ([] ++ [vp B i])) (tNm (kp B) (vp B) 0 9999) = r at *
      by_cases e3 : r.1 = 0
      · obtain ⟨S2, x2, y2⟩ := r2.1 e3
        rw [x2, bd_s, u_X9_houseClause_39, if_pos rfl, x9_fri hB (hT.fr (y2.2.2.2 _ _ (by omega) (by omega)) (fun k => y2.2.2.2 _ _ (by omega) (by omega))) y2.2.1.1 y2.1, bd_s, tB_0 e3]
        show RNr B L Sb x (if decide (kp B r.2.1 = 20) = true then _ else _) _
        unfold tEx
        by_cases q : kp B r.2.1 = 20
        · rw [decide_eq_true q, if_pos rfl, if_pos q, tB_i]
          obtain ⟨S3, x3, y3⟩ := y2.nx (F := F) hF hB hT (by omega)
          rw [x3, bd_s, e2]
          exact x9_fig (F := F) hF hB hT hx y3 (by have := ln e3; omega) (lo := 0) (hi := 99) (by omega) (by omega) (by rw [nI_add, ln e3])
        · rw [decide_eq_false q, if_neg Bool.false_ne_true, if_neg q, tB_n (r := (1, _, _)) (by show ¬ 1 = 0; omega)]
          exact y2.bad (by decide)
      · obtain ⟨S2, x2, y2⟩ := r2.2 e3
        rw [x2, bd_s, u_X9_houseClause_39, if_neg (show ¬ nI r.1 = nI 0 from nI_ne0 (by omega) (by omega)), tB_n (r := r) e3, tB_n e3]
        exact ⟨fun z => absurd z e3, fun _ => ⟨S2, rfl, y2⟩⟩
    · obtain ⟨S1, x1, y1⟩ := r1.2 e
      have b6 : (tNm (kp B) (vp B) 0 19 i []).1 ≤ 6 := by
        unfold tNm
        split
        · split
          · exact Nat.zero_le _
          · show 2 ≤ 6; omega
        · show 1 ≤ 6; omega
      rw [tB_n (r := tNm (kp B) (vp B) 0 19 i []) e, tB_n (r := tNm (kp B) (vp B) 0 19 i []) e, tB_n (r := tNm (kp B) (vp B) 0 19 i []) e, tB_n e, x1, bd_s, if_neg (show ¬ nI (tNm (kp B) (vp B) 0 19 i []).1 = nI 0 from nI_ne0 (by omega) (by omega)), u_X9_houseClause_39, if_neg (show ¬ nI (tNm (kp B) (vp B) 0 19 i []).1 = nI 0 from nI_ne0 (by omega) (by omega))]
      exact ⟨fun z => absurd z e, fun _ => ⟨S1, rfl, y1⟩⟩
  · rw [if_neg (by decide), if_pos rfl, if_neg (by decide), if_neg (by decide), if_neg (by decide), if_neg (by decide)]
    exact one 0 6 (by omega) (by omega)
  · rw [if_neg (by decide), if_neg (by decide), if_pos rfl, if_neg (by decide), if_pos rfl]
    exact two 6 15 (fun S => f_X9_w2 S (nI 116) (nI 111)) (by omega) (by omega) (fun S => cw_to)
  · rw [if_neg (by decide), if_neg (by decide), if_neg (by decide), if_pos rfl, if_neg (by decide), if_neg (by decide), if_neg (by decide), if_neg (by decide)]
    exact one 0 6 (by omega) (by omega)
  · rw [if_neg (by decide), if_neg (by decide), if_neg (by decide), if_neg (by decide), if_pos rfl, if_neg (by decide), if_neg (by decide), if_pos rfl]
    exact two 19 16 (fun S => f_X9_w2 S (nI 111) (nI 102)) (by omega) (by omega) (fun S => cw_of)
  · rw [if_neg (by decide), if_neg (by decide), if_neg (by decide), if_neg (by decide), if_neg (by decide), if_pos rfl, if_neg (by decide), if_neg (by decide), if_pos rfl]
    exact one 1 60 (by omega) (by omega)
end
