/-! ===== foretold, poorest ===== -/
/-- days ahead, at most m -/
def gT (Et : Tw) : Nat → Tw → Tw
  | 0, T => T
  | m + 1, T => if T 0 2 < 9999 then gT Et m (psT Et T) else T
theorem gT_y {Et T : Tw} {m : Nat} (h : T 0 2 < 9999) : gT Et (m + 1) T = gT Et m (psT Et T) := if_pos h
theorem gT_n {Et T : Tw} {m : Nat} (h : ¬ T 0 2 < 9999) : gT Et (m + 1) T = T := if_neg h
theorem gT_n' {Et T : Tw} {m : Nat} (h : ¬ T 0 2 < 9999) : gT Et m T = T := by
  cases m with
  | zero => rfl
  | succ m => exact gT_n h
theorem gT_k (Et : Tw) (m : Nat) : ∀ {T : Tw}, Wf T → Wf (gT Et m T) ∧ gT Et m T 0 0 = T 0 0 ∧ gT Et m T 0 1 = T 0 1 := by
  induction m with
  | zero => exact fun {T} hW => ⟨hW, rfl, rfl⟩
  | succ m ih =>
    intro T hW
    by_cases h : T 0 2 < 9999
    · rw [gT_y h]
      have p := psT_k Et hW h
      have q := ih p.1
      exact ⟨q.1, q.2.1.trans p.2.1, q.2.2.trans p.2.2.2.1⟩
    · rw [gT_n h]; exact ⟨hW, rfl, rfl⟩
section
variable {F : Nat} {Et : Tw}
theorem x8_try (hF : 3000 < F) {q n : Nat} (hq : q ≤ 33) (hn : n ≤ 60) (m : Nat) : ∀ (i k : Nat) {S : mS} {T : Tw}, i + m = n → m < k → CT S 364 T → Wf T → CL S q Et → ∃ S', lX8_tryDays_16 F 0 (nI n) q k S (nI i) = some S' ∧ CT S' 364 (gT Et m T) ∧ FtT 364 S S' := by
  induction m with
  | zero =>
    intro i k S T hi hk hC hW hE
    obtain ⟨k, rfl⟩ : ∃ k', k = k' + 1 := ⟨k - 1, by omega⟩
    exact ⟨S, by rw [u_X8_tryDays_16, if_pos (nI_le (by omega) (by omega))], hC, FtT.rfl' _ S⟩
  | succ m ih =>
    intro i k S T hi hk hC hW hE
    obtain ⟨k, rfl⟩ : ∃ k', k = k' + 1 := ⟨k - 1, by omega⟩
    have w2 := hW.2.2.1
    by_cases h : T 0 2 < 9999
    · obtain ⟨S1, u1, c1, f1⟩ := x3_day (F := F) (by omega) (show 40 ≤ 364 by decide) hq hC hW hE
      have p := psT_k Et hW h
      obtain ⟨S2, u2, c2, f2⟩ := ih (i + 1) k (T := psT Et T) (by omega) (by omega) c1 p.1 (hE.fr hq (fun u k hu => f1 u k (by omega) (by omega)))
      refine ⟨S2, ?_, by rw [gT_y h]; exact c2, f1.trans f2⟩
      rw [u_X8_tryDays_16, if_neg (nI_ge (by omega) (by omega)), hC.2.2.1, if_neg (nI_ge h (by omega)), u1, bd_s, nI_add, u2]
    · exact ⟨S, by rw [u_X8_tryDays_16, if_neg (nI_ge (by omega) (by omega)), hC.2.2.1, if_pos (nI_le (by omega) (by omega))], by rw [gT_n h]; exact hC, FtT.rfl' _ S⟩
theorem x8_tryD (hF : 3000 < F) {q n : Nat} (hq : q ≤ 33) (hn : n ≤ 60) {S : mS} {T : Tw} (hC : CT S 41 T) (hW : Wf T) (hE : CL S q Et) : ∃ S', f_X8_tryDays F S 0 (nI n) q = some S' ∧ CT S' 364 (gT Et n T) ∧ FtT 364 S S' := by
  have w0 := hW.1
  have c5 : S.1 41 5 = nI (T 0 0) := hC.1
  have c1 := cp_CT hW hC (t := 364) (by omega)
  have f1 : FtT 364 S (cpS S 364 41 (T 0 0)) := fun u k a b => cp_u _ _ a
  obtain ⟨S2, u2, c2, f2⟩ := x8_try (F := F) (Et := Et) hF hq hn n 0 F (by omega) (by omega) c1 hW (hE.fr hq (fun u k hu => f1 u k (by omega) (by omega)))
  exact ⟨S2, by rw [u_X8_tryDays, x6_cp w0 c5 (by omega), bd_s, u2], c2, f1.trans f2⟩
theorem x9_goOn (hF : 3000 < F) {r n : Nat} (hn : n ≤ 60) (m : Nat) : ∀ (i k : Nat) {S : mS} {T : Tw}, i + m = n → m < k → RT S 376 T → Wf T → RLw S r Et → ∃ S', lX9_goOn_2 F 375 (nI n) k S (nI i) = some S' ∧ RT S' 376 (gT Et m T) ∧ Fp S S' := by
  induction m with
  | zero =>
    intro i k S T hi hk hC hW hE
    obtain ⟨k, rfl⟩ : ∃ k', k = k' + 1 := ⟨k - 1, by omega⟩
    exact ⟨S, by rw [u_X9_goOn_2, if_pos (nI_le (by omega) (by omega))], hC, Fp.rfl' S⟩
  | succ m ih =>
    intro i k S T hi hk hR hW hL
    obtain ⟨k, rfl⟩ : ∃ k', k = k' + 1 := ⟨k - 1, by omega⟩
    have w2 := hW.2.2.1
    by_cases h : T 0 2 < 9999
    · obtain ⟨S1, u1, c1, f1⟩ := x9_pass (F := F) (by omega) hR hW hL
      have p := psT_k Et hW h
      obtain ⟨S2, u2, c2, f2⟩ := ih (i + 1) k (T := psT Et T) (by omega) (by omega) c1 p.1 (hL.fr (fun u k c => f1 u k (by omega) (by omega) (by omega)))
      refine ⟨S2, ?_, by rw [gT_y h]; exact c2, f1.trans f2⟩
      rw [u_X9_goOn_2, if_neg (nI_ge (by omega) (by omega)), inb_n (n := 8) (by omega) (by omega), ck_t, nI_clamp (n := 8) (by omega), hR.2.1, if_neg (nI_ge h (by omega)), u1, bd_s, nI_add, u2]
    · obtain ⟨S2, u2, c2, f2⟩ := ih (i + 1) k (T := T) (by omega) (by omega) hR hW hL
      refine ⟨S2, ?_, by rw [gT_n h, ← gT_n' (Et := Et) (m := m) h]; exact c2, f2⟩
      rw [u_X9_goOn_2, if_neg (nI_ge (by omega) (by omega)), inb_n (n := 8) (by omega) (by omega), ck_t, nI_clamp (n := 8) (by omega), hR.2.1, if_pos (nI_le (by omega) (by omega)), nI_add, u2]
theorem x9_aside (hF : 100 < F) {S : mS} : f_X9_setAside F S 375 = some (sF S 384 (fillg (S.1 384) (S.1 376) 8 (fun k => 8 + k) 60)) := by
  rw [u_X9_setAside]
  have h := up_l (fun k i => lX9_setAside_3 F 375 k (sF S 384 (fillg (S.1 384) (S.1 376) 8 (fun k => 8 + k) i)) (nI (8 + i))) (some (sF S 384 (fillg (S.1 384) (S.1 376) 8 (fun k => 8 + k) 60))) 60 (fun k => ?_) (fun k i hi => ?_) F 0 (by omega) (by omega)
  · rw [fg_0, ← sF_e] at h
    exact h
  · show lX9_setAside_3 F 375 (k + 1) _ _ = _
    rw [u_X9_setAside_3, if_pos (nI_le (by omega) (by omega))]
  · show lX9_setAside_3 F 375 (k + 1) _ _ = lX9_setAside_3 F 375 k _ _
    rw [u_X9_setAside_3, if_neg (nI_ge (by omega) (by omega)), inb_n (n := 8 + i) (by omega) (by omega), inb_n (n := 8 + i) (by omega) (by omega), ck_t, ck_t, nI_clamp (n := 8 + i) (by omega), sF_u (by decide), stp_s, fg_s rfl rfl, nI_add, show 8 + i + 1 = 8 + (i + 1) by omega]
theorem x9_back (hF : 100 < F) {S : mS} : f_X9_putBack F S 375 = some (sF S 376 (fillg (S.1 376) (S.1 384) 8 (fun k => 8 + k) 60)) := by
  rw [u_X9_putBack]
  have h := up_l (fun k i => lX9_putBack_3 F 375 k (sF S 376 (fillg (S.1 376) (S.1 384) 8 (fun k => 8 + k) i)) (nI (8 + i))) (some (sF S 376 (fillg (S.1 376) (S.1 384) 8 (fun k => 8 + k) 60))) 60 (fun k => ?_) (fun k i hi => ?_) F 0 (by omega) (by omega)
  · rw [fg_0, ← sF_e] at h
    exact h
  · show lX9_putBack_3 F 375 (k + 1) _ _ = _
    rw [u_X9_putBack_3, if_pos (nI_le (by omega) (by omega))]
  · show lX9_putBack_3 F 375 (k + 1) _ _ = lX9_putBack_3 F 375 k _ _
    rw [u_X9_putBack_3, if_neg (nI_ge (by omega) (by omega)), inb_n (n := 8 + i) (by omega) (by omega), inb_n (n := 8 + i) (by omega) (by omega), ck_t, ck_t, nI_clamp (n := 8 + i) (by omega), sF_u (by decide), stp_s, fg_s rfl rfl, nI_add, show 8 + i + 1 = 8 + (i + 1) by omega]
/-- aside, ahead, and back: nothing that counts has changed -/
theorem x9_fore (hF : 3000 < F) {r n : Nat} (hn : n ≤ 60) {S : mS} {T : Tw} (hR : RT S 376 T) (hW : Wf T) (hL : RLw S r Et) : ∃ S1 S2 S3, f_X9_setAside F S 375 = some S1 ∧ f_X9_goOn F S1 375 (nI n) = some S2 ∧ RT S2 376 (gT Et n T) ∧ f_X9_putBack F S2 375 = some S3 ∧ ∀ u k, u ≠ 381 → u ≠ 383 → u ≠ 384 → S3.1 u k = S.1 u k := by
  let S1 := sF S 384 (fillg (S.1 384) (S.1 376) 8 (fun k => 8 + k) 60)
  have r1 : RT S1 376 T := hR.fr (fun k => sF_u (by decide))
  obtain ⟨S2, u2, c2, f2⟩ := x9_goOn (F := F) (Et := Et) (r := r) hF hn n 0 F (S := S1) (by omega) (by omega) r1 hW (hL.fr (fun u k c => sF_u (by omega)))
  refine ⟨S1, S2, _, x9_aside (by omega), by rw [u_X9_goOn]; exact u2, c2, x9_back (by omega), fun u k h1 h3 h4 => ?_⟩
  by_cases q : u = 376
  · rw [q, sF_c]
    by_cases z : 8 ≤ k ∧ k < 68
    · rw [fg_in z.1 (by omega), show 8 + (k - 8) = k by omega, f2 _ _ (by decide) (by decide) (by omega)]
      show (sF S 384 _).1 384 k = _
      rw [sF_c, fg_in z.1 (by omega), show 8 + (k - 8) = k by omega]
    · rw [fg_out (by omega), f2 _ _ (by decide) (by decide) (by omega)]
      exact sF_u (by decide)
  · rw [sF_u q, f2 _ _ h1 h3 (by omega)]
    exact sF_u h4
/-- the poorest -/
def poS (T : Tw) : Nat → Nat → Int32 → Int32
  | 0, _, v => v
  | m + 1, i, v => poS T m (i + 1) (if (T 0 1).testBit i = true then v else if v = -1 then nI i else if T 2 v.toNatClampNeg ≤ T 2 i then v else nI i)
theorem x8_poor {a : Int32} (m : Nat) : ∀ (i k : Nat) {S : mS} {T : Tw} {v : Int32}, i + m = T 0 0 → m < k → CT S 364 T → Wf T → (v = -1 ∨ ∃ b, b < T 0 0 ∧ v = nI b) → lX8_poorest_25 F 0 a k S v (nI i) = some (S, poS T m i v) := by
  induction m with
  | zero =>
    intro i k S T v hi hk hC hW hv
    have w0 := hW.1
    obtain ⟨k, rfl⟩ : ∃ k', k = k' + 1 := ⟨k - 1, by omega⟩
    rw [u_X8_poorest_25, hC.1, if_pos (nI_le (by omega) (by omega))]; rfl
  | succ m ih =>
    intro i k S T v hi hk hC hW hv
    have w0 := hW.1
    obtain ⟨k, rfl⟩ : ∃ k', k = k' + 1 := ⟨k - 1, by omega⟩
    have hi' : i < T 0 0 := by omega
    have s := hW.2.2.2.2.2.1 i hi'
    have ci : S.1 366 i = nI (T 2 i) := hC.2.2.2.2.2.2.1 i hi'
    rw [u_X8_poorest_25, hC.1, if_neg (nI_ge hi' (by omega)), x6_livesn hC hW hi', nI_add]
    show _ = some (S, poS T m (i + 1) _)
    cases (T 0 1).testBit i
    · rw [if_pos (show (!false) = true by decide), if_neg (show ¬ false = true by decide)]
      rcases hv with rfl | ⟨b, hb, rfl⟩
      · rw [if_pos rfl, if_pos rfl]
        exact ih (i + 1) k (by omega) (by omega) hC hW (Or.inr ⟨i, hi', rfl⟩)
      · have s2 := hW.2.2.2.2.2.1 b hb
        have cb : S.1 366 b = nI (T 2 b) := hC.2.2.2.2.2.2.1 b hb
        have nm : ¬ nI b = -1 := by rw [n_m1 (by omega)]; exact fun h => h
        rw [if_neg nm, if_neg nm, inb_n (n := i) (by omega) (by omega), inb_n (n := b) (by omega) (by omega), ck_t, ck_t, nI_clamp (n := b) (by omega), nI_clamp (n := i) (by omega), ci, cb]
        by_cases q : T 2 b ≤ T 2 i
        · rw [if_pos (nI_le q (by omega)), if_pos q]
          exact ih (i + 1) k (by omega) (by omega) hC hW (Or.inr ⟨b, hb, rfl⟩)
        · rw [if_neg (nI_ge (by omega) (by omega)), if_neg q]
          exact ih (i + 1) k (by omega) (by omega) hC hW (Or.inr ⟨i, hi', rfl⟩)
    · rw [if_neg (show ¬ (!true) = true by decide), if_pos rfl]
      exact ih (i + 1) k (by omega) (by omega) hC hW hv
theorem x9_poor {a : Int32} {S S3 : mS} {T : Tw} (hR : RT S 376 T) (hW : Wf T) (hb : f_X9_putBack F S 375 = some S3) (m : Nat) : ∀ (i k : Nat) {v : Int32}, i + m = T 0 0 → m < k → (v = -1 ∨ ∃ b, b < T 0 0 ∧ v = nI b) → lX9_poorest_25 F 375 a k S v (nI i) = some (S3, poS T m i v) := by
  have w0 := hW.1
  induction m with
  | zero =>
    intro i k v hi hk hv
    obtain ⟨k, rfl⟩ : ∃ k', k = k' + 1 := ⟨k - 1, by omega⟩
    rw [u_X9_poorest_25, inb_n (n := 0) (by omega) (by omega), ck_t, nI_clamp (n := 0) (by omega), hR.1, if_pos (nI_le (by omega) (by omega)), hb, bd_s]; rfl
  | succ m ih =>
    intro i k v hi hk hv
    obtain ⟨k, rfl⟩ : ∃ k', k = k' + 1 := ⟨k - 1, by omega⟩
    have hi' : i < T 0 0 := by omega
    have s := hW.2.2.2.2.2.1 i hi'
    rw [u_X9_poorest_25, inb_n (n := 0) (by omega) (by omega), ck_t, nI_clamp (n := 0) (by omega), hR.1, if_neg (nI_ge hi' (by omega)), x9_isHeren hR hW hi', bd_s, nI_add]
    show _ = some (S3, poS T m (i + 1) _)
    cases (T 0 1).testBit i
    · rw [if_pos (show (!false) = true by decide), if_neg (show ¬ false = true by decide)]
      rcases hv with rfl | ⟨b, hb, rfl⟩
      · rw [if_pos rfl, if_pos rfl]
        exact ih (i + 1) k (by omega) (by omega) (Or.inr ⟨i, hi', rfl⟩)
      · have s2 := hW.2.2.2.2.2.1 b hb
        have nm : ¬ nI b = -1 := by rw [n_m1 (by omega)]; exact fun h => h
        rw [if_neg nm, if_neg nm, x9_purse hR hW hi', bd_s, x9_purse hR hW hb, bd_s, nI_clamp (n := b) (by omega)]
        by_cases q : T 2 b ≤ T 2 i
        · rw [if_pos (nI_le q (by omega)), if_pos q]
          exact ih (i + 1) k (by omega) (by omega) (Or.inr ⟨b, hb, rfl⟩)
        · rw [if_neg (nI_ge (by omega) (by omega)), if_neg q]
          exact ih (i + 1) k (by omega) (by omega) (Or.inr ⟨i, hi', rfl⟩)
    · rw [if_neg (show ¬ (!true) = true by decide), if_pos rfl]
      exact ih (i + 1) k (by omega) (by omega) hv
end
theorem cor_try {S S1 : mS} (f : FtT 364 S S1) : ∀ u k, cor u k → S1.1 u k = S.1 u k := fun u k c => f u k (by unfold cor at c; omega) (by unfold cor at c; omega)
theorem cor_fore {S S3 : mS} (f : ∀ u k, u ≠ 381 → u ≠ 383 → u ≠ 384 → S3.1 u k = S.1 u k) : ∀ u k, cor u k → S3.1 u k = S.1 u k := fun u k c => f u k (by unfold cor at c; omega) (by unfold cor at c; omega) (by unfold cor at c; omega)
theorem st_foretold : ∀ S, Inv S → ∀ a1 a2, Step μX8_foretold μX9_foretold Inv S [.int a1, .int a2] := by
  intro S hI a b
  have hI' := hI
  obtain ⟨T, P, N, T1, P1, N1, E, hI⟩ := hI
  obtain ⟨F, hF⟩ := big_F
  have hCW := hI.1
  have hRW := hI.2.1
  have hV := hI.2.2.1
  have hW := hV.1
  have w0 := hW.1
  rcases win_c (S := S) a 1 60 (by omega) (by omega) with z | ⟨n, h1, h2, rfl, z⟩
  · have e1 : f_X8_foretold F S 0 a b = some (S, -1) := by rw [u_X8_foretold, z]; rfl
    have e2 : f_X9_foretold F S 375 a b = some (S, -1) := by rw [u_X9_foretold, x9_isIn, z]; rfl
    exact stepR hI' (c_X8_foretold k_0 e1) (c_X9_foretold k_375 e2) (by decide) (by decide)
  rcases tld_c b (n := T 0 0) (by omega) with y | ⟨h, hh, rfl, y⟩
  · have e1 : f_X8_foretold F S 0 (nI n) b = some (S, -1) := by rw [u_X8_foretold, z, if_pos rfl, x6_told hCW.1 hW, y]; rfl
    have e2 : f_X9_foretold F S 375 (nI n) b = some (S, -1) := by rw [u_X9_foretold, x9_isIn, z, if_pos rfl, x9_isHouse hRW.1 hW, y]; rfl
    exact stepR hI' (c_X8_foretold k_0 e1) (c_X9_foretold k_375 e2) (by decide) (by decide)
  have hX := hCW.wx hV hI.tx
  obtain ⟨cl, ct⟩ := CL.of hX.2.2.1 hX.2.2.2.1 hX.2.2.2.2
  obtain ⟨S1, u1, c1, f1⟩ := x8_tryD (F := F) (by omega) ct h2 hCW.1 hW cl
  have gk := gT_k (tx E (N 0 5)) n hW
  have hh2 : h < gT (tx E (N 0 5)) n T 0 0 := by rw [gk.2.1]; exact hh
  have p1 : S1.1 366 h = nI (gT (tx E (N 0 5)) n T 2 h) := c1.2.2.2.2.2.2.1 h hh2
  have hR1 : RT S1 376 T := hRW.1.fr (fun k => f1 _ _ (by omega) (by omega))
  obtain ⟨A1, A2, A3, v1, v2, rr, v3, f3⟩ := x9_fore (F := F) (by omega) h2 hR1 hW ((hRW.rl hV hI.tx).fr (fun u k c => f1 u k (by omega) (by omega)))
  have e1 : f_X8_foretold F S 0 (nI n) (nI h) = some (S1, nI (gT (tx E (N 0 5)) n T 2 h)) := by
    rw [u_X8_foretold, z, if_pos rfl, x6_told hCW.1 hW, y, if_pos rfl, x8_rule hX, bd_s, u1, bd_s, inb_n (n := h) (by omega) (by omega), ck_t, nI_clamp (n := h) (by omega), p1]
  have e2 : f_X9_foretold F S1 375 (nI n) (nI h) = some (A3, nI (gT (tx E (N 0 5)) n T 2 h)) := by
    rw [u_X9_foretold, x9_isIn, show f_X8_isWithin S1 (nI n) (nI 1) (nI 60) = true from z, if_pos rfl, x9_isHouse hR1 hW, y, bd_s, if_pos rfl, v1, bd_s, v2, bd_s, x9_purse rr gk.1 hh2, bd_s, v3, bd_s]
  exact stepS (S1 := S1) (S2 := A3) (r := nI (gT (tx E (N 0 5)) n T 2 h)) hI' (c_X8_foretold k_0 e1) (c_X9_foretold k_375 e2) (cor_try f1) (cor_fore f3) (by decide) (by decide)
theorem st_poorest : ∀ S, Inv S → ∀ a1, Step μX8_poorest μX9_poorest Inv S [.int a1] := by
  intro S hI a
  have hI' := hI
  obtain ⟨T, P, N, T1, P1, N1, E, hI⟩ := hI
  obtain ⟨F, hF⟩ := big_F
  have hCW := hI.1
  have hRW := hI.2.1
  have hV := hI.2.2.1
  have hW := hV.1
  have w0 := hW.1
  rcases win_c (S := S) a 1 60 (by omega) (by omega) with z | ⟨n, h1, h2, rfl, z⟩
  · have e1 : f_X8_poorest F S 0 a = some (S, -1) := by rw [u_X8_poorest, z]; rfl
    have e2 : f_X9_poorest F S 375 a = some (S, -1) := by rw [u_X9_poorest, x9_isIn, z]; rfl
    exact stepR hI' (c_X8_poorest k_0 e1) (c_X9_poorest k_375 e2) (by decide) (by decide)
  have hX := hCW.wx hV hI.tx
  obtain ⟨cl, ct⟩ := CL.of hX.2.2.1 hX.2.2.2.1 hX.2.2.2.2
  obtain ⟨S1, u1, c1, f1⟩ := x8_tryD (F := F) (by omega) ct h2 hCW.1 hW cl
  have gk := gT_k (tx E (N 0 5)) n hW
  have hR1 : RT S1 376 T := hRW.1.fr (fun k => f1 _ _ (by omega) (by omega))
  obtain ⟨A1, A2, A3, v1, v2, rr, v3, f3⟩ := x9_fore (F := F) (by omega) h2 hR1 hW ((hRW.rl hV hI.tx).fr (fun u k c => f1 u k (by omega) (by omega)))
  have g0 := gk.1.1
  have e1 : f_X8_poorest F S 0 (nI n) = some (S1, poS (gT (tx E (N 0 5)) n T) (gT (tx E (N 0 5)) n T 0 0) 0 (-1)) := by
    rw [u_X8_poorest, z, if_pos rfl, x8_rule hX, bd_s, u1, bd_s]
    exact x8_poor _ 0 F (by omega) (by omega) c1 gk.1 (Or.inl rfl)
  have e2 : f_X9_poorest F S1 375 (nI n) = some (A3, poS (gT (tx E (N 0 5)) n T) (gT (tx E (N 0 5)) n T 0 0) 0 (-1)) := by
    rw [u_X9_poorest, x9_isIn, show f_X8_isWithin S1 (nI n) (nI 1) (nI 60) = true from z, if_pos rfl, v1, bd_s, v2, bd_s]
    exact x9_poor rr gk.1 v3 _ 0 F (by omega) (by omega) (Or.inl rfl)
  exact stepS (S1 := S1) (S2 := A3) (r := poS (gT (tx E (N 0 5)) n T) (gT (tx E (N 0 5)) n T 0 0) 0 (-1)) hI' (c_X8_poorest k_0 e1) (c_X9_poorest k_375 e2) (cor_try f1) (cor_fore f3) (by decide) (by decide)
