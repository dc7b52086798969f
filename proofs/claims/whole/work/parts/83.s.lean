/-! ===== knock, of, day ===== -/
/-- the class's rule stands -/
def WX (S : mS) (E : Nat → Tw) (r n : Nat) : Prop := S.1 40 4 = nI n ∧ S.1 40 5 = rul r ∧ TX S E n ∧ r ≤ n ∧ n ≤ 4
theorem CW.wx {S : mS} {T : Tw} {P : Nat → Tw} {N : Tw} {E : Nat → Tw} (hC : CW S 40 T P N) (hV : WV T P N) (hT : TX S E (N 0 2)) : WX S E (N 0 5) (N 0 2) := ⟨hC.2.2.2.1.2.2.1, hC.2.2.2.1.2.2.2.1, hT, hV.2.2.1.2.2.2.1, hV.2.2.1.2.2.1⟩
theorem WX.fr {S S' : mS} {E : Nat → Tw} {r n : Nat} (h : WX S E r n) (e : ∀ u k, u ≤ 36 ∨ u = 40 ∨ u = 378 → S'.1 u k = S.1 u k) : WX S' E r n := ⟨(e _ _ (by omega)).trans h.1, (e _ _ (by omega)).trans h.2.1, h.2.2.1.fr h.2.2.2.2 (fun u k c => e u k (by omega)), h.2.2.2⟩
theorem WX.ft {S S' : mS} {E : Nat → Tw} {r n : Nat} (h : WX S E r n) (f : Ft S S') : WX S' E r n := h.fr (fun u k c => f u k (by omega) (by omega))
theorem WX.law {S S' : mS} {E : Nat → Tw} {r n : Nat} (h : WX S E r n) (f : Flaw S S') : WX S' E r n := h.fr (fun u k c => f u k (by omega))
theorem x8_rule {F : Nat} {S : mS} {E : Nat → Tw} {r n : Nat} (h : WX S E r n) : f_X8_rule F S 0 = some (tc r) := by
  obtain ⟨h1, h2, -, h3, h4⟩ := h
  rw [u_X8_rule, u_X8_isText, h1, h2, win_tld _ (by omega)]
  unfold tc
  by_cases q : r = 0
  · subst q
    rw [if_pos rfl, rul_0, tld_m1]; rfl
  · obtain ⟨i, rfl⟩ : ∃ i, r = i + 1 := ⟨r - 1, by omega⟩
    rw [rul_s, tld_n (by omega) (by omega), decide_eq_true (by omega), if_pos rfl, if_neg (nI_ge (show i < 4 by omega) (by omega)), if_pos rfl, inb_n (by omega) (by omega), ck_t, nI_clamp (by omega), if_neg (show ¬ i + 1 = 0 by omega), Nat.add_sub_cancel]
theorem RW.rl {S : mS} {T : Tw} {P : Nat → Tw} {N : Tw} {E : Nat → Tw} (hR : RW S 376 T P N) (hV : WV T P N) (hT : TX S E (N 0 2)) : RLw S (N 0 5) (tx E (N 0 5)) := RLw.of hT hV.2.2.1.2.2.2.1 hV.2.2.1.2.2.1 hR.2.2.1.2.1
section
variable {F : Nat} {S : mS} {T : Tw} {E : Nat → Tw} {r n h : Nat}
theorem x8_kn (hF : 1000 < F) (hC : CT S 41 T) (hW : Wf T) (hX : WX S E r n) (hh : h < T 0 0) : ∃ S', f_X8_knockAt F S 0 (nI h) = some (S', nI (knr T h)) ∧ CT S' 41 (knT (tx E r) T h) ∧ Ft S S' := by
  have w0 := hW.1
  have w2 := hW.2.2.1
  rw [u_X8_knockAt, x6_date hC hW, x6_isShutn hC hW hh (by omega), bd_s]
  unfold knT knr
  cases q : (T 1 h).testBit (T 0 2 % 20)
  · obtain ⟨S1, u1, c1, f1⟩ := x6_wk (F := F) (s := 0) hC hW hh (by omega)
    have hW1 := wk_Wf hW hh (s := 0) (by omega)
    have e0 : wkT T h 0 0 0 = T 0 0 := wk_o (by decide) (by decide)
    have e2 : wkT T h 0 0 2 = T 0 2 := wk_o (by decide) (by decide)
    have e3 : wkT T h 0 3 h = T 3 h := wk_o (by decide) (by omega)
    obtain ⟨S2, u2, lk, f2⟩ := x3_look (F := F) (day := T 0 2) (by omega) (by omega) c1 hW1 (by omega)
    have hX2 := (hX.ft f1).law f2
    obtain ⟨cl, ct⟩ := CL.of hX2.2.2.1 hX2.2.2.2.1 hX2.2.2.2.2
    obtain ⟨S3, u3, lk3, f3⟩ := x3_lets (F := F) hF (show 40 ≤ 41 by decide) (c1.law (by decide) f2) hW1 lk (by omega) ct cl (show h < wkT T h 0 0 0 by rw [e0]; exact hh)
    have c3 := (c1.law (by decide) f2).law (by decide) f3
    have y7 : S1.1 41 7 = nI (T 0 2) := by rw [← e2]; exact c1.2.2.1
    have ff : Ft S S3 := f1.trans (fun u k a b => (f3 u k b).trans (f2 u k b))
    rw [show bI false = nI 0 from rfl, u1, bd_s, if_neg (show ¬ false = true by decide), y7, u2, bd_s, x8_rule hX2, bd_s, u3, bd_s]
    cases q2 : lts (tx E r) (wkT T h 0) (T 0 2) h
    · exact ⟨S3, rfl, c3, ff⟩
    · have b := (x6_befr (F := F) c3 hW1 (show h < wkT T h 0 0 0 by rw [e0]; exact hh)).2
      rw [e3] at b
      exact ⟨_, by rw [if_pos rfl, b, bd_s]; rfl, c3.friends (g := h) (v := min 99 (T 3 h + 1)), ff.trans (ft_sI (by omega))⟩
  · obtain ⟨S1, u1, c1, f1⟩ := x6_wk (F := F) (s := 1) hC hW hh (by omega)
    have hW1 := wk_Wf hW hh (s := 1) (by omega)
    have e0 : wkT T h 1 0 0 = T 0 0 := wk_o (by decide) (by decide)
    have e3 : wkT T h 1 3 h = T 3 h := wk_o (by decide) (by omega)
    have b := (x6_befr (F := F) c1 hW1 (show h < wkT T h 1 0 0 by rw [e0]; exact hh)).1
    rw [e3] at b
    rw [show bI true = nI 1 from rfl, u1, bd_s, if_pos rfl, b, bd_s]
    exact ⟨_, rfl, c1.friends (g := h) (v := T 3 h - 1), f1.trans (ft_sI (by omega))⟩
theorem x9_k50 {v2 : Int32} (hR : RT S 376 T) (hW : Wf T) (hh : h < T 0 0) : lX9_knockNow_50 F 375 (nI h) S v2 (-1) = some (sI S 376 (12 + 8 * h + 2) (nI (T 3 h - 1)), v2) ∧ lX9_knockNow_50 F 375 (nI h) S v2 (nI 1) = some (sI S 376 (12 + 8 * h + 2) (nI (min 99 (T 3 h + 1))), v2) ∧ lX9_knockNow_50 F 375 (nI h) S v2 (nI 0) = some (sI S 376 (12 + 8 * h + 2) (nI (T 3 h)), v2) := by
  have w0 := hW.1
  have s3 := hW.2.2.2.2.2.1 h hh
  refine ⟨?_, ?_, ?_⟩
  · rw [u_X9_knockNow_50, x9_friends hR hW hh, bd_s, show (-1 : Int32) = iZ (-1) from by decide, iZ_addn (by omega) ⟨by decide, by decide⟩, cutz _ (by omega) (by omega) (by omega), x9_put _ _ (by omega) (by omega), bd_s]
    refine congrArg (fun z => some (sI S 376 (12 + 8 * h + 2) (nI z), v2)) ?_
    by_cases q : (T 3 h : Int) + -1 < 0
    · rw [if_pos q]; omega
    · rw [if_neg q, if_neg (by omega)]; omega
  · rw [u_X9_knockNow_50, x9_friends hR hW hh, bd_s, nI_add, cut_n _ (by omega) (by omega), x9_put _ _ (by omega) (by omega), bd_s]
  · rw [u_X9_knockNow_50, x9_friends hR hW hh, bd_s, nI_add, cut_n _ (by omega) (by omega), x9_put _ _ (by omega) (by omega), bd_s, show T 3 h + 0 = T 3 h from rfl, Nat.min_eq_right (by omega)]
theorem x9_kn {Et : Tw} (hF : 1000 < F) (hR : RT S 376 T) (hW : Wf T) (hL : RLw S r Et) (hh : h < T 0 0) : ∃ S', f_X9_knockNow F S 375 (nI h) = some (S', nI (knr T h)) ∧ RT S' 376 (knT Et T h) ∧ Fq S S' := by
  have w0 := hW.1
  have s := hW.2.2.2.2.2.1 h hh
  rw [u_X9_knockNow, x9_shut hR hW hh, bd_s, x9_date hR hW, bd_s, x9_has S (by omega) (by omega)]
  unfold knT knr
  cases q : (T 1 h).testBit (T 0 2 % 20)
  · obtain ⟨S1, u1, c1, f1⟩ := x9_wk (F := F) (s := 0) (by omega) hR hW hh (by omega)
    have hW1 := wk_Wf hW hh (s := 0) (by omega)
    have e0 : wkT T h 0 0 0 = T 0 0 := wk_o (by decide) (by decide)
    have e2 : wkT T h 0 0 2 = T 0 2 := wk_o (by decide) (by decide)
    have e3 : wkT T h 0 3 h = T 3 h := wk_o (by decide) (by omega)
    have hh1 : h < wkT T h 0 0 0 := by rw [e0]; exact hh
    have hL1 : RLw S1 r Et := hL.fr (fun u k c => by
      rcases c with c | c
      · rw [c.1, c.2]; exact f1.2 2 (by omega)
      · rw [c]; exact f1.1 _ _ (by omega))
    obtain ⟨S2, u2, f2⟩ := x9_lets (F := F) hF c1 hW1 hL1 hh1
    rw [e2] at u2
    have c2 : RT S2 376 (wkT T h 0) := c1.fr (fun k => f2 _ _ (by decide) (by decide))
    obtain ⟨-, b1, b0⟩ := x9_k50 (F := F) (v2 := nI 0) c2 hW1 hh1
    rw [e3] at b1 b0
    rw [if_neg (show ¬ false = true by decide), u_X9_knockNow_21, u1, bd_s, if_neg (by decide), u2, bd_s]
    cases q2 : lts Et (wkT T h 0) (T 0 2) h
    · have c3 := c2.friends (g := h) (v := T 3 h) (by omega)
      rw [← e3, tu_id] at c3
      rw [e3] at c3
      exact ⟨_, b0, c3, f1.trans (f2.fq.trans (fq_sI (by omega)))⟩
    · exact ⟨_, b1, c2.friends (g := h) (v := min 99 (T 3 h + 1)) (by omega), f1.trans (f2.fq.trans (fq_sI (by omega)))⟩
  · obtain ⟨S1, u1, c1, f1⟩ := x9_wk (F := F) (s := 1) (by omega) hR hW hh (by omega)
    have hW1 := wk_Wf hW hh (s := 1) (by omega)
    have e0 : wkT T h 1 0 0 = T 0 0 := wk_o (by decide) (by decide)
    have e3 : wkT T h 1 3 h = T 3 h := wk_o (by decide) (by omega)
    have hh1 : h < wkT T h 1 0 0 := by rw [e0]; exact hh
    have b := (x9_k50 (F := F) (v2 := nI 1) c1 hW1 hh1).1
    rw [e3] at b
    rw [if_pos rfl, u_X9_knockNow_21, u1, bd_s, if_pos rfl]
    exact ⟨_, b, c1.friends (g := h) (v := T 3 h - 1) (by omega), f1.trans (fq_sI (by omega))⟩
end
theorem sim_knock {F : Nat} (hF : 3000 < F) {E : Nat → Tw} {T : Tw} {P : Nat → Tw} {N : Tw} (hV : WV T P N) (a : Int32) : Sim (fun S => f_X8_knock F S 0 a) (fun S => f_X9_knock F S 375 a) E T P N (fun _ _ _ r => r = -1 ∨ ∃ n, n < 2 ∧ r = nI n) := by
  have hW := hV.1
  rcases lvs_c hW a with q | ⟨h, hh, rfl, q, -⟩
  · refine Sim.same hV (-1) (fun S hS => ?_) (fun S hS => ?_) (Or.inl rfl)
    · rw [u_X8_knock, x6_lives hS.1 hW, q]; rfl
    · rw [u_X9_knock, x9_isHere hS.1 hW, q]; rfl
  · have hk := kp_WV hV
    have kw := kn_Wf (tx E (N 0 5)) hW hh
    have e5 : kpN N 0 5 = N 0 5 := kpN_e (by omega)
    have e2 : kpN N 0 2 = N 0 2 := kpN_e (by omega)
    refine Sim.kept (g8 := fun q1 => bd (f_X8_knockAt F q1 0 (nI h)) fun q2 => some (q2.1, q2.2)) (g9 := fun q2 => bd (f_X9_knockNow F q2 375 (nI h)) fun q3 => some (q3.1, q3.2)) (T' := knT (tx E (N 0 5)) T h) (r := nI (knr T h)) hF hV (fun S hS => ?_) (fun S hS => ?_) (fun S hS hT => ?_) (fun S hS hT => ?_) kw.1 kw.2 (Or.inr ⟨knr T h, by unfold knr; split <;> omega, rfl⟩)
    · show f_X8_knock F S 0 (nI h) = _
      rw [u_X8_knock, x6_lives hS.1 hW, q, if_pos rfl]
    · show f_X9_knock F S 375 (nI h) = _
      rw [u_X9_knock, x9_isHere hS.1 hW, q, bd_s, if_pos rfl]
    · have hX := hS.wx hk (by rw [e2]; exact hT)
      rw [e5] at hX
      obtain ⟨S', u, c, f⟩ := x8_kn (F := F) (by omega) hS.1 hW hX hh
      exact ⟨S', by show bd _ _ = _; rw [u, bd_s], c, f⟩
    · have hX := hS.rl hk (by rw [e2]; exact hT)
      rw [e5] at hX
      obtain ⟨S', u, c, f⟩ := x9_kn (F := F) (by omega) hS.1 hW hX hh
      exact ⟨S', by show bd _ _ = _; rw [u, bd_s], c, f⟩
theorem st_knock : ∀ S, Inv S → ∀ a1, Step μX8_knock μX9_knock Inv S [.int a1] := by
  intro S hI a
  obtain ⟨T, P, N, T1, P1, N1, E, hI⟩ := hI
  obtain ⟨F, hF⟩ := big_F
  obtain ⟨S1, S2, r, h1, h2, h3⟩ := (sim_knock (F := F) (by omega) hI.2.2.1 a).run hI
  exact stepW (S1 := S1) (S2 := S2) (r := r) (c_X8_knock k_0 h1) (c_X9_knock k_375 h2) h3 (by decide) (by decide)
theorem st_of : ∀ S, Inv S → ∀ a1 a2, Step μX8_of μX9_of Inv S [.int a1, .int a2] := by
  intro S hI a b
  have hI' := hI
  obtain ⟨T, P, N, T1, P1, N1, E, hI⟩ := hI
  have hCW := hI.1
  have hRW := hI.2.1
  have hWV := hI.2.2.1
  have hW := hWV.1
  have hC := hCW.1
  have hR := hRW.1
  obtain ⟨F, hF⟩ := big_F
  have w0 := hW.1
  have w2 := hW.2.2.1
  have rd : ∀ r, f_X8_of F S 0 a b = some (S, r) → f_X9_of F S 375 a b = some (S, r) → Step μX8_of μX9_of Inv S [.int a, .int b] := fun r h1 h2 => stepR hI' (c_X8_of k_0 h1) (c_X9_of k_375 h2) (by decide) (by decide)
  rcases tld_c a (n := T 0 0) (by omega) with z | ⟨h, hh, rfl, z⟩
  · refine rd (-1) ?_ ?_
    · rw [u_X8_of, x6_told hC hW, z]; rfl
    · rw [u_X9_of, x9_isHouse hR hW, z]; rfl
  have s := hW.2.2.2.2.2.1 h hh
  have u8 := u_X8_of (F := F) (S := S) (a1 := nI h) (a2 := b)
  rw [x6_told hC hW, z, if_pos rfl] at u8
  by_cases b0 : b = nI 0
  · refine rd (nI (T 1 h)) ?_ ?_
    · rw [u8, if_pos b0, inb_n (n := h) (by omega) (by omega), ck_t, nI_clamp (by omega)]
      exact congrArg (fun z => some (S, z)) (hC.2.2.2.2.2.1 h hh)
    · rw [u_X9_of, x9_isHouse hR hW, z, bd_s, if_pos (show true = true from rfl), b0, if_neg (by decide), if_neg (by decide), if_neg (by decide), if_neg (by decide), if_neg (by decide), x9_isIn, win_n (by omega) (by omega) (by omega), if_pos (by decide), x9_shut hR hW hh, bd_s]
  by_cases b1 : b = nI 1
  · refine rd (nI (T 2 h)) ?_ ?_
    · rw [u8, if_neg b0, if_pos b1, inb_n (n := h) (by omega) (by omega), ck_t, nI_clamp (by omega)]
      exact congrArg (fun z => some (S, z)) (hC.2.2.2.2.2.2.1 h hh)
    · rw [u_X9_of, x9_isHouse hR hW, z, bd_s, if_pos (show true = true from rfl), b1, if_neg (by decide), if_neg (by decide), if_neg (by decide), if_neg (by decide), if_neg (by decide), x9_isIn, win_n (by omega) (by omega) (by omega), if_pos (by decide), x9_purse hR hW hh, bd_s]
  by_cases b2 : b = nI 2
  · refine rd (nI (T 3 h)) ?_ ?_
    · rw [u8, if_neg b0, if_neg b1, if_pos b2, inb_n (n := h) (by omega) (by omega), ck_t, nI_clamp (by omega)]
      exact congrArg (fun z => some (S, z)) (hC.2.2.2.2.2.2.2.1 h hh)
    · rw [u_X9_of, x9_isHouse hR hW, z, bd_s, if_pos (show true = true from rfl), b2, if_neg (by decide), if_neg (by decide), if_neg (by decide), if_neg (by decide), if_neg (by decide), x9_isIn, win_n (by omega) (by omega) (by omega), if_pos (by decide), x9_friends hR hW hh, bd_s]
  by_cases b3 : b = nI 3
  · refine rd (nI (if (T 0 1).testBit h then 1 else 0)) ?_ ?_
    · rw [u8, if_neg b0, if_neg b1, if_neg b2, if_pos b3, x6_isGone hC hW (by omega)]
      cases (T 0 1).testBit h <;> rfl
    · rw [u_X9_of, x9_isHouse hR hW, z, bd_s, if_pos (show true = true from rfl), b3, if_neg (by decide), if_neg (by decide), if_neg (by decide), if_neg (by decide), if_neg (by decide), x9_isIn, win_n (by omega) (by omega) (by omega), if_pos (by decide), x9_gone hR hW hh, bd_s]
  by_cases b4 : b = nI 4
  · refine rd (nI (if (T 1 h).testBit (T 0 2 % 20) then 1 else 0)) ?_ ?_
    · rw [u8, if_neg b0, if_neg b1, if_neg b2, if_neg b3, if_pos b4, x6_date hC hW, x6_isShutn hC hW hh (by omega), bd_s]
      cases (T 1 h).testBit (T 0 2 % 20) <;> rfl
    · rw [u_X9_of, x9_isHouse hR hW, z, bd_s, if_pos (show true = true from rfl), if_pos b4, x9_shut hR hW hh, bd_s, x9_date hR hW, bd_s, x9_has S (by omega) (by omega)]
      cases (T 1 h).testBit (T 0 2 % 20) <;> rfl
  obtain ⟨S1, u1, lk, f1⟩ := x3_look (F := F) (day := T 0 2) (by omega) (show 40 ≤ 41 by decide) hC hW (by omega)
  have hX := (hCW.wx hWV hI.tx).law f1
  obtain ⟨cl, ct⟩ := CL.of hX.2.2.1 hX.2.2.2.1 hX.2.2.2.2
  have c1 := hC.law (t := 41) (by decide) f1
  have hRL := hRW.rl hWV hI.tx
  have cor8 : ∀ S', Flaw S S' → ∀ u k, cor u k → S'.1 u k = S.1 u k := fun S' f u k c => f u k (by unfold cor at c; omega)
  have cor9 : ∀ S1 S', FL S1 S' → ∀ u k, cor u k → S'.1 u k = S1.1 u k := fun S1 S' f u k c => f u k (by unfold cor at c; omega) (by unfold cor at c; omega)
  have ul := u8
  have c7 : S.1 41 7 = nI (T 0 2) := hC.2.2.1
  rw [if_neg b0, if_neg b1, if_neg b2, if_neg b3, if_neg b4, u_X8_underTheLaw, c7, u1, bd_s] at ul
  by_cases b5 : b = nI 5
  · obtain ⟨S2, u2, -, f2⟩ := x3_earn (F := F) (by omega) (show 40 ≤ 41 by decide) c1 hW lk (by omega) ct cl hh
    have ff := f1.trans f2
    have hR2 : RT S2 376 T := hR.fr (fun k => ff _ _ (by omega))
    obtain ⟨S3, u3, f3⟩ := x9_earns (F := F) (day := T 0 2) (by omega) hR2 hW (hRL.fr (fun u k c => ff _ _ (by omega))) (by omega) hh
    have h1 : f_X8_of F S 0 (nI h) b = some (S2, nI (ern (tx E (N 0 5)) T (T 0 2) h)) := by
      rw [ul, if_pos b5, x8_rule hX, bd_s, u2, bd_s]; rfl
    have h2 : f_X9_of F S2 375 (nI h) b = some (S3, nI (ern (tx E (N 0 5)) T (T 0 2) h)) := by
      rw [u_X9_of, x9_isHouse hR2 hW, z, bd_s, if_pos (show true = true from rfl), if_neg b4, if_pos b5, inb_n (n := 8) (by omega) (by omega), ck_t, nI_clamp (n := 8) (by omega), hR2.2.1, u3, bd_s]
    exact stepS (S1 := S2) (S2 := S3) (r := nI (ern (tx E (N 0 5)) T (T 0 2) h)) hI' (c_X8_of k_0 h1) (c_X9_of k_375 h2) (cor8 S2 ff) (cor9 S2 S3 f3) (by decide) (by decide)
  by_cases b6 : b = nI 6
  · obtain ⟨S2, u2, -, f2⟩ := x3_lost (F := F) (by omega) (show 40 ≤ 41 by decide) c1 hW lk (by omega) ct cl hh
    have ff := f1.trans f2
    have hR2 : RT S2 376 T := hR.fr (fun k => ff _ _ (by omega))
    obtain ⟨S3, u3, f3⟩ := x9_loses (F := F) (by omega) hR2 hW (hRL.fr (fun u k c => ff _ _ (by omega))) hh
    have h1 : f_X8_of F S 0 (nI h) b = some (S2, nI (los (tx E (N 0 5)) T (T 0 2) h)) := by
      rw [ul, if_neg b5, if_pos b6, x8_rule hX, bd_s, u2, bd_s]; rfl
    have h2 : f_X9_of F S2 375 (nI h) b = some (S3, nI (los (tx E (N 0 5)) T (T 0 2) h)) := by
      rw [u_X9_of, x9_isHouse hR2 hW, z, bd_s, if_pos (show true = true from rfl), if_neg b4, if_neg b5, if_pos b6, u3, bd_s]
    exact stepS (S1 := S2) (S2 := S3) (r := nI (los (tx E (N 0 5)) T (T 0 2) h)) hI' (c_X8_of k_0 h1) (c_X9_of k_375 h2) (cor8 S2 ff) (cor9 S2 S3 f3) (by decide) (by decide)
  by_cases b7 : b = nI 7
  · obtain ⟨S2, u2, -, f2⟩ := x3_lets (F := F) (by omega) (show 40 ≤ 41 by decide) c1 hW lk (by omega) ct cl hh
    have ff := f1.trans f2
    have hR2 : RT S2 376 T := hR.fr (fun k => ff _ _ (by omega))
    obtain ⟨S3, u3, f3⟩ := x9_lets (F := F) (by omega) hR2 hW (hRL.fr (fun u k c => ff _ _ (by omega))) hh
    have h1 : f_X8_of F S 0 (nI h) b = some (S2, bI (lts (tx E (N 0 5)) T (T 0 2) h)) := by
      rw [ul, if_neg b5, if_neg b6, if_pos b7, x8_rule hX, bd_s, u2, bd_s]
      cases lts (tx E (N 0 5)) T (T 0 2) h <;> rfl
    have h2 : f_X9_of F S2 375 (nI h) b = some (S3, bI (lts (tx E (N 0 5)) T (T 0 2) h)) := by
      rw [u_X9_of, x9_isHouse hR2 hW, z, bd_s, if_pos (show true = true from rfl), if_neg b4, if_neg b5, if_neg b6, if_pos b7, u3, bd_s]
      cases lts (tx E (N 0 5)) T (T 0 2) h <;> rfl
    exact stepS (S1 := S2) (S2 := S3) (r := bI (lts (tx E (N 0 5)) T (T 0 2) h)) hI' (c_X8_of k_0 h1) (c_X9_of k_375 h2) (cor8 S2 ff) (cor9 S2 S3 f3) (by decide) (by decide)
  have hR1 : RT S1 376 T := hR.fr (fun k => f1 _ _ (by omega))
  by_cases b8 : b = nI 8
  · have h1 : f_X8_of F S 0 (nI h) b = some (S1, nI (bes T (T 0 2 % 20) h)) := by
      rw [ul, if_neg b5, if_neg b6, if_neg b7, if_pos b8, x3_bes lk hW (by omega)]; rfl
    have h2 : f_X9_of F S1 375 (nI h) b = some (S1, nI (bes T (T 0 2 % 20) h)) := by
      rw [u_X9_of, x9_isHouse hR1 hW, z, bd_s, if_pos (show true = true from rfl), if_neg b4, if_neg b5, if_neg b6, if_neg b7, if_pos b8, x9_date hR1 hW, bd_s, x9_bes hR1 hW hh (by omega), bd_s]
    exact stepS (S1 := S1) (S2 := S1) (r := nI (bes T (T 0 2 % 20) h)) hI' (c_X8_of k_0 h1) (c_X9_of k_375 h2) (cor8 S1 f1) (fun _ _ _ => rfl) (by decide) (by decide)
  · have h1 : f_X8_of F S 0 (nI h) b = some (S1, -1) := by
      rw [ul, if_neg b5, if_neg b6, if_neg b7, if_neg b8]; rfl
    have wn : f_X8_isWithin S1 b (nI 0) (nI 3) = false := by
      rcases win_c (S := S1) b 0 3 (by omega) (by omega) with y | ⟨j, -, hj, e, -⟩
      · exact y
      · rcases (show j = 0 ∨ j = 1 ∨ j = 2 ∨ j = 3 by omega) with rfl | rfl | rfl | rfl
        · exact absurd e b0
        · exact absurd e b1
        · exact absurd e b2
        · exact absurd e b3
    have h2 : f_X9_of F S1 375 (nI h) b = some (S1, -1) := by
      rw [u_X9_of, x9_isHouse hR1 hW, z, bd_s, if_pos (show true = true from rfl), if_neg b4, if_neg b5, if_neg b6, if_neg b7, if_neg b8, x9_isIn, wn]; rfl
    exact stepS (S1 := S1) (S2 := S1) (r := -1) hI' (c_X8_of k_0 h1) (c_X9_of k_375 h2) (cor8 S1 f1) (fun _ _ _ => rfl) (by decide) (by decide)
