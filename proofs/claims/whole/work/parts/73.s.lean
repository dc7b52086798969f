/-! ===== forget, hat ===== -/
def nx (x : Nat) : Nat := (x * 359 + 239) % 30431
theorem nx_lt (x : Nat) : nx x < 30431 := Nat.mod_lt _ (by decide)
/-- may the date be forgotten -/
def cfg (T : Tw) (a b : Int32) : Bool := lvs T b && (decide (a.toNatClampNeg < 20 ∧ nI 0 ≤ a) && (T 1 b.toNatClampNeg).testBit a.toNatClampNeg)
def fgT (T : Tw) (d h : Nat) : Tw := tu T 1 h (T 1 h ^^^ (T 1 h &&& 2 ^ d))
/-- a date out of the hat: k tries -/
def hatL (h : Nat) : Nat → Tw → Tw × Int32
  | 0, T => (T, -1)
  | k + 1, T => if (T 1 h).testBit (T 0 3 % 20) = true then hatL h k (tu T 0 3 (nx (T 0 3))) else (tu (tu T 0 3 (nx (T 0 3))) 1 h (T 1 h ||| 2 ^ (T 0 3 % 20)), nI (T 0 3 % 20))
theorem hatL_y {h k : Nat} {T : Tw} (q : (T 1 h).testBit (T 0 3 % 20) = true) : hatL h (k + 1) T = hatL h k (tu T 0 3 (nx (T 0 3))) := if_pos q
theorem hatL_n {h k : Nat} {T : Tw} (q : ¬ (T 1 h).testBit (T 0 3 % 20) = true) : hatL h (k + 1) T = (tu (tu T 0 3 (nx (T 0 3))) 1 h (T 1 h ||| 2 ^ (T 0 3 % 20)), nI (T 0 3 % 20)) := if_neg q
def cdr (T : Tw) (a : Int32) : Bool := lvs T a && decide (pcf 20 (T 1 a.toNatClampNeg) < 3)
section
variable {F : Nat} {S : mS} {T : Tw}
theorem lvs_c (hW : Wf T) (a : Int32) : lvs T a = false ∨ ∃ h, h < T 0 0 ∧ a = nI h ∧ lvs T a = true ∧ (T 0 1).testBit h = false := by
  have w0 := hW.1
  unfold lvs
  rcases tld_c a (n := T 0 0) (by omega) with z | ⟨h, hh, rfl, z⟩
  · exact Or.inl (by rw [z]; rfl)
  · rw [z, nI_clamp (by omega)]
    cases q : (T 0 1).testBit h
    · exact Or.inr ⟨h, hh, rfl, rfl, q⟩
    · exact Or.inl rfl
theorem x6_canF (hC : CT S 41 T) (hW : Wf T) (a b : Int32) : f_X6_canForget F S 41 a b = some (cfg T a b) := by
  have w0 := hW.1
  rw [u_X6_canForget, u_X8_isDate, x6_lives hC hW]
  unfold cfg
  rcases dat_c S a with z | ⟨d, hd, rfl, z⟩
  · rw [z, if_neg (by decide)]
    have : decide (a.toNatClampNeg < 20 ∧ nI 0 ≤ a) = false := decide_eq_false (fun w => by
      obtain ⟨j, hj, rfl⟩ := nI_of (x := a) (fun q => absurd w.2 (fa_of_lt q).2.1)
      rw [nI_clamp hj] at w
      rw [win_n (by omega) (by omega) hj, decide_eq_false_iff_not] at z
      omega)
    rw [this, Bool.false_and, Bool.and_false]
  · rw [z, if_pos rfl, nI_clamp (by omega), decide_eq_true ⟨hd, nI_le (by omega) (by omega)⟩, Bool.true_and]
    rcases lvs_c hW b with q | ⟨h, hh, rfl, q, -⟩
    · rw [q]; rfl
    · rw [q, if_pos rfl, x6_isShutn hC hW hh (by omega), bd_s, nI_clamp (by omega), if_tfs, Bool.true_and]
theorem x9_canF (hR : RT S 376 T) (hW : Wf T) (a b : Int32) : f_X9_canForget F S 375 a b = some (cfg T a b) := by
  have w0 := hW.1
  rw [u_X9_canForget, x9_isHere hR hW, bd_s, x9_isIn]
  unfold cfg
  rcases lvs_c hW b with q | ⟨h, hh, rfl, q, -⟩
  · rw [q]; rfl
  · have s := (hW.2.2.2.2.2.1 h hh).1
    rw [q, if_pos rfl, Bool.true_and]
    rcases dat_c S a with z | ⟨d, hd, rfl, z⟩
    · rw [z, if_neg (by decide)]
      have : decide (a.toNatClampNeg < 20 ∧ nI 0 ≤ a) = false := decide_eq_false (fun w => by
        obtain ⟨j, hj, rfl⟩ := nI_of (x := a) (fun q => absurd w.2 (fa_of_lt q).2.1)
        rw [nI_clamp hj] at w
        rw [win_n (by omega) (by omega) hj, decide_eq_false_iff_not] at z
        omega)
      rw [this, Bool.false_and]
    · rw [z, if_pos rfl, x9_shut hR hW hh, bd_s, x9_has S (by omega) (by omega), nI_clamp (by omega), nI_clamp (by omega), decide_eq_true ⟨hd, nI_le (by omega) (by omega)⟩, Bool.true_and, if_tfs]
theorem cfg_c (hW : Wf T) (a b : Int32) : cfg T a b = false ∨ ∃ d h, d < 20 ∧ h < T 0 0 ∧ a = nI d ∧ b = nI h ∧ (T 0 1).testBit h = false ∧ (T 1 h).testBit d = true := by
  have w0 := hW.1
  cases q : cfg T a b
  · exact Or.inl rfl
  · refine Or.inr ?_
    unfold cfg at q
    rw [Bool.and_eq_true, Bool.and_eq_true, decide_eq_true_eq] at q
    obtain ⟨j, hj, rfl⟩ := nI_of (x := a) (fun w => absurd q.2.1.2 (fa_of_lt w).2.1)
    rw [nI_clamp hj] at q
    rcases lvs_c hW b with z | ⟨h, hh, rfl, z, g⟩
    · rw [z] at q; exact absurd q.1 (by decide)
    · rw [nI_clamp (by omega)] at q
      exact ⟨j, h, q.2.1.1, hh, rfl, rfl, g, q.2.2⟩
theorem fg_lt (hW : Wf T) {d h : Nat} (hh : h < T 0 0) : Wf (fgT T d h) := by
  have s := (hW.2.2.2.2.2.1 h hh)
  refine hW.shut (Nat.lt_of_le_of_lt (dif_le _ _) s.1) (Nat.le_trans ?_ s.2.1)
  rw [pcf_ct, pcf_ct]
  refine fb_ct_sub (fun k _ w => ?_)
  rw [dif_tb, Bool.and_eq_true] at w
  exact w.1
theorem x6_drop (hC : CT S 41 T) (hW : Wf T) {d h : Nat} (hd : d < 20) (hh : h < T 0 0) (hc : cfg T (nI d) (nI h) = true) : ∃ S', f_X6_dropDate F S 41 (nI d) (nI h) = some S' ∧ CT S' 41 (fgT T d h) ∧ Ft S S' := by
  have w0 := hW.1
  have cs : S.1 (41 + 1) h = nI (T 1 h) := hC.2.2.2.2.2.1 h hh
  refine ⟨_, ?_, hC.shut (g := h) (v := T 1 h ^^^ (T 1 h &&& 2 ^ d)), ft_sI (by omega)⟩
  rw [u_X6_dropDate, x6_canF hC hW, hc, bd_s, if_pos rfl, inb_n (by omega) (by omega), ck_t, ck_t, nI_clamp (by omega), stp_s, cs, i_shl (by omega), i_dif]
theorem x9_forg (hR : RT S 376 T) (hW : Wf T) {d h : Nat} (hd : d < 20) (hh : h < T 0 0) : ∃ S', f_X9_forgetNow F S 375 (nI d) (nI h) = some S' ∧ RT S' 376 (fgT T d h) ∧ Fq S S' := by
  have w0 := hW.1
  refine ⟨_, ?_, hR.shut (g := h) (v := T 1 h ^^^ (T 1 h &&& 2 ^ d)) (by omega), fq_sI (by omega)⟩
  rw [u_X9_forgetNow, x9_shut hR hW hh, bd_s, i_shl (by omega), i_dif, x9_put _ _ (by omega) (by omega), bd_s]
  rfl
theorem x6_canD (hC : CT S 41 T) (hW : Wf T) (a : Int32) : f_X6_canDraw F S 41 a = some (cdr T a) := by
  have w0 := hW.1
  rw [u_X6_canDraw, x6_lives hC hW]
  unfold cdr
  rcases lvs_c hW a with q | ⟨h, hh, rfl, q, -⟩
  · rw [q]; rfl
  · have s := (hW.2.2.2.2.2.1 h hh)
    have cs : S.1 (41 + 1) h = nI (T 1 h) := hC.2.2.2.2.2.1 h hh
    rw [q, if_pos rfl, inb_n (by omega) (by omega), ck_t, nI_clamp (by omega), cs, bc_n s.1, Bool.true_and]
    by_cases z : pcf 20 (T 1 h) < 3
    · rw [if_neg (nI_ge z (by omega)), decide_eq_true z]
    · rw [if_pos (nI_le (by omega) (by omega)), decide_eq_false z]
theorem x9_canD (hF : 32 < F) (hR : RT S 376 T) (hW : Wf T) (a : Int32) : f_X9_canDraw F S 375 a = some (cdr T a) := by
  have w0 := hW.1
  rw [u_X9_canDraw, x9_isHere hR hW, bd_s]
  unfold cdr
  rcases lvs_c hW a with q | ⟨h, hh, rfl, q, -⟩
  · rw [q]; rfl
  · have s := (hW.2.2.2.2.2.1 h hh)
    rw [q, if_pos rfl, x9_shut hR hW hh, bd_s, bits_f hF s.1, bd_s, nI_clamp (by omega), Bool.true_and]
    by_cases z : pcf 20 (T 1 h) < 3
    · rw [if_neg (nI_ge z (by omega)), decide_eq_true z]
    · rw [if_pos (nI_le (by omega) (by omega)), decide_eq_false z]
theorem cdr_c (hW : Wf T) (a : Int32) : cdr T a = false ∨ ∃ h, h < T 0 0 ∧ a = nI h ∧ (T 0 1).testBit h = false ∧ pcf 20 (T 1 h) < 3 := by
  have w0 := hW.1
  cases q : cdr T a
  · exact Or.inl rfl
  · refine Or.inr ?_
    unfold cdr at q
    rw [Bool.and_eq_true, decide_eq_true_eq] at q
    rcases lvs_c hW a with z | ⟨h, hh, rfl, z, g⟩
    · rw [z] at q; exact absurd q.1 (by decide)
    · rw [nI_clamp (by omega)] at q
      exact ⟨h, hh, rfl, g, q.2⟩
theorem pw_1 : ∀ d, d < 20 → pcf 20 (2 ^ d) ≤ 1 := by decide +kernel
theorem hat_Wf {h : Nat} (k : Nat) : ∀ {T : Tw}, Wf T → h < T 0 0 → pcf 20 (T 1 h) < 3 → Wf (hatL h k T).1 ∧ (hatL h k T).1 0 0 = T 0 0 := by
  induction k with
  | zero => exact fun {T} hW _ _ => ⟨hW, rfl⟩
  | succ k ih =>
    intro T hW hh h3
    have s := (hW.2.2.2.2.2.1 h hh)
    by_cases q : (T 1 h).testBit (T 0 3 % 20) = true
    · rw [hatL_y q]
      exact ih (hW.x (nx_lt _)) hh h3
    · rw [hatL_n q]
      refine ⟨(hW.x (nx_lt _)).shut (or_lt20 s.1 (p2_lt20 (by omega))) ?_, rfl⟩
      have a := pcf_or (T 1 h) (2 ^ (T 0 3 % 20))
      have b := pw_1 (T 0 3 % 20) (by omega)
      omega
theorem x6_drawX (hC : CT S 41 T) (hW : Wf T) : f_X6_drawX F S 41 = some (sI S 41 8 (nI (nx (T 0 3))), nI (T 0 3)) := by
  have w := hW.2.2.2.1
  have c8 : S.1 41 8 = nI (T 0 3) := hC.2.2.2.1
  rw [u_X6_drawX, c8, pk_mul, nI_add, pk_rem (by omega) (by omega) (by omega), stp_s]
  rfl
theorem x9_anew (hR : RT S 376 T) (hW : Wf T) : f_X9_anew F S 375 = some (sI S 376 9 (nI (nx (T 0 3)))) := by
  have w := hW.2.2.2.1
  have c8 : S.1 376 9 = nI (T 0 3) := hR.2.2.1
  rw [u_X9_anew, inb_n (by omega) (by omega), ck_t, ck_t, nI_clamp (by omega), c8, nI_l (by omega), show (359 : Int64) = lN 359 from rfl, show (239 : Int64) = lN 239 from rfl, show (30431 : Int64) = lN 30431 from rfl, lN_mul, lN_add, pk_lRem (by omega) (by omega) (by omega), lN_i, stp_s]
  rfl
theorem x6_draw {h : Nat} (m : Nat) : ∀ (k i : Nat) {S : mS} {T : Tw}, i + m = 20 → m < k → CT S 41 T → Wf T → h < T 0 0 → (T 0 1).testBit h = false → pcf 20 (T 1 h) < 3 → ∃ S', lX6_drawDate_2 F 41 (nI h) k S (nI i) = some (S', (hatL h m T).2) ∧ CT S' 41 (hatL h m T).1 ∧ Ft S S' := by
  induction m with
  | zero =>
    intro k i S T hi hk hC hW hh hg h3
    obtain ⟨k, rfl⟩ : ∃ k', k = k' + 1 := ⟨k - 1, by omega⟩
    exact ⟨S, by rw [u_X6_drawDate_2, if_pos (nI_le (by omega) (by omega))]; rfl, hC, Ft.rfl' S⟩
  | succ m ih =>
    intro k i S T hi hk hC hW hh hg h3
    obtain ⟨k, rfl⟩ : ∃ k', k = k' + 1 := ⟨k - 1, by omega⟩
    have w0 := hW.1
    have w := hW.2.2.2.1
    have s := (hW.2.2.2.2.2.1 h hh)
    have cd : cdr T (nI h) = true := by
      unfold cdr
      rw [lvs_n (by omega) (by omega), decide_eq_true hh, hg, nI_clamp (by omega), decide_eq_true h3]; rfl
    have hC1 := hC.x (v := nx (T 0 3))
    have hW1 := hW.x (nx_lt (T 0 3))
    have cs : (sI S 41 8 (nI (nx (T 0 3)))).1 (41 + 1) h = nI (T 1 h) := hC1.2.2.2.2.2.1 h hh
    have u1 : lX6_drawDate_2 F 41 (nI h) (k + 1) S (nI i) = if (T 1 h).testBit (T 0 3 % 20) = true then lX6_drawDate_2 F 41 (nI h) k (sI S 41 8 (nI (nx (T 0 3)))) (nI (i + 1)) else some (sI (sI S 41 8 (nI (nx (T 0 3)))) (41 + 1) h (nI (T 1 h ||| 2 ^ (T 0 3 % 20))), nI (T 0 3 % 20)) := by
      have e := x6_isShutn (F := F) hC1 hW1 hh (show T 0 3 % 20 < 32 by omega)
      rw [tu_u (by decide)] at e
      rw [u_X6_drawDate_2, if_neg (nI_ge (show i < 20 by omega) (by omega)), x6_canD hC hW, cd, bd_s, if_pos rfl, x6_drawX hC hW, bd_s, pk_rem (by omega) (by omega) (by omega), e, bd_s, nI_add, inb_n (by omega) (by omega), ck_t, ck_t, nI_clamp (by omega), stp_s, cs, i_shl (by omega), fa_or]
    by_cases q : (T 1 h).testBit (T 0 3 % 20) = true
    · rw [u1, if_pos q, hatL_y q]
      obtain ⟨S', u, c, f⟩ := ih k (i + 1) (T := tu T 0 3 (nx (T 0 3))) (by omega) (by omega) hC1 hW1 hh hg h3
      exact ⟨S', u, c, (ft_sI (by omega)).trans f⟩
    · rw [u1, if_neg q, hatL_n q]
      exact ⟨_, rfl, hC1.shut (g := h) (v := T 1 h ||| 2 ^ (T 0 3 % 20)), (ft_sI (by omega)).trans (ft_sI (by omega))⟩
theorem x9_hatN {h : Nat} (m : Nat) : ∀ (k i : Nat) {S : mS} {T : Tw}, i + m = 20 → m < k → RT S 376 T → Wf T → h < T 0 0 → ∃ S', lX9_hatNow_2 F 375 (nI h) k S (nI i) = some (S', (hatL h m T).2) ∧ RT S' 376 (hatL h m T).1 ∧ Fq S S' := by
  induction m with
  | zero =>
    intro k i S T hi hk hC hW hh
    obtain ⟨k, rfl⟩ : ∃ k', k = k' + 1 := ⟨k - 1, by omega⟩
    exact ⟨S, by rw [u_X9_hatNow_2, if_pos (nI_le (by omega) (by omega))]; rfl, hC, Fq.rfl' S⟩
  | succ m ih =>
    intro k i S T hi hk hR hW hh
    obtain ⟨k, rfl⟩ : ∃ k', k = k' + 1 := ⟨k - 1, by omega⟩
    have w0 := hW.1
    have w := hW.2.2.2.1
    have s := (hW.2.2.2.2.2.1 h hh)
    have hR1 := hR.x (v := nx (T 0 3))
    have hW1 := hW.x (nx_lt (T 0 3))
    have c9 : S.1 376 9 = nI (T 0 3) := hR.2.2.1
    have u1 : lX9_hatNow_2 F 375 (nI h) (k + 1) S (nI i) = if (T 1 h).testBit (T 0 3 % 20) = true then lX9_hatNow_2 F 375 (nI h) k (sI S 376 9 (nI (nx (T 0 3)))) (nI (i + 1)) else some (sI (sI S 376 9 (nI (nx (T 0 3)))) 376 (12 + 8 * h) (nI (T 1 h ||| 2 ^ (T 0 3 % 20))), nI (T 0 3 % 20)) := by
      have e := x9_shut (F := F) hR1 hW1 hh
      rw [tu_u (by decide)] at e
      rw [u_X9_hatNow_2, if_neg (nI_ge (show i < 20 by omega) (by omega)), inb_n (by omega) (by omega), ck_t, x9_anew hR hW, bd_s, e, bd_s, bd_s, nI_clamp (by omega), c9, pk_rem (by omega) (by omega) (by omega), nI_add, x9_has _ (by omega) (by omega), i_shl (by omega), fa_or, x9_put _ _ (by omega) (by omega), bd_s, Nat.add_zero (12 + 8 * h)]
    by_cases q : (T 1 h).testBit (T 0 3 % 20) = true
    · rw [u1, if_pos q, hatL_y q]
      obtain ⟨S', u, c, f⟩ := ih k (i + 1) (T := tu T 0 3 (nx (T 0 3))) (by omega) (by omega) hR1 hW1 hh
      exact ⟨S', u, c, (fq_sI (by omega)).trans f⟩
    · rw [u1, if_neg q, hatL_n q]
      exact ⟨_, rfl, hR1.shut (g := h) (v := T 1 h ||| 2 ^ (T 0 3 % 20)) (by omega), (fq_sI (by omega)).trans (fq_sI (by omega))⟩
end
theorem sim_forget {F : Nat} (hF : 3000 < F) {E : Nat → Tw} {T : Tw} {P : Nat → Tw} {N : Tw} (hV : WV T P N) (a b : Int32) : Sim (fun S => f_X8_forget F S 0 a b) (fun S => f_X9_forget F S 375 a b) E T P N (fun _ _ _ _ => True) := by
  have hW := hV.1
  rcases cfg_c hW a b with q | ⟨d, h, hd, hh, rfl, rfl, hg, hb⟩
  · refine Sim.same hV false (fun S hS => ?_) (fun S hS => ?_) trivial
    · rw [u_X8_forget, x6_canF hS.1 hW, q]; rfl
    · rw [u_X9_forget, x9_canF hS.1 hW, q]; rfl
  · have w0 := hW.1
    have q : cfg T (nI d) (nI h) = true := by
      unfold cfg
      rw [lvs_n (by omega) (by omega), decide_eq_true hh, hg, nI_clamp (by omega), nI_clamp (by omega), decide_eq_true ⟨hd, nI_le (by omega) (by omega)⟩, hb]; rfl
    refine Sim.kept (g8 := fun q2 => bd (f_X6_dropDate F q2 41 (nI d) (nI h)) fun q3 => some (q3, true)) (g9 := fun q2 => bd (f_X9_forgetNow F q2 375 (nI d) (nI h)) fun q3 => some (q3, true)) (T' := fgT T d h) (r := true) hF hV (fun S hS => ?_) (fun S hS => ?_) (fun S hS _ => ?_) (fun S hS _ => ?_) (fg_lt hW hh) rfl trivial
    · show f_X8_forget F S 0 (nI d) (nI h) = _
      rw [u_X8_forget, x6_canF hS.1 hW, q, bd_s, if_pos rfl]
    · show f_X9_forget F S 375 (nI d) (nI h) = _
      rw [u_X9_forget, x9_canF hS.1 hW, q, bd_s, if_pos rfl]
    · obtain ⟨S', u, c, f⟩ := x6_drop (F := F) hS.1 hW hd hh q
      exact ⟨S', by show bd _ _ = _; rw [u, bd_s], c, f⟩
    · obtain ⟨S', u, c, f⟩ := x9_forg (F := F) hS.1 hW hd hh
      exact ⟨S', by show bd _ _ = _; rw [u, bd_s], c, f⟩
theorem sim_hat {F : Nat} (hF : 3000 < F) {E : Nat → Tw} {T : Tw} {P : Nat → Tw} {N : Tw} (hV : WV T P N) (a : Int32) : Sim (fun S => f_X8_hat F S 0 a) (fun S => f_X9_hat F S 375 a) E T P N (fun _ _ _ _ => True) := by
  have hW := hV.1
  rcases cdr_c hW a with q | ⟨h, hh, rfl, hg, hb⟩
  · refine Sim.same hV (-1) (fun S hS => ?_) (fun S hS => ?_) trivial
    · rw [u_X8_hat, x6_canD hS.1 hW, q]; rfl
    · rw [u_X9_hat, x9_canD (by omega) hS.1 hW, q]; rfl
  · have w0 := hW.1
    have q : cdr T (nI h) = true := by
      unfold cdr
      rw [lvs_n (by omega) (by omega), decide_eq_true hh, hg, nI_clamp (by omega), decide_eq_true hb]; rfl
    have hw := hat_Wf (h := h) 20 hW hh hb
    refine Sim.kept (g8 := fun q2 => bd (f_X6_drawDate F q2 41 (nI h)) fun q3 => some (q3.1, q3.2)) (g9 := fun q2 => bd (f_X9_hatNow F q2 375 (nI h)) fun q3 => some (q3.1, q3.2)) (T' := (hatL h 20 T).1) (r := (hatL h 20 T).2) hF hV (fun S hS => ?_) (fun S hS => ?_) (fun S hS _ => ?_) (fun S hS _ => ?_) hw.1 hw.2 trivial
    · show f_X8_hat F S 0 (nI h) = _
      rw [u_X8_hat, x6_canD hS.1 hW, q, bd_s, if_pos rfl]
    · show f_X9_hat F S 375 (nI h) = _
      rw [u_X9_hat, x9_canD (by omega) hS.1 hW, q, bd_s, if_pos rfl]
    · obtain ⟨S', u, c, f⟩ := x6_draw (F := F) (h := h) 20 F 0 (by omega) (by omega) hS.1 hW hh hg hb
      exact ⟨S', by show bd (f_X6_drawDate F S 41 (nI h)) _ = _; rw [u_X6_drawDate, u, bd_s], c, f⟩
    · obtain ⟨S', u, c, f⟩ := x9_hatN (F := F) (h := h) 20 F 0 (by omega) (by omega) hS.1 hW hh
      exact ⟨S', by show bd (f_X9_hatNow F S 375 (nI h)) _ = _; rw [u_X9_hatNow, u, bd_s], c, f⟩
theorem st_forget : ∀ S, Inv S → ∀ a1 a2, Step μX8_forget μX9_forget Inv S [.int a1, .int a2] := by
  intro S hI a b
  obtain ⟨T, P, N, T1, P1, N1, E, hI⟩ := hI
  obtain ⟨F, hF⟩ := big_F
  obtain ⟨S1, S2, r, h1, h2, h3⟩ := (sim_forget (F := F) (by omega) hI.2.2.1 a b).run hI
  exact stepW (S1 := S1) (S2 := S2) (r := bI r) (c_X8_forget k_0 h1) (c_X9_forget k_375 h2) h3 (by decide) (by decide)
theorem st_hat : ∀ S, Inv S → ∀ a1, Step μX8_hat μX9_hat Inv S [.int a1] := by
  intro S hI a
  obtain ⟨T, P, N, T1, P1, N1, E, hI⟩ := hI
  obtain ⟨F, hF⟩ := big_F
  obtain ⟨S1, S2, r, h1, h2, h3⟩ := (sim_hat (F := F) (by omega) hI.2.2.1 a).run hI
  exact stepW (S1 := S1) (S2 := S2) (r := r) (c_X8_hat k_0 h1) (c_X9_hat k_375 h2) h3 (by decide) (by decide)
