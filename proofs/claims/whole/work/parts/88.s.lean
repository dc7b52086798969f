/-! ===== whose ===== -/
theorem psv_g {Et T : Tw} {day h : Nat} (hg : (T 0 1).testBit h = true) : psv Et T day h = T 2 h := by
  unfold psv opb opd
  rw [hg, Bool.not_true, Bool.and_false, Bool.and_false, if_neg (by decide), if_pos rfl]
theorem psF_g {Et : Tw} {day h : Nat} (m : Nat) : ∀ (i : Nat) {T : Tw}, (T 0 1).testBit h = true → psF Et day m i T 2 h = T 2 h := by
  induction m with
  | zero => exact fun i {T} _ => rfl
  | succ m ih =>
    intro i T hg
    rw [psF_s, ih (i + 1) (T := tu T 2 i (psv Et T day i)) hg]
    by_cases q : h = i
    · subst q; rw [tu_hit, psv_g hg]
    · rw [tu_k q]
theorem gT_g {Et : Tw} {h : Nat} (m : Nat) : ∀ {T : Tw}, Wf T → (T 0 1).testBit h = true → gT Et m T 2 h = T 2 h := by
  induction m with
  | zero => exact fun {T} _ _ => rfl
  | succ m ih =>
    intro T hW hg
    by_cases q : T 0 2 < 9999
    · have p := psT_k Et hW q
      rw [gT_y q, ih p.1 (by rw [p.2.2.2.1]; exact hg)]
      exact psF_g (T 0 0) 0 hg
    · rw [gT_n q]
/-- wealth of those that live; what the gone ones had -/
def wL (T : Tw) : Nat → Nat := fun h => if (T 0 1).testBit h = true then 0 else T 2 h
def wG (T : Tw) : Nat → Nat := fun h => if (T 0 1).testBit h = true then T 2 h else 0
def whS (w : Nat → Nat) : Nat → Nat → Int32 → Option Nat → Int32
  | 0, _, f, _ => f
  | m + 1, i, f, none => whS w m (i + 1) (nI i) (some (w i))
  | m + 1, i, f, some x => if w i ≤ x then whS w m (i + 1) f (some x) else whS w m (i + 1) (nI i) (some (w i))
def oc (C : Nat) : Option Nat → Int32
  | none => -1
  | some x => nI (x + C)
section
variable {F : Nat} {T : Tw}
theorem x6_wealth {t : Nat} {S : mS} (hF : 10 < F) (hC : CT S t T) (hW : Wf T) : f_X6_wealth F S t = some (nI (fb_sm (T 2) (T 0 0))) := by
  have w0 := hW.1
  rw [u_X6_wealth]
  refine up_l (fun k i => lX6_wealth_4 F t k S (nI (fb_sm (T 2) i)) (nI i)) _ (T 0 0) (fun k => ?_) (fun k i hi => ?_) F 0 (by omega) (by omega)
  · show lX6_wealth_4 F t (k + 1) S _ _ = _
    rw [u_X6_wealth_4, hC.1, if_pos (nI_le (Nat.le_refl _) (by omega))]
  · show lX6_wealth_4 F t (k + 1) S _ _ = lX6_wealth_4 F t k S _ _
    rw [u_X6_wealth_4, hC.1, if_neg (nI_ge hi (by omega)), inb_n (n := i) (by omega) (by omega), ck_t, nI_clamp (n := i) (by omega), hC.2.2.2.2.2.2.1 i hi, nI_add, nI_add, ← fb_sm_succ]
theorem wL_le (hW : Wf T) : fb_sm (wL T) (T 0 0) ≤ 69993 := by
  have w0 := hW.1
  have := fb_sm_bound (f := wL T) (c := 9999) (n := T 0 0) (fun k hk => by
    have := (hW.2.2.2.2.2.1 k hk).2.2.1
    unfold wL
    split <;> omega)
  omega
theorem wG_le (hW : Wf T) : fb_sm (wG T) (T 0 0) ≤ 69993 := by
  have w0 := hW.1
  have := fb_sm_bound (f := wG T) (c := 9999) (n := T 0 0) (fun k hk => by
    have := (hW.2.2.2.2.2.1 k hk).2.2.1
    unfold wG
    split <;> omega)
  omega
theorem wAll (hW : Wf T) (Et : Tw) (n : Nat) : fb_sm (gT Et n T 2) (gT Et n T 0 0) = fb_sm (wL (gT Et n T)) (gT Et n T 0 0) + fb_sm (wG T) (T 0 0) := by
  have gk := gT_k Et n hW
  have e : fb_sm (wG T) (T 0 0) = fb_sm (wG (gT Et n T)) (gT Et n T 0 0) := by
    rw [gk.2.1]
    refine fb_sm_cong (fun k hk => ?_)
    unfold wG
    rw [gk.2.2]
    by_cases q : (T 0 1).testBit k = true
    · rw [if_pos q, if_pos q, gT_g n hW q]
    · rw [if_neg q, if_neg q]
  rw [e, ← fb_sm_add]
  refine fb_sm_cong (fun k hk => ?_)
  unfold wL wG
  split <;> omega
theorem x8_wh (hF : 3000 < F) {E : Nat → Tw} {r N2 n : Nat} (hn : n ≤ 60) (hW : Wf T) (m : Nat) : ∀ (i k : Nat) {S : mS} (f : Int32) (o : Option Nat), i + m = N2 → m < k → (∀ x, o = some x → x ≤ 69993) → CT S 41 T → WX S E r N2 → ∃ S', lX8_whose_19 F 0 (nI n) k S f (oc (fb_sm (wG T) (T 0 0)) o) (nI i) = some (S', whS (fun t => fb_sm (wL (gT (E t) n T)) (gT (E t) n T 0 0)) m i f o) ∧ FtT 364 S S' := by
  induction m with
  | zero =>
    intro i k S f o hi hk ho hC hX
    obtain ⟨k, rfl⟩ : ∃ k', k = k' + 1 := ⟨k - 1, by omega⟩
    have n4 := hX.2.2.2.2
    exact ⟨S, by rw [u_X8_whose_19, hX.1, if_pos (nI_le (by omega) (by omega))]; rfl, FtT.rfl' _ S⟩
  | succ m ih =>
    intro i k S f o hi hk ho hC hX
    obtain ⟨k, rfl⟩ : ∃ k', k = k' + 1 := ⟨k - 1, by omega⟩
    have n4 := hX.2.2.2.2
    obtain ⟨cl, ct⟩ := CL.of (r := i + 1) hX.2.2.1 (by omega) n4
    have e1 : tc (i + 1) = 12 + 5 * i := if_neg (by omega)
    have e2 : tx E (i + 1) = E i := if_neg (by omega)
    rw [e1] at cl ct
    rw [e2] at cl
    obtain ⟨S1, u1, c1, f1⟩ := x8_tryD (F := F) (by omega) ct hn hC hW cl
    have gk := gT_k (E i) n hW
    have wl := wL_le gk.1
    have wg := wG_le hW
    have we : f_X6_wealth F S1 364 = some (nI (fb_sm (wL (gT (E i) n T)) (gT (E i) n T 0 0) + fb_sm (wG T) (T 0 0))) := by
      rw [x6_wealth (by omega) c1 gk.1, wAll hW]
    have hC1 : CT S1 41 T := hC.fr (fun u k a b => f1 u k (by omega) (by omega))
    have hX1 := hX.fr (S' := S1) (fun u k c => f1 u k (by omega) (by omega))
    have e : lX8_whose_19 F 0 (nI n) (k + 1) S f (oc (fb_sm (wG T) (T 0 0)) o) (nI i) = if nI (fb_sm (wL (gT (E i) n T)) (gT (E i) n T 0 0) + fb_sm (wG T) (T 0 0)) ≤ oc (fb_sm (wG T) (T 0 0)) o then lX8_whose_19 F 0 (nI n) k S1 f (oc (fb_sm (wG T) (T 0 0)) o) (nI (i + 1)) else lX8_whose_19 F 0 (nI n) k S1 (nI i) (nI (fb_sm (wL (gT (E i) n T)) (gT (E i) n T 0 0) + fb_sm (wG T) (T 0 0))) (nI (i + 1)) := by
      rw [u_X8_whose_19, hX.1, if_neg (nI_ge (by omega) (by omega)), if_neg (nI_ge (show i < 4 by omega) (by omega)), inb_n (n := i) (by omega) (by omega), ck_t, nI_clamp (n := i) (by omega), u1, bd_s, we, bd_s, nI_add]
    cases o with
    | none =>
      obtain ⟨S2, u2, f2⟩ := ih (i + 1) k (nI i) (some (fb_sm (wL (gT (E i) n T)) (gT (E i) n T 0 0))) (by omega) (by omega) (fun x hx => by rw [← Option.some.inj hx]; exact wl) hC1 hX1
      refine ⟨S2, ?_, f1.trans f2⟩
      rw [e, if_neg (show ¬ nI (fb_sm (wL (gT (E i) n T)) (gT (E i) n T 0 0) + fb_sm (wG T) (T 0 0)) ≤ oc (fb_sm (wG T) (T 0 0)) none from fun w => absurd w (by show ¬ nI (fb_sm (wL (gT (E i) n T)) (gT (E i) n T 0 0) + fb_sm (wG T) (T 0 0)) ≤ (-1 : Int32); rw [n_le_m1 (by omega)]; exact fun h => h))]
      exact u2
    | some x =>
      have hx := ho x rfl
      by_cases q : fb_sm (wL (gT (E i) n T)) (gT (E i) n T 0 0) ≤ x
      · obtain ⟨S2, u2, f2⟩ := ih (i + 1) k f (some x) (by omega) (by omega) ho hC1 hX1
        refine ⟨S2, ?_, f1.trans f2⟩
        rw [e, if_pos (show nI (fb_sm (wL (gT (E i) n T)) (gT (E i) n T 0 0) + fb_sm (wG T) (T 0 0)) ≤ oc (fb_sm (wG T) (T 0 0)) (some x) from nI_le (show fb_sm (wL (gT (E i) n T)) (gT (E i) n T 0 0) + fb_sm (wG T) (T 0 0) ≤ x + fb_sm (wG T) (T 0 0) by omega) (by omega)), u2]
        exact congrArg (fun z => some (S2, z)) (if_pos q).symm
      · obtain ⟨S2, u2, f2⟩ := ih (i + 1) k (nI i) (some (fb_sm (wL (gT (E i) n T)) (gT (E i) n T 0 0))) (by omega) (by omega) (fun x hx => by rw [← Option.some.inj hx]; exact wl) hC1 hX1
        refine ⟨S2, ?_, f1.trans f2⟩
        rw [e, if_neg (show ¬ nI (fb_sm (wL (gT (E i) n T)) (gT (E i) n T 0 0) + fb_sm (wG T) (T 0 0)) ≤ oc (fb_sm (wG T) (T 0 0)) (some x) from nI_ge (show x + fb_sm (wG T) (T 0 0) < fb_sm (wL (gT (E i) n T)) (gT (E i) n T 0 0) + fb_sm (wG T) (T 0 0) by omega) (by omega))]
        refine Eq.trans u2 (congrArg (fun z => some (S2, z)) (if_neg q).symm)
theorem x9_wh61 (K : mS → Int32 → Int32 → Int32 → Int32 → Option (mS × Int32)) {S S3 : mS} {a1 v2 v3 v4 v5 : Int32} (hF : 10 < F) (hR : RT S 376 T) (hW : Wf T) (hb : f_X9_putBack F S 375 = some S3) : lX9_whose_61 F K 375 a1 F S v2 v3 v4 v5 (nI 0) (nI 0) = if v4 < nI (fb_sm (wL T) (T 0 0)) then K S3 v2 v5 (nI (fb_sm (wL T) (T 0 0))) (v5 + nI 1) else K S3 v2 v3 v4 (v5 + nI 1) := by
  have w0 := hW.1
  refine up_l (fun k i => lX9_whose_61 F K 375 a1 k S v2 v3 v4 v5 (nI (fb_sm (wL T) i)) (nI i)) _ (T 0 0) (fun k => ?_) (fun k i hi => ?_) F 0 (by omega) (by omega)
  · show lX9_whose_61 F K 375 a1 (k + 1) S _ _ _ _ _ _ = _
    rw [u_X9_whose_61, inb_n (n := 0) (by omega) (by omega), ck_t, nI_clamp (n := 0) (by omega), hR.1, if_pos (nI_le (Nat.le_refl _) (by omega)), hb, bd_s]
  · show lX9_whose_61 F K 375 a1 (k + 1) S _ _ _ _ _ _ = lX9_whose_61 F K 375 a1 k S _ _ _ _ _ _
    rw [u_X9_whose_61, inb_n (n := 0) (by omega) (by omega), ck_t, nI_clamp (n := 0) (by omega), hR.1, if_neg (nI_ge hi (by omega)), x9_isHeren hR hW hi, bd_s, x9_purse hR hW hi, bd_s, fb_sm_succ, nI_add, nI_add, nI_add]
    unfold wL
    cases (T 0 1).testBit i <;> rfl
theorem x9_wh (hF : 3000 < F) {E : Nat → Tw} {N2 n : Nat} {v2 : Int32} (hn : n ≤ 60) (hW : Wf T) (hN : N2 ≤ 4) (m : Nat) : ∀ (i k : Nat) {S : mS} (f : Int32) (o : Option Nat), i + m = N2 → m < k → (∀ x, o = some x → x ≤ 69993) → RT S 376 T → S.1 376 1 = nI N2 → TX S E N2 → ∃ S', lX9_whose_27 F 375 (nI n) k S v2 f (oc 0 o) (nI i) = some (S', whS (fun t => fb_sm (wL (gT (E t) n T)) (gT (E t) n T 0 0)) m i f o) ∧ S'.1 376 2 = v2 ∧ ∀ u k, u ≠ 381 → u ≠ 383 → u ≠ 384 → ¬ (u = 376 ∧ k = 2) → S'.1 u k = S.1 u k := by
  induction m with
  | zero =>
    intro i k S f o hi hk ho hR h1 hT
    obtain ⟨k, rfl⟩ : ∃ k', k = k' + 1 := ⟨k - 1, by omega⟩
    exact ⟨_, by rw [u_X9_whose_27, inb_n (n := 1) (by omega) (by omega), ck_t, nI_clamp (n := 1) (by omega), h1, if_pos (nI_le (by omega) (by omega)), inb_n (n := 2) (by omega) (by omega), ck_t, nI_clamp (n := 2) (by omega), stp_s]; rfl, sq_hit _ _ _ _, fun u k a b c d => sq_off (by omega)⟩
  | succ m ih =>
    intro i k S f o hi hk ho hR h1 hT
    obtain ⟨k, rfl⟩ : ∃ k', k = k' + 1 := ⟨k - 1, by omega⟩
    have f0 : ∀ u k, ¬ (u = 376 ∧ k = 2) → (sI S 376 2 (nI i)).1 u k = S.1 u k := fun u k h => sq_off (by omega)
    have hR0 : RT (sI S 376 2 (nI i)) 376 T := hR.frk hW (fun k hk => f0 _ _ (by omega))
    have hT0 : TX (sI S 376 2 (nI i)) E N2 := hT.fr hN (fun u k c => f0 _ _ (by omega))
    have hL := RLw.of (r := i + 1) hT0 (by omega) hN (by rw [sq_hit, rul_s])
    have e2 : tx E (i + 1) = E i := if_neg (by omega)
    rw [e2] at hL
    obtain ⟨A1, A2, A3, v1, v2', rr, v3, f3⟩ := x9_fore (F := F) (by omega) hn hR0 hW hL
    have gk := gT_k (E i) n hW
    have wl := wL_le gk.1
    have hR3 : RT A3 376 T := hR0.fr (fun k => f3 _ _ (by decide) (by decide) (by decide))
    have h13 : A3.1 376 1 = nI N2 := (f3 _ _ (by decide) (by decide) (by decide)).trans ((f0 _ _ (by omega)).trans h1)
    have hT3 : TX A3 E N2 := hT0.fr hN (fun u k c => f3 _ _ (by omega) (by omega) (by omega))
    have e : lX9_whose_27 F 375 (nI n) (k + 1) S v2 f (oc 0 o) (nI i) = if oc 0 o < nI (fb_sm (wL (gT (E i) n T)) (gT (E i) n T 0 0)) then lX9_whose_27 F 375 (nI n) k A3 v2 (nI i) (nI (fb_sm (wL (gT (E i) n T)) (gT (E i) n T 0 0))) (nI (i + 1)) else lX9_whose_27 F 375 (nI n) k A3 v2 f (oc 0 o) (nI (i + 1)) := by
      rw [u_X9_whose_27, inb_n (n := 1) (by omega) (by omega), ck_t, nI_clamp (n := 1) (by omega), h1, if_neg (nI_ge (by omega) (by omega)), inb_n (n := 2) (by omega) (by omega), ck_t, nI_clamp (n := 2) (by omega), stp_s, v1, bd_s, v2', bd_s, x9_wh61 _ (by omega) rr gk.1 v3, nI_add]
    have fr : ∀ S' : mS, (∀ u k, u ≠ 381 → u ≠ 383 → u ≠ 384 → ¬ (u = 376 ∧ k = 2) → S'.1 u k = A3.1 u k) → ∀ u k, u ≠ 381 → u ≠ 383 → u ≠ 384 → ¬ (u = 376 ∧ k = 2) → S'.1 u k = S.1 u k := fun S' h u k a b c d => (h u k a b c d).trans ((f3 u k a b c).trans (f0 u k d))
    cases o with
    | none =>
      obtain ⟨S2, u2, g2, f2⟩ := ih (i + 1) k (S := A3) (nI i) (some (fb_sm (wL (gT (E i) n T)) (gT (E i) n T 0 0))) (by omega) (by omega) (fun x hx => by rw [← Option.some.inj hx]; exact wl) hR3 h13 hT3
      refine ⟨S2, ?_, g2, fr S2 f2⟩
      rw [e, if_pos (show oc 0 none < nI (fb_sm (wL (gT (E i) n T)) (gT (E i) n T 0 0)) from (by show (-1 : Int32) < nI (fb_sm (wL (gT (E i) n T)) (gT (E i) n T 0 0)); rw [m1_lt (by omega)]; trivial))]
      exact u2
    | some x =>
      have hx := ho x rfl
      by_cases q : fb_sm (wL (gT (E i) n T)) (gT (E i) n T 0 0) ≤ x
      · obtain ⟨S2, u2, g2, f2⟩ := ih (i + 1) k (S := A3) f (some x) (by omega) (by omega) ho hR3 h13 hT3
        refine ⟨S2, ?_, g2, fr S2 f2⟩
        rw [e, if_neg (show ¬ oc 0 (some x) < nI (fb_sm (wL (gT (E i) n T)) (gT (E i) n T 0 0)) from nI_nlt (show fb_sm (wL (gT (E i) n T)) (gT (E i) n T 0 0) ≤ x + 0 by omega) (by omega)), u2]
        exact congrArg (fun z => some (S2, z)) (if_pos q).symm
      · obtain ⟨S2, u2, g2, f2⟩ := ih (i + 1) k (S := A3) (nI i) (some (fb_sm (wL (gT (E i) n T)) (gT (E i) n T 0 0))) (by omega) (by omega) (fun x hx => by rw [← Option.some.inj hx]; exact wl) hR3 h13 hT3
        refine ⟨S2, ?_, g2, fr S2 f2⟩
        rw [e, if_pos (show oc 0 (some x) < nI (fb_sm (wL (gT (E i) n T)) (gT (E i) n T 0 0)) from nI_lt (show x + 0 < fb_sm (wL (gT (E i) n T)) (gT (E i) n T 0 0) by omega) (by omega))]
        refine Eq.trans u2 (congrArg (fun z => some (S2, z)) (if_neg q).symm)
end
theorem st_whose : ∀ S, Inv S → ∀ a1, Step μX8_whose μX9_whose Inv S [.int a1] := by
  intro S hI a
  have hI' := hI
  obtain ⟨T, P, N, T1, P1, N1, E, hI⟩ := hI
  obtain ⟨F, hF⟩ := big_F
  have hCW := hI.1
  have hRW := hI.2.1
  have hV := hI.2.2.1
  have hW := hV.1
  rcases win_c (S := S) a 1 60 (by omega) (by omega) with z | ⟨n, h1, h2, rfl, z⟩
  · have e1 : f_X8_whose F S 0 a = some (S, -1) := by rw [u_X8_whose, z]; rfl
    have e2 : f_X9_whose F S 375 a = some (S, -1) := by rw [u_X9_whose, x9_isIn, z]; rfl
    exact stepR hI' (c_X8_whose k_0 e1) (c_X9_whose k_375 e2) (by decide) (by decide)
  have hX := hCW.wx hV hI.tx
  have n4 := hX.2.2.2.2
  obtain ⟨S1, u1, f1⟩ := x8_wh (F := F) (E := E) (by omega) h2 hW (N 0 2) 0 F (-1) none (by omega) (by omega) (fun x h => absurd h (by simp)) hCW.1 hX
  have hR1 : RT S1 376 T := hRW.1.fr (fun k => f1 _ _ (by omega) (by omega))
  obtain ⟨S2, u2, g2, f2⟩ := x9_wh (F := F) (E := E) (v2 := S1.1 376 2) (by omega) h2 hW n4 (N 0 2) 0 F (-1) none (by omega) (by omega) (fun x h => absurd h (by simp)) hR1 ((f1 _ _ (by omega) (by omega)).trans hRW.2.2.1.1) (hI.tx.fr n4 (fun u k c => f1 u k (by omega) (by omega)))
  have e1 := (u_X8_whose (F := F) (S := S) (a1 := nI n)).trans ((congrArg (fun z => if z = true then _ else _) z).trans ((if_pos rfl).trans u1))
  have e2 : f_X9_whose F S1 375 (nI n) = some (S2, whS (fun t => fb_sm (wL (gT (E t) n T)) (gT (E t) n T 0 0)) (N 0 2) 0 (-1) none) := by
    rw [u_X9_whose, x9_isIn, show f_X8_isWithin S1 (nI n) (nI 1) (nI 60) = true from z, if_pos rfl, inb_n (n := 2) (by omega) (by omega), ck_t, nI_clamp (n := 2) (by omega)]
    exact u2
  have fc : ∀ u k, cor u k → S2.1 u k = S1.1 u k := fun u k c => by
    by_cases q : u = 376 ∧ k = 2
    · rw [q.1, q.2]; exact g2
    · exact f2 u k (by unfold cor at c; omega) (by unfold cor at c; omega) (by unfold cor at c; omega) q
  exact stepS (S1 := S1) (S2 := S2) (r := whS (fun t => fb_sm (wL (gT (E t) n T)) (gT (E t) n T 0 0)) (N 0 2) 0 (-1) none) hI' (c_X8_whose k_0 e1) (c_X9_whose k_375 e2) (cor_try f1) fc (by decide) (by decide)
