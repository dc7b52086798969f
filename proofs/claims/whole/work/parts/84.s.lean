/-! ===== day, years ===== -/
theorem FtT.f41 {S S' : mS} (h : FtT 41 S S') : Ft S S' := fun u k a b => h u k (by omega) (by omega)
section
variable {F : Nat} {E : Nat → Tw}
theorem pd_sim (hF : 3000 < F) {n : Nat} (hn : n ≤ 60) (m : Nat) : ∀ (i k : Nat) {T : Tw} {P : Nat → Tw} {N : Tw}, i + m = n → m < k → WV T P N → ∃ T' P' N' j, (∀ S, CW S 40 T P N → TX S E (N 0 2) → ∃ S1, lX8_passDays_2 F 0 (nI n) k S (nI i) = some (S1, nI (i + j)) ∧ CW S1 40 T' P' N' ∧ Fc S S1) ∧ (∀ S, RW S 376 T P N → TX S E (N 0 2) → ∃ S2, lX9_arePassed_2 F 375 (nI n) k S (nI i) = some (S2, decide (j = m)) ∧ RW S2 376 T' P' N' ∧ Fr S S2) ∧ WV T' P' N' ∧ N' 0 2 = N 0 2 ∧ N' 0 5 = N 0 5 ∧ j ≤ m ∧ (T 0 2 + m ≤ 9999 → j = m) := by
  induction m with
  | zero =>
    intro i k T P N hi hk hV
    obtain ⟨k, rfl⟩ : ∃ k', k = k' + 1 := ⟨k - 1, by omega⟩
    refine ⟨T, P, N, 0, fun S hS _ => ⟨S, ?_, hS, Fc.rfl' S⟩, fun S hS _ => ⟨S, ?_, hS, Fr.rfl' S⟩, hV, rfl, rfl, Nat.le_refl _, fun _ => rfl⟩
    · rw [u_X8_passDays_2, if_pos (nI_le (by omega) (by omega))]; rfl
    · rw [u_X9_arePassed_2, if_pos (nI_le (by omega) (by omega))]; rfl
  | succ m ih =>
    intro i k T P N hi hk hV
    obtain ⟨k, rfl⟩ : ∃ k', k = k' + 1 := ⟨k - 1, by omega⟩
    have hW := hV.1
    have w2 := hW.2.2.1
    by_cases q : T 0 2 = 9999
    · refine ⟨T, P, N, 0, fun S hS _ => ⟨S, ?_, hS, Fc.rfl' S⟩, fun S hS _ => ⟨S, ?_, hS, Fr.rfl' S⟩, hV, rfl, rfl, Nat.zero_le _, fun h => by omega⟩
      · have c7 : S.1 41 7 = nI (T 0 2) := hS.1.2.2.1
        rw [u_X8_passDays_2, if_neg (nI_ge (by omega) (by omega)), c7, q, if_pos (by decide)]; rfl
      · rw [u_X9_arePassed_2, if_neg (nI_ge (by omega) (by omega)), inb_n (n := 8) (by omega) (by omega), ck_t, nI_clamp (n := 8) (by omega), hS.1.2.1, q, if_pos rfl]; rfl
    · have hk' := kp_WV hV
      have e5 : kpN N 0 5 = N 0 5 := kpN_e (by omega)
      have e2 : kpN N 0 2 = N 0 2 := kpN_e (by omega)
      have b2 := hV.2.2.1.2.2.1
      have pk := psT_k (tx E (N 0 5)) hW (show T 0 2 < 9999 by omega)
      have hV1 := hk'.t pk.1 pk.2.1 (kp_last hV.2.2.1.1)
      obtain ⟨T', P', N', j, a8, a9, v, n2, n5, jl, jm⟩ := ih (i + 1) k (T := psT (tx E (N 0 5)) T) (P := kpP T P N) (N := kpN N) (by omega) (by omega) hV1
      refine ⟨T', P', N', j + 1, fun S hS hT => ?_, fun S hS hT => ?_, v, n2.trans e2, n5.trans e5, by omega, fun h => by rw [jm (by rw [pk.2.2.1]; omega)]⟩
      · obtain ⟨S1, u1, c1, f1, -⟩ := x7_keep (F := F) hS hV
        have hT1 := hT.fc b2 f1
        have hX := c1.wx hk' (by rw [e2]; exact hT1)
        rw [e5] at hX
        obtain ⟨cl, ct⟩ := CL.of hX.2.2.1 hX.2.2.2.1 hX.2.2.2.2
        obtain ⟨S2, u2, c2, f2⟩ := x3_day (F := F) (by omega) (show 40 ≤ 41 by decide) ct c1.1 hW cl
        have c2' := c1.t hk'.2.2.1.2.1 c2 f2.f41
        obtain ⟨S3, u3, c3, f3⟩ := a8 S2 c2' (by rw [e2]; exact hT1.fc b2 f2.f41.fc)
        have c7 : S.1 41 7 = nI (T 0 2) := hS.1.2.2.1
        refine ⟨S3, ?_, c3, (f1.trans f2.f41.fc).trans f3⟩
        rw [u_X8_passDays_2, if_neg (nI_ge (by omega) (by omega)), c7, if_neg (nI_ge (by omega) (by omega)), u1, bd_s, x8_rule hX, bd_s, u2, bd_s, nI_add, u3, show i + 1 + j = i + (j + 1) by omega]
      · obtain ⟨S1, u1, c1, f1, -⟩ := x9_keep (F := F) hF hS hV
        have f1' : Fr S S1 := fun u k c => f1 u k (by omega)
        have hT1 := hT.fr' b2 f1'
        have hX := c1.rl hk' (by rw [e2]; exact hT1)
        rw [e5] at hX
        obtain ⟨S2, u2, c2, f2⟩ := x9_pass (F := F) (by omega) c1.1 hW hX
        have c2' := c1.t hk' c2 pk.2.1 f2.fq
        obtain ⟨S3, u3, c3, f3⟩ := a9 S2 c2' (by rw [e2]; exact hT1.fr' b2 f2.fq.1)
        refine ⟨S3, ?_, c3, (f1'.trans f2.fq.1).trans f3⟩
        rw [u_X9_arePassed_2, if_neg (nI_ge (by omega) (by omega)), inb_n (n := 8) (by omega) (by omega), ck_t, nI_clamp (n := 8) (by omega), hS.1.2.1, if_neg (nne q (by omega) (by omega)), u1, bd_s, u2, bd_s, nI_add, u3]
        refine congrArg (fun z => some (S3, z)) (decide_eq_decide.mpr ⟨fun h => by omega, fun h => by omega⟩)
end
theorem sim_day {F : Nat} (hF : 3000 < F) {E : Nat → Tw} {T : Tw} {P : Nat → Tw} {N : Tw} (hV : WV T P N) (a : Int32) : Sim (fun S => f_X8_day F S 0 a) (fun S => f_X9_day F S 375 a) E T P N (fun _ _ _ _ => True) := by
  have w2 := hV.1.2.2.1
  let S0 : mS := (fun _ _ => 0, fun _ _ => 0)
  rcases win_c (S := S0) a 1 60 (by omega) (by omega) with z | ⟨n, h1, h2, rfl, z⟩
  · refine Sim.same hV (-1) (fun S hS => ?_) (fun S hS => ?_) trivial
    · rw [u_X8_day, show f_X8_isWithin S a (nI 1) (nI 60) = false from z]; rfl
    · rw [u_X9_day, x9_isIn, show f_X8_isWithin S a (nI 1) (nI 60) = false from z]; rfl
  · by_cases q : T 0 2 + n ≤ 9999
    · obtain ⟨T', P', N', j, a8, a9, v, n2, n5, jl, jm⟩ := pd_sim (F := F) (E := E) hF h2 n 0 F (T := T) (P := P) (N := N) (by omega) (by omega) hV
      have ej := jm q
      refine ⟨T', P', N', nI (T' 0 2 % 20), fun S hS hT => ?_, fun S hS hT => ?_, v, n2, n5, trivial⟩
      · obtain ⟨S1, u1, c1, f1⟩ := a8 S hS hT
        have c7 : S.1 41 7 = nI (T 0 2) := hS.1.2.2.1
        refine ⟨S1, ?_, c1, f1⟩
        show f_X8_day F S 0 (nI n) = _
        rw [u_X8_day, show f_X8_isWithin S (nI n) (nI 1) (nI 60) = true from z, if_pos rfl, c7, nI_add, if_pos (nI_le q (by omega)), u_X8_passDays, u1, bd_s, x6_date c1.1 v.1]
      · obtain ⟨S2, u2, c2, f2⟩ := a9 S hS hT
        refine ⟨S2, ?_, c2, f2⟩
        show f_X9_day F S 375 (nI n) = _
        rw [u_X9_day, x9_isIn, show f_X8_isWithin S (nI n) (nI 1) (nI 60) = true from z, if_pos rfl, inb_n (n := 8) (by omega) (by omega), ck_t, nI_clamp (n := 8) (by omega), hS.1.2.1, nI_add, if_neg (nI_nlt q (by omega)), u_X9_arePassed, u2, bd_s, decide_eq_true ej, if_pos rfl, x9_date c2.1 v.1, bd_s]
    · refine Sim.same hV (-1) (fun S hS => ?_) (fun S hS => ?_) trivial
      · have c7 : S.1 41 7 = nI (T 0 2) := hS.1.2.2.1
        rw [u_X8_day, show f_X8_isWithin S (nI n) (nI 1) (nI 60) = true from z, if_pos rfl, c7, nI_add, if_neg (nI_ge (by omega) (by omega))]
      · rw [u_X9_day, x9_isIn, show f_X8_isWithin S (nI n) (nI 1) (nI 60) = true from z, if_pos rfl, inb_n (n := 8) (by omega) (by omega), ck_t, nI_clamp (n := 8) (by omega), hS.1.2.1, nI_add, if_pos (nI_lt (by omega) (by omega))]
theorem st_day : ∀ S, Inv S → ∀ a1, Step μX8_day μX9_day Inv S [.int a1] := by
  intro S hI a
  obtain ⟨T, P, N, T1, P1, N1, E, hI⟩ := hI
  obtain ⟨F, hF⟩ := big_F
  obtain ⟨S1, S2, r, h1, h2, h3⟩ := (sim_day (F := F) (by omega) hI.2.2.1 a).run hI
  exact stepW (S1 := S1) (S2 := S2) (r := r) (c_X8_day k_0 h1) (c_X9_day k_375 h2) h3 (by decide) (by decide)
/-- a turn by draw -/
def ttT (Et T0 : Tw) : Tw :=
  let x := T0 0 3
  let T := tu T0 0 3 (nx x)
  let h := x % T0 0 0
  if x % 6 = 2 then (if x % 4 = 0 ∧ cdr T (nI h) = true then (hatL h 20 T).1 else T)
  else if x % 6 = 3 then (if x % 3 = 0 ∧ cfg T (nI (x % 20)) (nI h) = true then fgT T (x % 20) h else T)
  else if 4 ≤ x % 6 then (if T0 0 2 < 9999 then psT Et T else T)
  else (if (T0 0 1).testBit h = true then T else knT Et T h)
section
variable {F : Nat} {S : mS} {T : Tw} {E : Nat → Tw} {r n : Nat}
theorem tt_k (Et : Tw) (hW : Wf T) (h0 : 0 < T 0 0) : Wf (ttT Et T) ∧ ttT Et T 0 0 = T 0 0 := by
  have hW1 := hW.x (nx_lt (T 0 3))
  have hh : T 0 3 % T 0 0 < T 0 0 := Nat.mod_lt _ h0
  unfold ttT
  simp only
  split
  · split
    · rename_i c
      rcases cdr_c hW1 (nI (T 0 3 % T 0 0)) with z | ⟨g, hg, e, a, b⟩
      · rw [z] at c; exact absurd c.2 (by decide)
      · have w0 := hW.1
        have eg : T 0 3 % T 0 0 = g := (nI_eq (by omega) (by have : g < T 0 0 := hg; omega)).mp e
        rw [eg]
        exact hat_Wf 20 hW1 hg b
    · exact ⟨hW1, rfl⟩
  · split
    · split
      · exact ⟨fg_lt hW1 hh, rfl⟩
      · exact ⟨hW1, rfl⟩
    · split
      · split
        · rename_i c
          have := psT_k Et hW1 (show tu T 0 3 (nx (T 0 3)) 0 2 < 9999 from c)
          exact ⟨this.1, this.2.1⟩
        · exact ⟨hW1, rfl⟩
      · split
        · exact ⟨hW1, rfl⟩
        · exact kn_Wf Et hW1 hh
theorem x8_tt (hF : 3000 < F) (hC : CT S 41 T) (hW : Wf T) (h0 : 0 < T 0 0) (hX : WX S E r n) : ∃ S', f_X8_takeTurn F S 0 = some S' ∧ CT S' 41 (ttT (tx E r) T) ∧ Ft S S' := by
  have w0 := hW.1
  have w2 := hW.2.2.1
  have w3 := hW.2.2.2.1
  have hW1 := hW.x (nx_lt (T 0 3))
  have hC1 := hC.x (v := nx (T 0 3))
  have hh : T 0 3 % T 0 0 < T 0 0 := Nat.mod_lt _ h0
  have f1 : Ft S (sI S 41 8 (nI (nx (T 0 3)))) := ft_sI (by omega)
  have c5 : (sI S 41 8 (nI (nx (T 0 3)))).1 41 5 = nI (T 0 0) := hC1.1
  have c7 : (sI S 41 8 (nI (nx (T 0 3)))).1 41 7 = nI (T 0 2) := hC1.2.2.1
  have hX1 := hX.ft f1
  generalize hS1 : sI S 41 8 (nI (nx (T 0 3))) = S1 at *
  have e : f_X8_takeTurn F S 0 = lX8_takeTurn_30 F 0 S1 (nI (T 0 3)) (nI (T 0 3 % T 0 0)) := by
    rw [u_X8_takeTurn, x6_drawX hC hW, bd_s, hS1]
    show (if S1.1 41 5 ≤ nI 0 then _ else _) = _
    rw [c5, if_neg (nI_ge h0 (by omega)), nz_n h0 (by omega), ck_t, pk_rem (by omega) h0 (by omega)]
  rw [e, u_X8_takeTurn_30, pk_rem (d := 6) (by omega) (by omega) (by omega), pk_rem (d := 4) (by omega) (by omega) (by omega), pk_rem (d := 3) (by omega) (by omega) (by omega), pk_rem (d := 20) (by omega) (by omega) (by omega)]
  unfold ttT
  simp only
  have ek : ∀ (b : Bool), (T 0 1).testBit (T 0 3 % T 0 0) = b → f_X6_lives S1 41 (nI (T 0 3 % T 0 0)) = !b := fun b hb => by
    rw [x6_livesn hC1 hW1 hh]
    show (!(T 0 1).testBit _) = _
    rw [hb]
  have kn : T 0 3 % 6 < 2 → ∃ S', (if f_X6_lives S1 41 (nI (T 0 3 % T 0 0)) = true then bd (f_X8_knockAt F S1 0 (nI (T 0 3 % T 0 0))) fun q2 => some q2.1 else some S1) = some S' ∧ CT S' 41 (if (T 0 1).testBit (T 0 3 % T 0 0) = true then tu T 0 3 (nx (T 0 3)) else knT (tx E r) (tu T 0 3 (nx (T 0 3))) (T 0 3 % T 0 0)) ∧ Ft S S' := fun _ => by
    cases q : (T 0 1).testBit (T 0 3 % T 0 0)
    · obtain ⟨S2, u2, c2, f2⟩ := x8_kn (F := F) (by omega) hC1 hW1 hX1 hh
      exact ⟨S2, by rw [ek _ q, if_pos (show (!false) = true by decide), u2, bd_s], c2, f1.trans f2⟩
    · exact ⟨S1, by rw [ek _ q, if_neg (by decide)], hC1, f1⟩
  rcases (show T 0 3 % 6 = 0 ∨ T 0 3 % 6 = 1 ∨ T 0 3 % 6 = 2 ∨ T 0 3 % 6 = 3 ∨ 4 ≤ T 0 3 % 6 by omega) with q | q | q | q | q
  · rw [if_pos (by rw [q]), if_neg (show ¬ T 0 3 % 6 = 2 by omega), if_neg (show ¬ T 0 3 % 6 = 3 by omega), if_neg (show ¬ 4 ≤ T 0 3 % 6 by omega)]
    exact kn (by omega)
  · rw [if_neg (nne (show T 0 3 % 6 ≠ 0 by omega) (by omega) (by omega)), if_pos (by rw [q]), if_neg (show ¬ T 0 3 % 6 = 2 by omega), if_neg (show ¬ T 0 3 % 6 = 3 by omega), if_neg (show ¬ 4 ≤ T 0 3 % 6 by omega)]
    exact kn (by omega)
  · rw [if_neg (nne (show T 0 3 % 6 ≠ 0 by omega) (by omega) (by omega)), if_neg (nne (show T 0 3 % 6 ≠ 1 by omega) (by omega) (by omega)), if_pos (show nI (T 0 3 % 6) = nI 2 by rw [q]), if_pos q]
    by_cases q4 : T 0 3 % 4 = 0
    · rw [if_pos (show nI (T 0 3 % 4) = nI 0 by rw [q4]), x6_canD hC1 hW1, bd_s]
      cases cd : cdr (tu T 0 3 (nx (T 0 3))) (nI (T 0 3 % T 0 0))
      · rw [if_neg (by decide), if_neg (fun w => absurd w.2 (by decide))]
        exact ⟨S1, rfl, hC1, f1⟩
      · obtain ⟨g, hg, eg, a, b⟩ := (cdr_c hW1 (nI (T 0 3 % T 0 0))).resolve_left (by rw [cd]; decide)
        have hg' : g < T 0 0 := hg
        have eg' : T 0 3 % T 0 0 = g := (nI_eq (by omega) (by omega)).mp eg
        obtain ⟨S2, u2, c2, f2⟩ := x6_draw (F := F) (h := T 0 3 % T 0 0) 20 F 0 (by omega) (by omega) hC1 hW1 hh (by rw [eg']; exact a) (by rw [eg']; exact b)
        refine ⟨S2, ?_, by rw [if_pos ⟨q4, rfl⟩]; exact c2, f1.trans f2⟩
        rw [if_pos rfl, u_X6_drawDate, u2, bd_s]
    · rw [if_neg (nne q4 (by omega) (by omega)), if_neg (fun w => q4 w.1)]
      exact ⟨S1, rfl, hC1, f1⟩
  · rw [if_neg (nne (show T 0 3 % 6 ≠ 0 by omega) (by omega) (by omega)), if_neg (nne (show T 0 3 % 6 ≠ 1 by omega) (by omega) (by omega)), if_neg (nne (show T 0 3 % 6 ≠ 2 by omega) (by omega) (by omega)), if_pos (show nI (T 0 3 % 6) = nI 3 by rw [q]), if_neg (show ¬ T 0 3 % 6 = 2 by omega), if_pos q]
    by_cases q4 : T 0 3 % 3 = 0
    · rw [if_pos (show nI (T 0 3 % 3) = nI 0 by rw [q4]), x6_canF hC1 hW1, bd_s]
      cases cf : cfg (tu T 0 3 (nx (T 0 3))) (nI (T 0 3 % 20)) (nI (T 0 3 % T 0 0))
      · rw [if_neg (by decide), if_neg (fun w => absurd w.2 (by decide))]
        exact ⟨S1, rfl, hC1, f1⟩
      · obtain ⟨S2, u2, c2, f2⟩ := x6_drop (F := F) hC1 hW1 (show T 0 3 % 20 < 20 by omega) hh cf
        refine ⟨S2, ?_, by rw [if_pos ⟨q4, rfl⟩]; exact c2, f1.trans f2⟩
        rw [if_pos rfl, u2, bd_s]
    · rw [if_neg (nne q4 (by omega) (by omega)), if_neg (fun w => q4 w.1)]
      exact ⟨S1, rfl, hC1, f1⟩
  · rw [if_neg (nne (show T 0 3 % 6 ≠ 0 by omega) (by omega) (by omega)), if_neg (nne (show T 0 3 % 6 ≠ 1 by omega) (by omega) (by omega)), if_neg (nne (show T 0 3 % 6 ≠ 2 by omega) (by omega) (by omega)), if_neg (nne (show T 0 3 % 6 ≠ 3 by omega) (by omega) (by omega)), if_neg (show ¬ T 0 3 % 6 = 2 by omega), if_neg (show ¬ T 0 3 % 6 = 3 by omega), if_pos q, c7]
    by_cases q4 : T 0 2 < 9999
    · obtain ⟨cl, ct⟩ := CL.of hX1.2.2.1 hX1.2.2.2.1 hX1.2.2.2.2
      obtain ⟨S2, u2, c2, f2⟩ := x3_day (F := F) (by omega) (show 40 ≤ 41 by decide) ct hC1 hW1 cl
      exact ⟨S2, by rw [if_neg (nI_ge q4 (by omega)), x8_rule hX1, bd_s, u2, bd_s], by rw [if_pos q4]; exact c2, f1.trans f2.f41⟩
    · exact ⟨S1, by rw [if_pos (nI_le (by omega) (by omega))], by rw [if_neg q4]; exact hC1, f1⟩
theorem x9_tt {Et : Tw} (hF : 3000 < F) (hR : RT S 376 T) (hW : Wf T) (h0 : 0 < T 0 0) (hL : RLw S r Et) : ∃ S', (bd (f_X9_anew F S 375) fun q3 => f_X9_happens F q3 375 (nI (T 0 3))) = some S' ∧ RT S' 376 (ttT Et T) ∧ Fq S S' := by
  have w0 := hW.1
  have w2 := hW.2.2.1
  have w3 := hW.2.2.2.1
  have hW1 := hW.x (nx_lt (T 0 3))
  have hR1 := hR.x (v := nx (T 0 3))
  have hh : T 0 3 % T 0 0 < T 0 0 := Nat.mod_lt _ h0
  have f1 : Fq S (sI S 376 9 (nI (nx (T 0 3)))) := fq_sI (by omega)
  have c5 : (sI S 376 9 (nI (nx (T 0 3)))).1 376 0 = nI (T 0 0) := hR1.1
  have c7 : (sI S 376 9 (nI (nx (T 0 3)))).1 376 8 = nI (T 0 2) := hR1.2.1
  have hL1 : RLw (sI S 376 9 (nI (nx (T 0 3)))) r Et := hL.fr (fun u k c => sq_off (by omega))
  rw [x9_anew hR hW, bd_s]
  generalize hS1 : sI S 376 9 (nI (nx (T 0 3))) = S1 at *
  rw [u_X9_happens, inb_n (n := 0) (by omega) (by omega), ck_t, nI_clamp (n := 0) (by omega), c5, nz_n h0 (by omega), ck_t, pk_rem (d := T 0 0) (by omega) h0 (by omega), pk_rem (d := 6) (by omega) (by omega) (by omega), pk_rem (d := 4) (by omega) (by omega) (by omega), pk_rem (d := 3) (by omega) (by omega) (by omega), pk_rem (d := 20) (by omega) (by omega) (by omega), inb_n (n := 8) (by omega) (by omega), ck_t, nI_clamp (n := 8) (by omega), c7]
  unfold ttT
  simp only
  have kn : ∃ S', (bd (f_X9_isHere F S1 375 (nI (T 0 3 % T 0 0))) fun q20 => if q20 = true then bd (f_X9_knockNow F S1 375 (nI (T 0 3 % T 0 0))) fun q21 => some q21.1 else some S1) = some S' ∧ RT S' 376 (if (T 0 1).testBit (T 0 3 % T 0 0) = true then tu T 0 3 (nx (T 0 3)) else knT Et (tu T 0 3 (nx (T 0 3))) (T 0 3 % T 0 0)) ∧ Fq S S' := by
    rw [x9_isHeren hR1 hW1 hh, bd_s]
    show ∃ S', (if (!(T 0 1).testBit (T 0 3 % T 0 0)) = true then _ else _) = _ ∧ _
    cases q : (T 0 1).testBit (T 0 3 % T 0 0)
    · obtain ⟨S2, u2, c2, f2⟩ := x9_kn (F := F) (by omega) hR1 hW1 hL1 hh
      exact ⟨S2, by rw [if_pos (show (!false) = true by decide), u2, bd_s], c2, f1.trans f2⟩
    · exact ⟨S1, by rw [if_neg (by decide)], hR1, f1⟩
  have ps : 4 ≤ T 0 3 % 6 → ∃ S', (if nI 9999 ≤ nI (T 0 2) then some S1 else bd (f_X9_pass F S1 375) fun q14 => some q14) = some S' ∧ RT S' 376 (if T 0 2 < 9999 then psT Et (tu T 0 3 (nx (T 0 3))) else tu T 0 3 (nx (T 0 3))) ∧ Fq S S' := fun _ => by
    by_cases q4 : T 0 2 < 9999
    · obtain ⟨S2, u2, c2, f2⟩ := x9_pass (F := F) (by omega) hR1 hW1 hL1
      exact ⟨S2, by rw [if_neg (nI_ge q4 (by omega)), u2, bd_s], by rw [if_pos q4]; exact c2, f1.trans f2.fq⟩
    · exact ⟨S1, by rw [if_pos (nI_le (by omega) (by omega))], by rw [if_neg q4]; exact hR1, f1⟩
  rcases (show T 0 3 % 6 = 0 ∨ T 0 3 % 6 = 1 ∨ T 0 3 % 6 = 2 ∨ T 0 3 % 6 = 3 ∨ T 0 3 % 6 = 4 ∨ T 0 3 % 6 = 5 by omega) with q | q | q | q | q | q
  · rw [if_neg (nne (show T 0 3 % 6 ≠ 2 by omega) (by omega) (by omega)), if_neg (nne (show T 0 3 % 6 ≠ 3 by omega) (by omega) (by omega)), if_neg (nne (show T 0 3 % 6 ≠ 4 by omega) (by omega) (by omega)), if_neg (nne (show T 0 3 % 6 ≠ 5 by omega) (by omega) (by omega)), if_neg (show ¬ T 0 3 % 6 = 2 by omega), if_neg (show ¬ T 0 3 % 6 = 3 by omega), if_neg (show ¬ 4 ≤ T 0 3 % 6 by omega)]
    exact kn
  · rw [if_neg (nne (show T 0 3 % 6 ≠ 2 by omega) (by omega) (by omega)), if_neg (nne (show T 0 3 % 6 ≠ 3 by omega) (by omega) (by omega)), if_neg (nne (show T 0 3 % 6 ≠ 4 by omega) (by omega) (by omega)), if_neg (nne (show T 0 3 % 6 ≠ 5 by omega) (by omega) (by omega)), if_neg (show ¬ T 0 3 % 6 = 2 by omega), if_neg (show ¬ T 0 3 % 6 = 3 by omega), if_neg (show ¬ 4 ≤ T 0 3 % 6 by omega)]
    exact kn
  · rw [if_pos (show nI (T 0 3 % 6) = nI 2 by rw [q]), if_pos q]
    by_cases q4 : T 0 3 % 4 = 0
    · rw [if_pos (show nI (T 0 3 % 4) = nI 0 by rw [q4]), x9_canD (by omega) hR1 hW1, bd_s]
      cases cd : cdr (tu T 0 3 (nx (T 0 3))) (nI (T 0 3 % T 0 0))
      · rw [if_neg (by decide), if_neg (fun w => absurd w.2 (by decide))]
        exact ⟨S1, rfl, hR1, f1⟩
      · obtain ⟨S2, u2, c2, f2⟩ := x9_hatN (F := F) (h := T 0 3 % T 0 0) 20 F 0 (by omega) (by omega) hR1 hW1 hh
        refine ⟨S2, ?_, by rw [if_pos ⟨q4, rfl⟩]; exact c2, f1.trans f2⟩
        rw [if_pos rfl, u_X9_hatNow, u2, bd_s]
    · rw [if_neg (nne q4 (by omega) (by omega)), if_neg (fun w => q4 w.1)]
      exact ⟨S1, rfl, hR1, f1⟩
  · rw [if_neg (nne (show T 0 3 % 6 ≠ 2 by omega) (by omega) (by omega)), if_pos (show nI (T 0 3 % 6) = nI 3 by rw [q]), if_neg (show ¬ T 0 3 % 6 = 2 by omega), if_pos q]
    by_cases q4 : T 0 3 % 3 = 0
    · rw [if_pos (show nI (T 0 3 % 3) = nI 0 by rw [q4]), x9_canF hR1 hW1, bd_s]
      cases cf : cfg (tu T 0 3 (nx (T 0 3))) (nI (T 0 3 % 20)) (nI (T 0 3 % T 0 0))
      · rw [if_neg (by decide), if_neg (fun w => absurd w.2 (by decide))]
        exact ⟨S1, rfl, hR1, f1⟩
      · obtain ⟨S2, u2, c2, f2⟩ := x9_forg (F := F) hR1 hW1 (show T 0 3 % 20 < 20 by omega) hh
        refine ⟨S2, ?_, by rw [if_pos ⟨q4, rfl⟩]; exact c2, f1.trans f2⟩
        rw [if_pos rfl, u2, bd_s]
    · rw [if_neg (nne q4 (by omega) (by omega)), if_neg (fun w => q4 w.1)]
      exact ⟨S1, rfl, hR1, f1⟩
  · rw [if_neg (nne (show T 0 3 % 6 ≠ 2 by omega) (by omega) (by omega)), if_neg (nne (show T 0 3 % 6 ≠ 3 by omega) (by omega) (by omega)), if_pos (show nI (T 0 3 % 6) = nI 4 by rw [q]), if_neg (show ¬ T 0 3 % 6 = 2 by omega), if_neg (show ¬ T 0 3 % 6 = 3 by omega), if_pos (show 4 ≤ T 0 3 % 6 by omega)]
    exact ps (by omega)
  · rw [if_neg (nne (show T 0 3 % 6 ≠ 2 by omega) (by omega) (by omega)), if_neg (nne (show T 0 3 % 6 ≠ 3 by omega) (by omega) (by omega)), if_neg (nne (show T 0 3 % 6 ≠ 4 by omega) (by omega) (by omega)), if_pos (show nI (T 0 3 % 6) = nI 5 by rw [q]), if_neg (show ¬ T 0 3 % 6 = 2 by omega), if_neg (show ¬ T 0 3 % 6 = 3 by omega), if_pos (show 4 ≤ T 0 3 % 6 by omega)]
    exact ps (by omega)
/-- turns -/
def yrT (Et : Tw) : Nat → Tw → Tw
  | 0, T => T
  | m + 1, T => yrT Et m (ttT Et T)
theorem yr_k (Et : Tw) (m : Nat) : ∀ {T : Tw}, Wf T → 0 < T 0 0 → Wf (yrT Et m T) ∧ yrT Et m T 0 0 = T 0 0 := by
  induction m with
  | zero => exact fun {T} hW _ => ⟨hW, rfl⟩
  | succ m ih =>
    intro T hW h0
    have t := tt_k Et hW h0
    have := ih t.1 (by rw [t.2]; exact h0)
    exact ⟨this.1, this.2.trans t.2⟩
theorem x8_yr (hF : 3000 < F) {a1 : Int32} {nn : Nat} (hn : nn ≤ 40) (m : Nat) : ∀ (i k : Nat) {S : mS} {T : Tw}, i + m = nn → m < k → CT S 41 T → Wf T → 0 < T 0 0 → WX S E r n → ∃ S', lX8_years_62 F 0 a1 (nI nn) k S (nI i) = some (S', nI (yrT (tx E r) m T 0 2)) ∧ CT S' 41 (yrT (tx E r) m T) ∧ Ft S S' := by
  induction m with
  | zero =>
    intro i k S T hi hk hC hW h0 hX
    obtain ⟨k, rfl⟩ : ∃ k', k = k' + 1 := ⟨k - 1, by omega⟩
    have c7 : S.1 41 7 = nI (T 0 2) := hC.2.2.1
    exact ⟨S, by rw [u_X8_years_62, if_pos (nI_le (by omega) (by omega)), c7]; rfl, hC, Ft.rfl' S⟩
  | succ m ih =>
    intro i k S T hi hk hC hW h0 hX
    obtain ⟨k, rfl⟩ : ∃ k', k = k' + 1 := ⟨k - 1, by omega⟩
    have t := tt_k (tx E r) hW h0
    obtain ⟨S1, u1, c1, f1⟩ := x8_tt hF hC hW h0 hX
    obtain ⟨S2, u2, c2, f2⟩ := ih (i + 1) k (T := ttT (tx E r) T) (by omega) (by omega) c1 t.1 (by rw [t.2]; exact h0) (hX.ft f1)
    exact ⟨S2, by rw [u_X8_years_62, if_neg (nI_ge (by omega) (by omega)), u1, bd_s, nI_add, u2]; rfl, c2, f1.trans f2⟩
theorem x9_yr {Et : Tw} (hF : 3000 < F) {a1 : Int32} {nn : Nat} (hn : nn ≤ 40) (m : Nat) : ∀ (i k : Nat) {S : mS} {T : Tw}, i + m = nn → m < k → RT S 376 T → Wf T → 0 < T 0 0 → RLw S r Et → ∃ S', lX9_years_52 F 375 a1 (nI nn) k S (nI i) = some (S', nI (yrT Et m T 0 2)) ∧ RT S' 376 (yrT Et m T) ∧ Fq S S' := by
  induction m with
  | zero =>
    intro i k S T hi hk hR hW h0 hL
    obtain ⟨k, rfl⟩ : ∃ k', k = k' + 1 := ⟨k - 1, by omega⟩
    exact ⟨S, by rw [u_X9_years_52, if_pos (nI_le (by omega) (by omega)), inb_n (n := 8) (by omega) (by omega), ck_t, nI_clamp (n := 8) (by omega), hR.2.1]; rfl, hR, Fq.rfl' S⟩
  | succ m ih =>
    intro i k S T hi hk hR hW h0 hL
    obtain ⟨k, rfl⟩ : ∃ k', k = k' + 1 := ⟨k - 1, by omega⟩
    have t := tt_k Et hW h0
    obtain ⟨S1, u1, c1, f1⟩ := x9_tt hF hR hW h0 hL
    obtain ⟨S2, u2, c2, f2⟩ := ih (i + 1) k (T := ttT Et T) (by omega) (by omega) c1 t.1 (by rw [t.2]; exact h0) (hL.fr (fun u k c => by
      rcases c with c | c
      · rw [c.1, c.2]; exact f1.2 2 (by omega)
      · rw [c]; exact f1.1 _ _ (by omega)))
    refine ⟨S2, ?_, c2, f1.trans f2⟩
    rw [x9_anew hR hW, bd_s] at u1
    rw [u_X9_years_52, if_neg (nI_ge (by omega) (by omega)), inb_n (n := 9) (by omega) (by omega), ck_t, nI_clamp (n := 9) (by omega), hR.2.2.1, x9_anew hR hW, bd_s, u1, bd_s, nI_add, u2]
    rfl
end
theorem sim_years {F : Nat} (hF : 3000 < F) {E : Nat → Tw} {T : Tw} {P : Nat → Tw} {N : Tw} (hV : WV T P N) (a b : Int32) : Sim (fun S => f_X8_years F S 0 a b) (fun S => f_X9_years F S 375 a b) E T P N (fun _ _ _ _ => True) := by
  have hW := hV.1
  have w0 := hW.1
  let S0 : mS := (fun _ _ => 0, fun _ _ => 0)
  rcases win_c (S := S0) a 0 9999 (by omega) (by omega) with z | ⟨sd, -, hsd, rfl, z⟩
  · refine Sim.same hV (-1) (fun S hS => ?_) (fun S hS => ?_) trivial
    · rw [u_X8_years, show f_X8_isWithin S a (nI 0) (nI 9999) = false from z]; rfl
    · rw [u_X9_years, x9_isIn, show f_X8_isWithin S a (nI 0) (nI 9999) = false from z]; rfl
  rcases win_c (S := S0) b 1 40 (by omega) (by omega) with z2 | ⟨m, h1, h2, rfl, z2⟩
  · refine Sim.same hV (-1) (fun S hS => ?_) (fun S hS => ?_) trivial
    · rw [u_X8_years, show f_X8_isWithin S (nI sd) (nI 0) (nI 9999) = true from z, if_pos rfl, show f_X8_isWithin S b (nI 1) (nI 40) = false from z2]; rfl
    · rw [u_X9_years, x9_isIn, x9_isIn, show f_X8_isWithin S (nI sd) (nI 0) (nI 9999) = true from z, if_pos rfl, show f_X8_isWithin S b (nI 1) (nI 40) = false from z2]; rfl
  by_cases q : T 0 0 = 0
  · refine Sim.same hV (-1) (fun S hS => ?_) (fun S hS => ?_) trivial
    · have c5 : S.1 41 5 = nI (T 0 0) := hS.1.1
      rw [u_X8_years, show f_X8_isWithin S (nI sd) (nI 0) (nI 9999) = true from z, if_pos rfl, show f_X8_isWithin S (nI m) (nI 1) (nI 40) = true from z2, if_pos rfl, c5, q, if_pos rfl]
    · rw [u_X9_years, x9_isIn, x9_isIn, show f_X8_isWithin S (nI sd) (nI 0) (nI 9999) = true from z, if_pos rfl, show f_X8_isWithin S (nI m) (nI 1) (nI 40) = true from z2, if_pos rfl, inb_n (n := 0) (by omega) (by omega), ck_t, nI_clamp (n := 0) (by omega), hS.1.1, q, if_pos rfl]
  · have hk := kp_WV hV
    have e5 : kpN N 0 5 = N 0 5 := kpN_e (by omega)
    have e2 : kpN N 0 2 = N 0 2 := kpN_e (by omega)
    have hW1 := hW.x (show sd * 2 + 131 < 30431 by omega)
    have yk := yr_k (tx E (N 0 5)) m hW1 (show 0 < T 0 0 by omega)
    refine Sim.kept (g8 := fun q1 => lX8_years_62 F 0 (nI sd) (nI m) F (sI q1 41 8 (nI (sd * 2 + 131))) (nI 0)) (g9 := fun q2 => lX9_years_52 F 375 (nI sd) (nI m) F (sI q2 376 9 (nI (sd * 2 + 131))) (nI 0)) (T' := yrT (tx E (N 0 5)) m (tu T 0 3 (sd * 2 + 131))) (r := nI (yrT (tx E (N 0 5)) m (tu T 0 3 (sd * 2 + 131)) 0 2)) hF hV (fun S hS => ?_) (fun S hS => ?_) (fun S hS hT => ?_) (fun S hS hT => ?_) yk.1 yk.2 trivial
    · have c5 : S.1 41 5 = nI (T 0 0) := hS.1.1
      show f_X8_years F S 0 (nI sd) (nI m) = _
      rw [u_X8_years, show f_X8_isWithin S (nI sd) (nI 0) (nI 9999) = true from z, if_pos rfl, show f_X8_isWithin S (nI m) (nI 1) (nI 40) = true from z2, if_pos rfl, c5, if_neg (nne q (by omega) (by omega)), pk_mul, nI_add]
      rfl
    · show f_X9_years F S 375 (nI sd) (nI m) = _
      rw [u_X9_years, x9_isIn, x9_isIn, show f_X8_isWithin S (nI sd) (nI 0) (nI 9999) = true from z, if_pos rfl, show f_X8_isWithin S (nI m) (nI 1) (nI 40) = true from z2, if_pos rfl, inb_n (n := 0) (by omega) (by omega), ck_t, nI_clamp (n := 0) (by omega), hS.1.1, if_neg (nne q (by omega) (by omega)), inb_n (n := 9) (by omega) (by omega), pk_mul, nI_add, nI_clamp (n := 9) (by omega)]
      rfl
    · have hX := hS.wx hk (by rw [e2]; exact hT)
      rw [e5] at hX
      have fx : Ft S (sI S 41 8 (nI (sd * 2 + 131))) := ft_sI (by omega)
      obtain ⟨S', u, c, f⟩ := x8_yr (F := F) (a1 := nI sd) hF h2 m 0 F (by omega) (by omega) (hS.1.x (v := sd * 2 + 131)) hW1 (show 0 < T 0 0 by omega) (hX.ft fx)
      exact ⟨S', u, c, fx.trans f⟩
    · have hX := hS.rl hk (by rw [e2]; exact hT)
      rw [e5] at hX
      have fx : Fq S (sI S 376 9 (nI (sd * 2 + 131))) := fq_sI (by omega)
      obtain ⟨S', u, c, f⟩ := x9_yr (F := F) (a1 := nI sd) hF h2 m 0 F (by omega) (by omega) (hS.1.x (v := sd * 2 + 131)) hW1 (show 0 < T 0 0 by omega) (hX.fr (fun u k c => sq_off (by omega)))
      exact ⟨S', u, c, fx.trans f⟩
theorem st_years : ∀ S, Inv S → ∀ a1 a2, Step μX8_years μX9_years Inv S [.int a1, .int a2] := by
  intro S hI a b
  obtain ⟨T, P, N, T1, P1, N1, E, hI⟩ := hI
  obtain ⟨F, hF⟩ := big_F
  obtain ⟨S1, S2, r, h1, h2, h3⟩ := (sim_years (F := F) (by omega) hI.2.2.1 a b).run hI
  exact stepW (S1 := S1) (S2 := S2) (r := r) (c_X8_years k_0 h1) (c_X9_years k_375 h2) h3 (by decide) (by decide)
