/-! ===== appointments: the members, the step ===== -/
theorem mem_ex (h : Nat) : ∀ j, j ≤ 7 → ∃ n mem, n ≤ j ∧ asc n mem ∧ (∀ i, i < n → mem i < j) ∧ ∀ x, x < j → (h.testBit x = true ↔ ∃ i, i < n ∧ mem i = x)
  | 0, _ => ⟨0, fun _ => 0, Nat.le_refl _, ⟨fun i j _ b => absurd b (Nat.not_lt_zero _), fun i b => absurd b (Nat.not_lt_zero _)⟩, fun i b => absurd b (Nat.not_lt_zero _), fun i b => absurd b (Nat.not_lt_zero _)⟩
  | j + 1, hj => by
    obtain ⟨n, mem, a, b, c, d⟩ := mem_ex h j (by omega)
    cases hb : h.testBit j
    · refine ⟨n, mem, by omega, b, fun i hi => Nat.lt_succ_of_lt (c i hi), fun x hx => ?_⟩
      by_cases e : x = j
      · subst e
        rw [hb]
        refine ⟨fun z => absurd z (by decide), fun ⟨i, z1, z2⟩ => ?_⟩
        have := c i z1
        omega
      · exact d x (by omega)
    · refine ⟨n + 1, fun i => if i = n then j else mem i, by omega, ⟨fun i i' h1 h2 => ?_, fun i hi => ?_⟩, fun i hi => ?_, fun x hx => ?_⟩
      · show (if i = n then j else mem i) < (if i' = n then j else mem i')
        rw [if_neg (by omega : ¬ i = n)]
        split
        · exact c i (by omega)
        · exact b.1 i i' h1 (by omega)
      · show (if i = n then j else mem i) < 7
        split
        · omega
        · exact b.2 i (by omega)
      · show (if i = n then j else mem i) < j + 1
        split
        · omega
        · have := c i (by omega); omega
      · by_cases e : x = j
        · subst e
          exact ⟨fun _ => ⟨n, by omega, if_pos rfl⟩, fun _ => hb⟩
        · rw [d x (by omega)]
          constructor
          · rintro ⟨i, z1, z2⟩
            exact ⟨i, by omega, (if_neg (by omega)).trans z2⟩
          · rintro ⟨i, z1, z2⟩
            have z2 : (if i = n then j else mem i) = x := z2
            by_cases y : i = n
            · rw [if_pos y] at z2; omega
            · rw [if_neg y] at z2
              exact ⟨i, by omega, z2⟩
section
variable {F : Nat} {T : Tw} {n : Nat} {mem : Nat → Nat}
theorem x9_lm (hW : Wf T) (hn : n ≤ 7) (hA : asc n mem) (hmem : ∀ i, i < n → mem i < T 0 0) {h : Nat} (hh : h < 128) (hB : ∀ x, x < 7 → (h.testBit x = true ↔ ∃ i, i < n ∧ mem i = x)) (q : Nat) : ∀ (j k c : Nat) {S : mS}, j + q = T 0 0 → q < k → c ≤ n → (∀ i, i < n → (mem i < j ↔ i < c)) → RT S 376 T → (∀ i, i < c → S.1 386 i = nI (mem i)) → ∃ S', lX9_layMembers_4 F 375 (nI h) k S (nI c) (nI j) = some (S', nI n) ∧ (∀ i, i < n → S'.1 386 i = nI (mem i)) ∧ ∀ u k, u ≠ 386 → S'.1 u k = S.1 u k := by
  have w0 := hW.1
  induction q with
  | zero =>
    intro j k c S hj hk hc hI hR hM
    obtain ⟨k, rfl⟩ : ∃ k', k = k' + 1 := ⟨k - 1, by omega⟩
    have r0 : S.1 376 0 = nI (T 0 0) := hR.1
    have e : c = n := by
      rcases Nat.lt_or_ge c n with z | z
      · have z1 := (hI c z).mp (by have := hmem c z; omega)
        omega
      · omega
    subst e
    refine ⟨S, ?_, hM, fun _ _ _ => rfl⟩
    rw [u_X9_layMembers_4]
    simp (disch := omega) only [ck_t, bd_s, ↓stp_s, inb_n, nI_clamp, nI_add, pk_mul, pk_div, pk_sub, nrem, nI_leI, nI_ltI, nI_eq, n_m1, m1_n, m1_lt, n_lt_m1, n_le_m1, m1_le, m1_e1, m2_n, if_true, if_false, if_pos, if_neg, r0]
  | succ q ih =>
    intro j k c S hj hk hc hI hR hM
    obtain ⟨k, rfl⟩ : ∃ k', k = k' + 1 := ⟨k - 1, by omega⟩
    have r0 : S.1 376 0 = nI (T 0 0) := hR.1
    cases hb : h.testBit j
    · obtain ⟨S', a, b, d⟩ := ih (j + 1) k c (S := S) (by omega) (by omega) hc (fun i hi => by
        rw [← hI i hi]
        have z : mem i ≠ j := fun z => by
          have := (hB j (by omega)).mpr ⟨i, hi, z⟩
          rw [hb] at this
          exact absurd this (by decide)
        omega) hR hM
      refine ⟨S', ?_, b, d⟩
      rw [u_X9_layMembers_4]
      simp (disch := omega) only [ck_t, bd_s, ↓stp_s, inb_n, nI_clamp, nI_add, pk_mul, pk_div, pk_sub, nrem, nI_leI, nI_ltI, nI_eq, n_m1, m1_n, m1_lt, n_lt_m1, n_le_m1, m1_le, m1_e1, m2_n, if_true, if_false, if_pos, if_neg, r0, x9_has, hb, Bool.false_ne_true]
      exact a
    · obtain ⟨i, i1, i2⟩ := (hB j (by omega)).mp hb
      have z0 : c ≤ i := by
        rcases Nat.lt_or_ge i c with z | z
        · have := (hI i i1).mpr z; omega
        · exact z
      have z1 : i = c := by
        rcases Nat.lt_or_ge c i with z | z
        · have y1 := hA.1 c i z i1
          have y2 := (hI c (by omega)).mp (by omega)
          omega
        · omega
      subst z1
      obtain ⟨S', a, b, d⟩ := ih (j + 1) k (i + 1) (S := sI S 386 i (nI j)) (by omega) (by omega) (by omega) (fun x hx => by
        have y1 := hI x hx
        constructor
        · intro y
          by_cases y2 : mem x = j
          · have := hA.inj hx i1 (y2.trans i2.symm); omega
          · have := y1.mp (by omega); omega
        · intro y
          by_cases y2 : x = i
          · rw [y2, i2]; omega
          · have := y1.mpr (by omega); omega) (hR.fr (fun k => sq_u (by decide))) (fun x hx => by
        by_cases y2 : x = i
        · rw [y2, sq_hit, i2]
        · rw [sq_off (Or.inr y2)]; exact hM x (by omega))
      refine ⟨S', ?_, b, fun u k hu => (d u k hu).trans (sq_u hu)⟩
      rw [u_X9_layMembers_4]
      simp (disch := omega) only [ck_t, bd_s, ↓stp_s, inb_n, nI_clamp, nI_add, pk_mul, pk_div, pk_sub, nrem, nI_leI, nI_ltI, nI_eq, n_m1, m1_n, m1_lt, n_lt_m1, n_le_m1, m1_le, m1_e1, m2_n, if_true, if_false, if_pos, if_neg, r0, x9_has, hb]
      exact a
theorem x9_ah {S : mS} (hR : RT S 376 T) (hW : Wf T) {h : Nat} (hh : h < 128) (q : Nat) : ∀ (j k : Nat), j + q = 7 → q < k → ∃ b, lX9_areHere_2 F 375 (nI h) k S (nI j) = some b ∧ (b = true ↔ ∀ i, j ≤ i → i < 7 → h.testBit i = true → lvs T (nI i) = true) := by
  induction q with
  | zero =>
    intro j k hj hk
    obtain ⟨k, rfl⟩ : ∃ k', k = k' + 1 := ⟨k - 1, by omega⟩
    exact ⟨true, by rw [u_X9_areHere_2, if_pos (nI_le (by omega) (by omega))], fun _ i a b => by omega, fun _ => rfl⟩
  | succ q ih =>
    intro j k hj hk
    obtain ⟨k, rfl⟩ : ∃ k', k = k' + 1 := ⟨k - 1, by omega⟩
    obtain ⟨b, e1, e2⟩ := ih (j + 1) k (by omega) (by omega)
    rw [u_X9_areHere_2, if_neg (nI_ge (by omega) (by omega)), x9_has S (by omega) (by omega), x9_isHere hR hW, bd_s, nI_add, e1]
    have key : (lvs T (nI j) = true ∨ h.testBit j = false) → (b = true ↔ ∀ i, j ≤ i → i < 7 → h.testBit i = true → lvs T (nI i) = true) := fun z => e2.trans ⟨fun y i a b c => by
      by_cases e : i = j
      · subst e
        rcases z with z | z
        · exact z
        · rw [z] at c; exact absurd c (by decide)
      · exact y i (by omega) b c, fun y i a b c => y i (by omega) b c⟩
    cases hb : h.testBit j
    · exact ⟨b, if_neg Bool.false_ne_true, key (Or.inr hb)⟩
    · cases hl : lvs T (nI j)
      · refine ⟨false, by rw [if_pos rfl, if_neg Bool.false_ne_true], fun z => absurd z (by decide), fun y => ?_⟩
        have := y j (Nat.le_refl _) (by omega) hb
        rw [hl] at this
        exact absurd this (by decide)
      · exact ⟨b, by rw [if_pos rfl, if_pos rfl], key (Or.inl hl)⟩
end
theorem all_n (a : Int32) : ∃ x, a = nI x := ⟨a.toBitVec.toNat, Int32.toBitVec_inj.1 (by
  show a.toBitVec = BitVec.ofNat 32 a.toBitVec.toNat
  exact (BitVec.ofNat_toNat 32 a.toBitVec ▸ (BitVec.setWidth_eq a.toBitVec).symm))⟩
theorem pcf_full : ∀ n, n ≤ 7 → pcf 20 (2 ^ n - 1) = n := fun n hn => (by decide : ∀ n, n < 8 → pcf 20 (2 ^ n - 1) = n) n (by omega)
theorem sub_n {a : Int32} {L : Nat} (hL : L < 128) (h : a &&& (nI L ^^^ (-1 : Int32)) = nI 0) : ∃ m, m < 128 ∧ a = nI m := by
  obtain ⟨x, rfl⟩ := all_n a
  refine ⟨x &&& L, Nat.lt_of_le_of_lt Nat.and_le_right hL, ?_⟩
  rw [← nx_and]
  refine b_ext (fun i hi => ?_)
  have h1 := congrArg (fun z => bt z i) h
  simp only [b_and, b_xor, b_m1 i hi] at h1
  rw [b_and]
  have h0 : bt (nI 0) i = false := b_0 i
  rw [h0] at h1
  cases h2 : bt (nI x) i
  · rfl
  · rw [h2] at h1
    cases h3 : bt (nI L) i
    · rw [h3] at h1; exact absurd h1 (by decide)
    · rfl
theorem st_appointments : ∀ S, Inv S → ∀ a1 a2, Step μX8_appointments μX9_appointments Inv S [.int a1, .int a2] := by
  intro S hI a1 a2
  obtain ⟨T, P, N, hCW, hRW, hWV, hC, hR, hW⟩ := hI.t
  obtain ⟨F, hF⟩ := big_F
  have w0 := hW.1
  have w2 := hW.2.2.1
  have w4 := hW.2.2.2.2.1
  have c5 : S.1 41 5 = nI (T 0 0) := hC.1
  have c7 : S.1 41 7 = nI (T 0 2) := hC.2.2.1
  have cs : ∀ h, h < T 0 0 → S.1 42 h = nI (T 1 h) := hC.2.2.2.2.2.1
  have r0 : S.1 376 0 = nI (T 0 0) := hR.1
  have r8 : S.1 376 8 = nI (T 0 2) := hR.2.1
  have hL : mkp (fun h => !(T 0 1).testBit h) (T 0 0) < 128 := mkp_lt7 _ w0
  have no : f_X8_appointments F S 0 a1 a2 = some (S, -2) → f_X9_appointments F S 375 a1 a2 = some (S, -2) → Step μX8_appointments μX9_appointments Inv S [.int a1, .int a2] := fun e1 e2 => stepR hI (c_X8_appointments k_0 e1) (c_X9_appointments k_375 e2) (by decide) (by decide)
  rcases win_c (S := S) a1 1 127 (by decide) (by decide) with z | ⟨h, h1, h2, rfl, z⟩
  · refine no ?_ ?_
    · rw [u_X8_appointments, x6_living hC hW]
      by_cases c : a1 &&& (nI (mkp (fun h => !(T 0 1).testBit h) (T 0 0)) ^^^ (-1 : Int32)) = nI 0
      · rw [if_pos c]
        obtain ⟨m, m1, rfl⟩ := sub_n hL c
        have m0 : m = 0 := by
          rw [win_n (by decide) (by decide) (by omega)] at z
          have := of_decide_eq_false z
          omega
        subst m0
        rw [bc_n (by omega), pcf_0, win_n (by decide) (by decide) (by decide)]
        rfl
      · rw [if_neg c]
    · rw [u_X9_appointments, x9_isIn, z]
      rfl
  have hp : pcf 20 h < 2 ^ 31 := Nat.lt_of_le_of_lt (pcf_le 20 h) (by decide)
  have hp1 : 1 ≤ pcf 20 h := by
    rcases Nat.eq_zero_or_pos (pcf 20 h) with e | e
    · have := pcf_zero (k := 20) (n := h) (by omega) e; omega
    · exact e
  obtain ⟨bb, ah, ah2⟩ := x9_ah (F := F) hR hW (h := h) (by omega) 7 0 F (by omega) (by omega)
  by_cases ok : ∀ i, 0 ≤ i → i < 7 → h.testBit i = true → lvs T (nI i) = true
  rotate_left
  · refine no ?_ ?_
    · rw [u_X8_appointments, x6_living hC hW, i_dif, if_neg]
      intro e
      refine ok (fun i _ b c => ?_)
      have l7 : h ^^^ (h &&& mkp (fun h => !(T 0 1).testBit h) (T 0 0)) ≤ h := dif_le _ _
      have e0 : h ^^^ (h &&& mkp (fun h => !(T 0 1).testBit h) (T 0 0)) = 0 := by
        rcases Nat.eq_zero_or_pos (h ^^^ (h &&& mkp (fun h => !(T 0 1).testBit h) (T 0 0))) with y | y
        · exact y
        · exact absurd e (nI_ne0 y (by omega))
      have e1 := congrArg (fun z => z.testBit i) e0
      simp only [dif_tb, mkp_tb, c, Nat.zero_testBit, Bool.true_and] at e1
      rw [lvs_n (by omega) (by omega)]
      cases y : (decide (i < T 0 0) && !(T 0 1).testBit i)
      · rw [y] at e1; exact absurd e1 (by decide)
      · rfl
    · rw [u_X9_appointments, x9_isIn, z, if_pos rfl, bits_f (by omega) (by omega), bd_s, u_X9_areHere]
      by_cases c : nI 5 < nI (pcf 20 h)
      · rw [if_pos c]
      · rw [if_neg c]
        rw [show lX9_areHere_2 F 375 (nI h) F S (nI 0) = some false from ah.trans (congrArg some (Bool.eq_false_iff.mpr (fun z => ok (ah2.mp z))))]
        rfl
  have e8 : f_X8_appointments F S 0 (nI h) a2 = if (f_X8_isWithin S (nI (pcf 20 h)) (nI 1) (nI 5)) = true then (if a2 = (-1 : Int32) then (lX8_appointments_64 F 0 (nI h) a2 S) else (if tld (T 0 0) a2 = true then (if ((nI h >>> (a2 &&& 31)) &&& (nI 1)) = (nI 0) then (some (S, (-2 : Int32))) else (lX8_appointments_64 F 0 (nI h) a2 S)) else (some (S, (-2 : Int32))))) else (some (S, (-2 : Int32))) := by
    rw [u_X8_appointments, x6_living hC hW, i_dif, x6_told hC hW, bc_n (by omega), if_pos]
    refine congrArg nI (Nat.eq_of_testBit_eq (fun i => ?_))
    rw [dif_tb, mkp_tb, Nat.zero_testBit]
    cases c : h.testBit i
    · rfl
    · have i7 : i < 7 := by
        rcases Nat.lt_or_ge i 7 with y | y
        · exact y
        · rw [Nat.testBit_lt_two_pow (Nat.lt_of_lt_of_le (show h < 2 ^ 7 by omega) (Nat.pow_le_pow_right (by decide) y))] at c
          exact absurd c (by decide)
      have := ok i (Nat.zero_le _) i7 c
      rw [lvs_n (by omega) (by omega)] at this
      rw [this]
      rfl
  have e9 : ∀ S1 : mS, RT S1 376 T → f_X9_appointments F S1 375 (nI h) a2 = if nI 5 < nI (pcf 20 h) then (some (S1, (-2 : Int32))) else (if a2 = (-1 : Int32) then (bd (f_X9_layMembers F S1 375 (nI h)) fun q3 => lX9_appointments_59 F 375 (nI h) a2 F q3.1 q3.2 q3.2) else (if tld (T 0 0) a2 = true then (if (f_X9_has S1 (nI h) a2) = true then (bd (f_X9_layMembers F S1 375 (nI h)) fun q5 => lX9_appointments_59 F 375 (nI h) a2 F q5.1 q5.2 q5.2) else (some (S1, (-2 : Int32)))) else (some (S1, (-2 : Int32))))) := fun S1 hR1 => by
    rw [u_X9_appointments, x9_isIn, win_n (by decide) (by decide) (by omega), decide_eq_true ⟨h1, h2⟩, if_pos rfl, bits_f (by omega) (by omega), bd_s, u_X9_areHere, show lX9_areHere_2 F 375 (nI h) F S1 (nI 0) = some true from (by
      obtain ⟨b1, g1, g2⟩ := x9_ah (F := F) hR1 hW (h := h) (by omega) 7 0 F (by omega) (by omega)
      rw [g1, g2.mpr ok]), bd_s, if_pos rfl, x9_isHouse hR1 hW, bd_s]
  by_cases b5 : pcf 20 h ≤ 5
  rotate_left
  · refine no ?_ ?_
    · rw [e8, win_n (by decide) (by decide) hp, decide_eq_false (by omega)]
      rfl
    · rw [e9 S hR, if_pos (nI_lt (by omega) hp)]
  rw [win_n (by decide) (by decide) hp, decide_eq_true ⟨hp1, b5⟩, if_pos rfl] at e8
  have e9' : ∀ S1 : mS, RT S1 376 T → f_X9_appointments F S1 375 (nI h) a2 = _ := fun S1 hR1 => (e9 S1 hR1).trans (if_neg (nI_nlt (by omega) (by decide)))
  obtain ⟨n, mem, n7, hA, mj, hB⟩ := mem_ex h 7 (Nat.le_refl _)
  have hmem : ∀ i, i < n → mem i < T 0 0 := fun i hi => by
    have := ok (mem i) (Nat.zero_le _) (mj i hi) ((hB (mem i) (mj i hi)).mpr ⟨i, hi, rfl⟩)
    rw [lvs_n (by omega) (by have := mj i hi; omega), Bool.and_eq_true] at this
    exact of_decide_eq_true this.1
  have hLU : LU n mem h (2 ^ n - 1) := ⟨by omega, by have := Nat.pow_le_pow_right (show 0 < 2 by decide) n7; omega, fun i hi => by rw [Nat.testBit_two_pow_sub_one] at hi; exact of_decide_eq_true hi, fun x => by
    rcases Nat.lt_or_ge x 7 with y | y
    · rw [hB x y]
      constructor
      · rintro ⟨i, y1, y2⟩
        exact ⟨i, by rw [Nat.testBit_two_pow_sub_one]; exact decide_eq_true y1, y2⟩
      · rintro ⟨i, y1, y2⟩
        rw [Nat.testBit_two_pow_sub_one] at y1
        exact ⟨i, of_decide_eq_true y1, y2⟩
    · constructor
      · intro y1
        rw [Nat.testBit_lt_two_pow (Nat.lt_of_lt_of_le (show h < 2 ^ 7 by omega) (Nat.pow_le_pow_right (by decide) y))] at y1
        exact absurd y1 (by decide)
      · rintro ⟨i, y1, y2⟩
        rw [Nat.testBit_two_pow_sub_one] at y1
        have := mj i (of_decide_eq_true y1)
        omega⟩
  have hn : pcf 20 h = n := hLU.pc hA n (pcf_full n n7)
  rw [hn] at b5 hp1
  obtain ⟨S1, l, v, p1, p2, p3, p4, ⟨p5, p6, p7⟩, p8, p9, p10⟩ := x1_pl (F := F) (by omega) hW b5 hA hmem hLU 3 n F (S := sI S 370 1 (nI n)) (by omega) (by omega) (hC.fr (fun u k a b => sq_u (by omega))) (sq_hit _ _ _ _)
  have f1 : ∀ u k, u ≠ 370 → u ≠ 371 → S1.1 u k = S.1 u k := fun u k x y => (p10 u k x y).trans (sq_u x)
  have hR1 : RT S1 376 T := hR.fr (fun k => f1 _ _ (by decide) (by decide))
  obtain ⟨S2, q1, q2, q3⟩ := x9_lm (F := F) hW n7 hA hmem (h := h) (by omega) hB (T 0 0) 0 F 0 (S := S1) (by omega) (by omega) (by omega) (fun i hi => by omega) hR1 (fun i hi => absurd hi (Nat.not_lt_zero _))
  obtain ⟨S3, r1, r2, r3⟩ := x9_59 (F := F) hF hW b5 hA hmem (a1 := nI h) (a2 := a2) p4 p5 p6 p7 (l - n) n F (S := S2) (by omega) (by omega) p8 (hR1.fr (fun k => q3 _ _ (by decide))) q2
  have g8 : lX8_appointments_64 F 0 (nI h) a2 S = if a2 = (-1 : Int32) then (some (S1, nI l)) else (ck (inb a2 7) (some (S1, S1.1 371 a2.toNatClampNeg))) := by
    rw [u_X8_appointments_64, u_X1_plan, bc_n (by omega), stp_s, hn, p1, bd_s, p2]
  have g9 : (bd (f_X9_layMembers F S1 375 (nI h)) fun q3 => lX9_appointments_59 F 375 (nI h) a2 F q3.1 q3.2 q3.2) = if a2 = (-1 : Int32) then (some (S3, nI l)) else (ck (inb a2 7) (some (S3, S3.1 387 a2.toNatClampNeg))) := by
    rw [u_X9_layMembers, q1, bd_s]
    exact r1
  have c1 : ∀ u k, cor u k → S1.1 u k = S.1 u k := fun u k c => f1 u k (by unfold cor at c; omega) (by unfold cor at c; omega)
  have c2 : ∀ u k, cor u k → S3.1 u k = S1.1 u k := fun u k c => (r2 u k (by unfold cor at c; omega)).trans (q3 u k (by unfold cor at c; omega))
  have e9 := e9' S1 hR1
  rw [g8] at e8
  rw [g9] at e9
  by_cases e : a2 = -1
  · rw [if_pos e, if_pos e] at e8
    rw [if_pos e, if_pos e] at e9
    exact stepS (S1 := S1) (S2 := S3) (r := nI l) hI (c_X8_appointments k_0 e8) (c_X9_appointments k_375 e9) c1 c2 (by decide) (by decide)
  rw [if_neg e, if_neg e] at e8
  rw [if_neg e, if_neg e] at e9
  rcases tld_c a2 (n := T 0 0) (by omega) with y | ⟨x, hx, rfl, y⟩
  · refine no (e8.trans ?_) ((e9' S hR).trans ?_)
    · rw [y]; rfl
    · rw [if_neg e, y]; rfl
  rw [y, if_pos rfl] at e8 e9
  cases hb : h.testBit x
  · refine no (e8.trans ?_) ((e9' S hR).trans ?_)
    · rw [if_pos ((i_bit0 (by omega) (by omega)).mpr hb)]
    · rw [if_neg e, y, if_pos rfl, x9_has S (by omega) (by omega), hb]; rfl
  · obtain ⟨i, i1, i2⟩ := (hB x (by omega)).mp hb
    have i3 := p9 i i1
    have i4 := r3 i i1
    rw [i2] at i3 i4
    rw [if_neg (fun q => by rw [i_bit0 (by omega) (by omega), hb] at q; exact absurd q (by decide)), inb_n (n := x) (by omega) (by omega), ck_t, nI_clamp (n := x) (by omega), i3] at e8
    rw [x9_has S1 (by omega) (by omega), hb, if_pos rfl, inb_n (n := x) (by omega) (by omega), ck_t, nI_clamp (n := x) (by omega), i4] at e9
    exact stepS (S1 := S1) (S2 := S3) (r := nI (psL n 0 l v i)) hI (c_X8_appointments k_0 e8) (c_X9_appointments k_375 e9) c1 c2 (by decide) (by decide)
