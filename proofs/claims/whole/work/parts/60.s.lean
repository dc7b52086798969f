/-! ===== steps that only read: is, book, fault, indoors, crowded, feast, knocks, offended ===== -/
theorem big_F : ∃ F : Nat, 4194304 ≤ F := ⟨_, Nat.le_refl _⟩
theorem win_tld {S : mS} (a : Int32) {n : Nat} (hn : n < 2 ^ 30) : f_X8_isWithin S a (nI 0) (nI n - nI 1) = tld n a := by
  rw [u_X8_isWithin]
  unfold tld
  rcases pk_ix a (n := n) (by omega) with h | h | ⟨j, hj, rfl⟩
  · rw [if_pos (show a < nI 0 from h), if_pos (show a < nI 0 from h)]
  · by_cases q : a < nI 0
    · rw [if_pos q, if_pos q]
    · rw [if_neg q, if_neg q, if_pos h, if_pos]
      have e := pk_sub_toInt (a := n) (b := 1) (by omega) (by omega)
      rw [Int32.le_iff_toInt_le, nI_toInt (by omega)] at h
      rw [Int32.lt_iff_toInt_lt, e]
      omega
  · rw [if_neg (show ¬ nI j < nI 0 from nI_pos (by omega)), if_neg (show ¬ nI j < nI 0 from nI_pos (by omega)), if_neg (nI_ge hj (by omega)), pk_sub (by omega), if_neg (nI_nlt (by omega) (by omega))]
/-- within l .. m -/
theorem win_c {S : mS} (a : Int32) (l m : Nat) (hl : l < 2 ^ 31) (hm : m < 2 ^ 31) : f_X8_isWithin S a (nI l) (nI m) = false ∨ ∃ h, l ≤ h ∧ h ≤ m ∧ a = nI h ∧ f_X8_isWithin S a (nI l) (nI m) = true := by
  rw [u_X8_isWithin]
  by_cases q : a < nI l
  · exact Or.inl (if_pos q)
  by_cases r : nI m < a
  · exact Or.inl (by rw [if_neg q, if_pos r])
  have h2 := mt Int32.lt_iff_toInt_lt.mpr q
  have h4 := mt Int32.lt_iff_toInt_lt.mpr r
  rw [nI_toInt hl] at h2
  rw [nI_toInt hm] at h4
  have z : ¬ a < 0 := fun z => by
    have h1 := Int32.lt_iff_toInt_lt.mp z
    have h3 : (0 : Int32).toInt = 0 := by decide
    omega
  obtain ⟨j, hj, rfl⟩ := nI_of z
  rw [nI_toInt hj] at h2 h4
  exact Or.inr ⟨j, by omega, by omega, rfl, by rw [if_neg q, if_neg r]⟩
section
variable {F : Nat} {S : mS} {t : Nat} {T : Tw}
theorem win_n {l m h : Nat} (hl : l < 2 ^ 31) (hm : m < 2 ^ 31) (hh : h < 2 ^ 31) : f_X8_isWithin S (nI h) (nI l) (nI m) = decide (l ≤ h ∧ h ≤ m) := by
  rw [u_X8_isWithin]
  by_cases q : h < l
  · rw [if_pos (nI_lt q hl), decide_eq_false (by omega)]
  · rw [if_neg (nI_nlt (by omega) hh)]
    by_cases r : m < h
    · rw [if_pos (nI_lt r hh), decide_eq_false (by omega)]
    · rw [if_neg (nI_nlt (by omega) hm), decide_eq_true (by omega)]
theorem x6_dayK (hC : CT S t T) (hW : Wf T) {i : Nat} (hi : i < T 0 4) : f_X6_dayOfKnock F S t (nI i) = some (nI (T 4 i / 16)) := by
  have w := hW.2.2.2.2.1
  have b := hW.2.2.2.2.2.2 i hi
  rw [u_X6_dayOfKnock, win_n (by omega) (by omega) (by omega), decide_eq_true (by omega), if_pos rfl, inb_n (by omega) (by omega), ck_t, nI_clamp (by omega), hC.2.2.2.2.2.2.2.2 i hi, i_sh (by omega) (by omega)]
theorem x6_houseK (hC : CT S t T) (hW : Wf T) {i : Nat} (hi : i < T 0 4) : f_X6_houseOfKnock F S t (nI i) = some (nI (T 4 i / 2 % 8)) := by
  have w := hW.2.2.2.2.1
  have b := hW.2.2.2.2.2.2 i hi
  rw [u_X6_houseOfKnock, win_n (by omega) (by omega) (by omega), decide_eq_true (by omega), if_pos rfl, inb_n (by omega) (by omega), ck_t, nI_clamp (by omega), hC.2.2.2.2.2.2.2.2 i hi, i_sh (by omega) (by omega), pk_andN (by omega) (m := nI 7) 3 (by decide)]
theorem x6_wasShut (hC : CT S t T) (hW : Wf T) {i : Nat} (hi : i < T 0 4) : f_X6_wasShut F S t (nI i) = some (decide (T 4 i % 2 = 1)) := by
  have w := hW.2.2.2.2.1
  have b := hW.2.2.2.2.2.2 i hi
  rw [u_X6_wasShut, win_n (by omega) (by omega) (by omega), decide_eq_true (by omega), if_pos rfl, inb_n (by omega) (by omega), ck_t, nI_clamp (by omega), hC.2.2.2.2.2.2.2.2 i hi, i_and1 _ (by omega)]
  simp (disch := omega) only [nI_eq]
  by_cases q : T 4 i % 2 = 1
  · rw [if_pos q, decide_eq_true q]
  · rw [if_neg q, decide_eq_false q]
theorem x9_entry0 (hR : RT S 376 T) (hW : Wf T) {i : Nat} (hi : i < T 0 4) : f_X9_entry F S 375 (nI i) (nI 0) = some (nI (T 4 i / 16)) := by
  have w := hW.2.2.2.2.1
  have b := hW.2.2.2.2.2.2 i hi
  rw [u_X9_entry, if_pos rfl, nI_add, inb_n (by omega) (by omega), ck_t, nI_clamp (by omega), hR.2.2.2.2.2.2.2.2 i hi, pk_div (by omega) (by omega) (by omega)]
theorem x9_entry1 (hR : RT S 376 T) (hW : Wf T) {i : Nat} (hi : i < T 0 4) : f_X9_entry F S 375 (nI i) (nI 1) = some (nI (T 4 i / 2 % 8)) := by
  have w := hW.2.2.2.2.1
  have b := hW.2.2.2.2.2.2 i hi
  rw [u_X9_entry, if_neg (by decide), if_pos rfl, nI_add, inb_n (by omega) (by omega), ck_t, nI_clamp (by omega), hR.2.2.2.2.2.2.2.2 i hi, pk_div (by omega) (by omega) (by omega), pk_rem (by omega) (by omega) (by omega)]
theorem x9_entry2 (hR : RT S 376 T) (hW : Wf T) {i : Nat} (hi : i < T 0 4) : f_X9_entry F S 375 (nI i) (nI 2) = some (nI (T 4 i % 2)) := by
  have w := hW.2.2.2.2.1
  have b := hW.2.2.2.2.2.2 i hi
  rw [u_X9_entry, if_neg (by decide), if_neg (by decide), nI_add, inb_n (by omega) (by omega), ck_t, nI_clamp (by omega), hR.2.2.2.2.2.2.2.2 i hi, pk_rem (by omega) (by omega) (by omega)]
/-- knocks in the book at a house (-1: at all), shut or open -/
def kcp (T : Tw) (a : Int32) (s i : Nat) : Bool := (decide (a = -1) || decide (nI (T 4 i / 2 % 8) = a)) && decide (T 4 i % 2 = s)
theorem bI_mod (m : Nat) : bI (decide (m % 2 = 1)) = nI (m % 2) := by
  rcases Nat.mod_two_eq_zero_or_one m with h | h <;> rw [h] <;> rfl
theorem x6_hmk (hF : 50 < F) (hC : CT S t T) (hW : Wf T) (a : Int32) {s : Nat} (hs : s < 2) : f_X6_howManyKnocks F S t a (nI s) = some (nI (fb_ct (kcp T a s) (T 0 4))) := by
  have w := hW.2.2.2.2.1
  rw [u_X6_howManyKnocks]
  refine up_l (fun k i => lX6_howManyKnocks_5 F t a (nI s) k S (nI (fb_ct (kcp T a s) i)) (nI i)) _ (T 0 4) (fun k => ?_) (fun k i hi => ?_) F 0 (by omega) (by omega)
  · show lX6_howManyKnocks_5 F t a (nI s) (k + 1) S _ _ = _
    rw [u_X6_howManyKnocks_5, hC.2.2.2.2.1, if_pos (nI_le (Nat.le_refl _) (by omega))]
  · show lX6_howManyKnocks_5 F t a (nI s) (k + 1) S _ _ = lX6_howManyKnocks_5 F t a (nI s) k S (nI (fb_ct (kcp T a s) (i + 1))) (nI (i + 1))
    rw [u_X6_howManyKnocks_5, hC.2.2.2.2.1, if_neg (nI_ge hi (by omega)), x6_houseK hC hW hi, x6_wasShut hC hW hi, fb_ct_succ]
    simp only [bd_s, bI_mod, nI_add]
    unfold kcp
    have e : (nI (T 4 i % 2) = nI s) = (T 4 i % 2 = s) := propext (nI_eq (by omega) (by omega))
    simp only [e]
    by_cases q1 : a = -1
    · by_cases q2 : T 4 i % 2 = s
      · simp [q1, q2]
      · simp [q1, q2]
    · by_cases q3 : nI (T 4 i / 2 % 8) = a
      · by_cases q2 : T 4 i % 2 = s
        · simp [q1, q2, q3]
        · simp [q1, q2, q3]
      · simp [q1, q3]
theorem x9_ka (hF : 50 < F) (hR : RT S 376 T) (hW : Wf T) (a : Int32) {s : Nat} (hs : s < 2) : f_X9_knocksAt F S 375 a (nI s) = some (nI (fb_ct (kcp T a s) (T 0 4))) := by
  have w := hW.2.2.2.2.1
  rw [u_X9_knocksAt]
  refine up_l (fun k i => lX9_knocksAt_5 F 375 a (nI s) k S (nI (fb_ct (kcp T a s) i)) (nI i)) _ (T 0 4) (fun k => ?_) (fun k i hi => ?_) F 0 (by omega) (by omega)
  · show lX9_knocksAt_5 F 375 a (nI s) (k + 1) S _ _ = _
    rw [u_X9_knocksAt_5, inb_n (by omega) (by omega), ck_t, nI_clamp (by omega), hR.2.2.2.1, if_pos (nI_le (Nat.le_refl _) (by omega))]
  · show lX9_knocksAt_5 F 375 a (nI s) (k + 1) S _ _ = lX9_knocksAt_5 F 375 a (nI s) k S (nI (fb_ct (kcp T a s) (i + 1))) (nI (i + 1))
    rw [u_X9_knocksAt_5, inb_n (by omega) (by omega), ck_t, nI_clamp (by omega), hR.2.2.2.1, if_neg (nI_ge hi (by omega)), x9_entry1 hR hW hi, x9_entry2 hR hW hi, fb_ct_succ]
    simp only [bd_s, nI_add]
    unfold kcp
    have e : (nI (T 4 i % 2) = nI s) = (T 4 i % 2 = s) := propext (nI_eq (by omega) (by omega))
    simp only [e]
    by_cases q1 : a = -1
    · by_cases q2 : T 4 i % 2 = s
      · simp [q1, q2]
      · simp [q1, q2]
    · by_cases q3 : nI (T 4 i / 2 % 8) = a
      · by_cases q2 : T 4 i % 2 = s
        · simp [q1, q2, q3]
        · simp [q1, q2, q3]
      · by_cases q2 : T 4 i % 2 = s
        · simp [q1, q2, q3]
        · simp [q1, q2, q3]
theorem x9_shutOn (hF : 8 < F) (hR : RT S 376 T) (hW : Wf T) {d : Nat} (hd : d < 32) : f_X9_shutOn F S 375 (nI d) = some (nI (fb_ct (fun h => (T 1 h).testBit d && !(T 0 1).testBit h) (T 0 0))) := by
  have w0 := hW.1
  rw [u_X9_shutOn]
  refine up_l (fun k i => lX9_shutOn_4 F 375 (nI d) k S (nI (fb_ct (fun h => (T 1 h).testBit d && !(T 0 1).testBit h) i)) (nI i)) _ (T 0 0) (fun k => ?_) (fun k i hi => ?_) F 0 (by omega) (by omega)
  · show lX9_shutOn_4 F 375 (nI d) (k + 1) S _ _ = _
    rw [u_X9_shutOn_4, inb_n (by omega) (by omega), ck_t, nI_clamp (by omega), hR.1, if_pos (nI_le (Nat.le_refl _) (by omega))]
  · have s := (hW.2.2.2.2.2.1 i hi).1
    show lX9_shutOn_4 F 375 (nI d) (k + 1) S _ _ = lX9_shutOn_4 F 375 (nI d) k S (nI (fb_ct _ (i + 1))) (nI (i + 1))
    rw [u_X9_shutOn_4, inb_n (by omega) (by omega), ck_t, nI_clamp (by omega), hR.1, if_neg (nI_ge hi (by omega)), x9_isHeren hR hW hi, x9_shut hR hW hi, bd_s, bd_s, x9_has S (by omega) hd, fb_ct_succ]
    simp only [nI_add]
    cases (T 0 1).testBit i <;> cases (T 1 i).testBit d <;> rfl
theorem x9_friendsOn (hF : 8 < F) (hR : RT S 376 T) (hW : Wf T) {d : Nat} (hd : d < 32) : f_X9_friendsOn F S 375 (nI d) = some (nI (fb_sm (fun h => if (!(T 1 h).testBit d && !(T 0 1).testBit h) = true then T 3 h else 0) (T 0 0))) := by
  have w0 := hW.1
  rw [u_X9_friendsOn]
  refine up_l (fun k i => lX9_friendsOn_4 F 375 (nI d) k S (nI (fb_sm (fun h => if (!(T 1 h).testBit d && !(T 0 1).testBit h) = true then T 3 h else 0) i)) (nI i)) _ (T 0 0) (fun k => ?_) (fun k i hi => ?_) F 0 (by omega) (by omega)
  · show lX9_friendsOn_4 F 375 (nI d) (k + 1) S _ _ = _
    rw [u_X9_friendsOn_4, inb_n (by omega) (by omega), ck_t, nI_clamp (by omega), hR.1, if_pos (nI_le (Nat.le_refl _) (by omega))]
  · show lX9_friendsOn_4 F 375 (nI d) (k + 1) S _ _ = lX9_friendsOn_4 F 375 (nI d) k S (nI (fb_sm _ (i + 1))) (nI (i + 1))
    rw [u_X9_friendsOn_4, inb_n (by omega) (by omega), ck_t, nI_clamp (by omega), hR.1, if_neg (nI_ge hi (by omega)), x9_isOpenn hR hW hi hd, x9_friends hR hW hi, bd_s, bd_s, fb_sm_succ]
    simp only [nI_add]
    cases (!(T 1 i).testBit d && !(T 0 1).testBit i) <;> rfl
end
theorem st_fault : ∀ S, Inv S → ∀ a1, Step μX8_fault μX9_fault Inv S [.int a1] := by
  intro S hI a
  have h : f_X9_fault S 375 a = f_X8_fault S 0 a := by
    obtain ⟨T, P, N, T1, P1, N1, E, -, -, -, -, -, -, -, -, -, hf, -⟩ := hI
    rw [u_X8_fault, u_X9_fault]
    rcases hf with ⟨h1, h2, h3⟩ | ⟨h1, h2, h3⟩
    · rw [if_pos h1, h2, h3, ite_self, ite_self]
    · rw [h1, if_neg (show ¬ nI 1 = nI 0 by decide), h2, h3]
  exact stepR hI (c_X8_fault k_0 rfl) (c_X9_fault k_375 h) (by decide) (by decide)
theorem st_is : ∀ S, Inv S → ∀ a1, Step μX8_is μX9_is Inv S [.int a1] := by
  intro S hI a
  obtain ⟨T, P, N, hCW, hRW, hWV, hC, hR, hW⟩ := hI.t
  obtain ⟨F, hF⟩ := big_F
  have w0 := hW.1
  have h : ∃ r, f_X8_is F S 0 a = some r ∧ f_X9_is F S 375 a = some r := by
    rw [u_X8_is, u_X9_is, x6_date hC hW, x9_date hR hW]
    simp only [bd_s]
    rw [x6_openOn (by omega) hC hW (by omega), x9_openOn (by omega) hR hW (by omega), bd_s, bd_s, bc_n (by have := mkp_lt7 (fun h => !(T 1 h).testBit (T 0 2 % 20) && !(T 0 1).testBit h) w0; omega), mkp_ct (by omega), inb_n (by omega) (by omega), inb_n (by omega) (by omega), ck_t, ck_t, nI_clamp (by omega), nI_clamp (by omega), hC.2.2.1, hC.2.2.2.1, hR.2.1, hR.2.2.1]
    simp only [some_ite]
    exact ⟨_, rfl, rfl⟩
  obtain ⟨r, h1, h2⟩ := h
  exact stepR hI (c_X8_is k_0 h1) (c_X9_is k_375 h2) (by decide) (by decide)
theorem st_book : ∀ S, Inv S → ∀ a1 a2, Step μX8_book μX9_book Inv S [.int a1, .int a2] := by
  intro S hI a b
  obtain ⟨T, P, N, hCW, hRW, hWV, hC, hR, hW⟩ := hI.t
  obtain ⟨F, hF⟩ := big_F
  have w := hW.2.2.2.2.1
  have h : ∃ r, f_X8_book F S 0 a b = some r ∧ f_X9_book F S 375 a b = some r := by
    rw [u_X8_book, u_X9_book, inb_n (by omega) (by omega), ck_t, ck_t, nI_clamp (by omega), hC.2.2.2.2.1, hR.2.2.2.1, x9_isIn, x9_isIn, win_tld a (by omega)]
    by_cases e : a = -1
    · rw [if_pos e, if_pos e]
      exact ⟨_, rfl, rfl⟩
    rw [if_neg e, if_neg e]
    rcases tld_c a (n := T 0 4) (by omega) with q | ⟨i, hi, rfl, q⟩
    · rw [q, if_neg (by decide), if_neg (by decide)]
      exact ⟨_, rfl, rfl⟩
    rw [q, if_pos rfl, if_pos rfl, x6_dayK hC hW hi, x6_houseK hC hW hi, x6_wasShut hC hW hi]
    simp only [bd_s]
    rcases win_c (S := S) b 0 2 (by omega) (by omega) with z | ⟨j, -, hj, rfl, z⟩
    · rw [z, if_neg (show ¬ false = true by decide)]
      have n0 : ¬ b = nI 0 := fun e => by rw [e, win_n (by omega) (by omega) (by omega)] at z; exact absurd z (by decide)
      have n1 : ¬ b = nI 1 := fun e => by rw [e, win_n (by omega) (by omega) (by omega)] at z; exact absurd z (by decide)
      have n2 : ¬ b = nI 2 := fun e => by rw [e, win_n (by omega) (by omega) (by omega)] at z; exact absurd z (by decide)
      rw [if_neg n0, if_neg n1, if_neg n2]
      exact ⟨_, rfl, rfl⟩
    · rw [z, if_pos rfl]
      rcases (show j = 0 ∨ j = 1 ∨ j = 2 by omega) with rfl | rfl | rfl
      · rw [if_pos rfl, x9_entry0 hR hW hi, bd_s]
        exact ⟨_, rfl, rfl⟩
      · rw [if_neg (by decide), if_pos rfl, x9_entry1 hR hW hi, bd_s]
        exact ⟨_, rfl, rfl⟩
      · rw [if_neg (by decide), if_neg (by decide), if_pos rfl, x9_entry2 hR hW hi, bd_s]
        rcases Nat.mod_two_eq_zero_or_one (T 4 i) with m | m <;> rw [m] <;> exact ⟨_, rfl, rfl⟩
  obtain ⟨r, h1, h2⟩ := h
  exact stepR hI (c_X8_book k_0 h1) (c_X9_book k_375 h2) (by decide) (by decide)
theorem st_indoors : ∀ S, Inv S → ∀ a1, Step μX8_indoors μX9_indoors Inv S [.int a1] := by
  intro S hI a
  obtain ⟨T, P, N, hCW, hRW, hWV, hC, hR, hW⟩ := hI.t
  obtain ⟨F, hF⟩ := big_F
  have w0 := hW.1
  have w2 := hW.2.2.1
  have w4 := hW.2.2.2.2.1
  have c5 : S.1 41 5 = nI (T 0 0) := hC.1
  have c7 : S.1 41 7 = nI (T 0 2) := hC.2.2.1
  have cs : ∀ h, h < T 0 0 → S.1 42 h = nI (T 1 h) := hC.2.2.2.2.2.1
  have r0 : S.1 376 0 = nI (T 0 0) := hR.1
  have r8 : S.1 376 8 = nI (T 0 2) := hR.2.1
  have h : ∃ r, f_X8_indoors F S 0 a = some r ∧ f_X9_indoors F S 375 a = some r := by
    rw [u_X8_indoors, u_X9_indoors, x9_isIn]
    by_cases z : f_X8_isWithin S a (nI 1) (nI 7) = true
    · rw [if_pos z, if_pos z]
      refine lockE (fun k (_ : Unit) i => lX8_indoors_14 F 0 a k S (nI i)) (fun k _ i => lX9_indoors_14 F 375 a k S (nI i)) (fun _ _ => True) 61 (fun K _ i => if 60 < i then some (-1) else if nI (fb_ct (fun h => (T 1 h).testBit ((T 0 2 + i) % 20) && !(T 0 1).testBit h) (T 0 0)) < a then K () (i + 1) else some (nI i)) (fun k x i _ hi => ?_) (fun k x i _ hi => ?_) (fun x i _ hi => ?_) F () 0 trivial (by omega) (by omega)
      · simp (disch := omega) only [u_X8_indoors_14, c7, x6_howManyShut (F := F) (by omega) hC hW, ck_t, bd_s, stp_s, inb_n, nI_clamp, nI_add, pk_mul, pk_div, pk_sub, nrem, nI_leI, nI_ltI, nI_eq, n_m1, m1_n, m1_lt, n_lt_m1, n_le_m1, m1_le, m1_e1, m2_n, if_pos, if_neg]
      · simp (disch := omega) only [u_X9_indoors_14, r8, x9_shutOn (F := F) (by omega) hR hW, ck_t, bd_s, stp_s, inb_n, nI_clamp, nI_add, pk_mul, pk_div, pk_sub, nrem, nI_leI, nI_ltI, nI_eq, n_m1, m1_n, m1_lt, n_lt_m1, n_le_m1, m1_le, m1_e1, m2_n, if_pos, if_neg]
      · by_cases e : 60 < i
        · exact Or.inl ⟨_, fun K => if_pos e⟩
        · by_cases q : nI (fb_ct (fun h => (T 1 h).testBit ((T 0 2 + i) % 20) && !(T 0 1).testBit h) (T 0 0)) < a
          · exact Or.inr ⟨(by omega), (), trivial, fun K => by rw [if_neg e, if_pos q]⟩
          · exact Or.inl ⟨_, fun K => by rw [if_neg e, if_neg q]⟩
    · rw [if_neg z, if_neg z]
      exact ⟨_, rfl, rfl⟩
  obtain ⟨r, h1, h2⟩ := h
  exact stepR hI (c_X8_indoors k_0 h1) (c_X9_indoors k_375 h2) (by decide) (by decide)
theorem st_crowded : ∀ S, Inv S → ∀ a1, Step μX8_crowded μX9_crowded Inv S [.int (zb a1)] := by
  intro S hI a
  obtain ⟨T, P, N, hCW, hRW, hWV, hC, hR, hW⟩ := hI.t
  obtain ⟨F, hF⟩ := big_F
  have w0 := hW.1
  have w2 := hW.2.2.1
  have w4 := hW.2.2.2.2.1
  have c5 : S.1 41 5 = nI (T 0 0) := hC.1
  have c7 : S.1 41 7 = nI (T 0 2) := hC.2.2.1
  have cs : ∀ h, h < T 0 0 → S.1 42 h = nI (T 1 h) := hC.2.2.2.2.2.1
  have r0 : S.1 376 0 = nI (T 0 0) := hR.1
  have r8 : S.1 376 8 = nI (T 0 2) := hR.2.1
  have h : ∃ r, f_X8_crowded F S 0 (zb a) = some r ∧ f_X9_crowded F S 375 (zb a) = some r := by
    generalize zb a = a
    rw [u_X8_crowded, u_X9_crowded]
    refine lockE (fun k b i => lX8_crowded_4 F 0 a k S (nI b) (nI i)) (fun k b i => lX9_crowded_4 F 375 a k S (nI b) (nI i)) (fun b _ => b < 20) 20 (fun K b i => if 20 ≤ i then (if a = nI 0 then some (nI b) else some (nI (fb_ct (fun h => (T 1 h).testBit b && !(T 0 1).testBit h) (T 0 0)))) else if nI (fb_ct (fun h => (T 1 h).testBit i && !(T 0 1).testBit h) (T 0 0)) ≤ nI (fb_ct (fun h => (T 1 h).testBit b && !(T 0 1).testBit h) (T 0 0)) then K b (i + 1) else K i (i + 1)) (fun k x i hx hi => ?_) (fun k x i hx hi => ?_) (fun x i hx hi => ?_) F 0 1 (by omega) (by omega) (by omega)
    · by_cases e : i = 20
      · subst e
        simp (disch := omega) only [u_X8_crowded_4, x6_howManyShut (F := F) (by omega) hC hW, ck_t, bd_s, stp_s, inb_n, nI_clamp, nI_add, pk_mul, pk_div, pk_sub, nrem, nI_leI, nI_ltI, nI_eq, n_m1, m1_n, m1_lt, n_lt_m1, n_le_m1, m1_le, m1_e1, m2_n, if_pos, if_neg]
      · simp (disch := omega) only [u_X8_crowded_4, x6_howManyShut (F := F) (by omega) hC hW, ck_t, bd_s, nI_add, nI_leI, if_neg]
    · by_cases e : i = 20
      · subst e
        simp (disch := omega) only [u_X9_crowded_4, x9_shutOn (F := F) (by omega) hR hW, ck_t, bd_s, stp_s, inb_n, nI_clamp, nI_add, pk_mul, pk_div, pk_sub, nrem, nI_leI, nI_ltI, nI_eq, n_m1, m1_n, m1_lt, n_lt_m1, n_le_m1, m1_le, m1_e1, m2_n, if_pos, if_neg]
      · simp (disch := omega) only [u_X9_crowded_4, x9_shutOn (F := F) (by omega) hR hW, ck_t, bd_s, nI_add, nI_leI, if_neg]
    · by_cases e : 20 ≤ i
      · by_cases z : a = nI 0
        · exact Or.inl ⟨_, fun K => by rw [if_pos e, if_pos z]⟩
        · exact Or.inl ⟨_, fun K => by rw [if_pos e, if_neg z]⟩
      · by_cases q : nI (fb_ct (fun h => (T 1 h).testBit i && !(T 0 1).testBit h) (T 0 0)) ≤ nI (fb_ct (fun h => (T 1 h).testBit x && !(T 0 1).testBit h) (T 0 0))
        · exact Or.inr ⟨(by omega), x, (by omega), fun K => by rw [if_neg e, if_pos q]⟩
        · exact Or.inr ⟨(by omega), i, (by omega), fun K => by rw [if_neg e, if_neg q]⟩
  obtain ⟨r, h1, h2⟩ := h
  exact stepR hI (c_X8_crowded k_0 h1) (c_X9_crowded k_375 h2) (by decide) (by decide)
theorem st_feast : ∀ S, Inv S → ∀ a1, Step μX8_feast μX9_feast Inv S [.int (zb a1)] := by
  intro S hI a
  obtain ⟨T, P, N, hCW, hRW, hWV, hC, hR, hW⟩ := hI.t
  obtain ⟨F, hF⟩ := big_F
  have w0 := hW.1
  have w2 := hW.2.2.1
  have w4 := hW.2.2.2.2.1
  have c5 : S.1 41 5 = nI (T 0 0) := hC.1
  have c7 : S.1 41 7 = nI (T 0 2) := hC.2.2.1
  have cs : ∀ h, h < T 0 0 → S.1 42 h = nI (T 1 h) := hC.2.2.2.2.2.1
  have r0 : S.1 376 0 = nI (T 0 0) := hR.1
  have r8 : S.1 376 8 = nI (T 0 2) := hR.2.1
  have h : ∃ r, f_X8_feast F S 0 (zb a) = some r ∧ f_X9_feast F S 375 (zb a) = some r := by
    generalize zb a = a
    rw [u_X8_feast, u_X9_feast]
    refine lockE (fun k b i => lX8_feast_4 F 0 a k S (nI b) (nI i)) (fun k b i => lX9_feast_4 F 375 a k S (nI b) (nI i)) (fun b _ => b < 20) 20 (fun K b i => if 20 ≤ i then (if a = nI 0 then some (nI b) else some (nI (fb_sm (fun h => if (!(T 1 h).testBit b && !(T 0 1).testBit h) = true then T 3 h else 0) (T 0 0)))) else if nI (fb_sm (fun h => if (!(T 1 h).testBit i && !(T 0 1).testBit h) = true then T 3 h else 0) (T 0 0)) ≤ nI (fb_sm (fun h => if (!(T 1 h).testBit b && !(T 0 1).testBit h) = true then T 3 h else 0) (T 0 0)) then K b (i + 1) else K i (i + 1)) (fun k x i hx hi => ?_) (fun k x i hx hi => ?_) (fun x i hx hi => ?_) F 0 1 (by omega) (by omega) (by omega)
    · by_cases e : i = 20
      · subst e
        rw [u_X8_feast_4, x6_guestsOn (F := F) (by omega) hC hW (d := x) (by omega), bd_s, if_pos (show nI 20 ≤ nI 20 by decide), if_pos (Nat.le_refl 20)]
      · rw [u_X8_feast_4, x6_guestsOn (F := F) (by omega) hC hW (d := x) (by omega), x6_guestsOn (F := F) (by omega) hC hW (d := i) (by omega), bd_s, bd_s, bd_s, if_neg (nI_ge (show i < 20 by omega) (by omega)), if_neg (show ¬ 20 ≤ i by omega), nI_add]
    · by_cases e : i = 20
      · subst e
        rw [u_X9_feast_4, x9_friendsOn (F := F) (by omega) hR hW (d := x) (by omega), bd_s, if_pos (show nI 20 ≤ nI 20 by decide), if_pos (Nat.le_refl 20)]
      · rw [u_X9_feast_4, x9_friendsOn (F := F) (by omega) hR hW (d := x) (by omega), x9_friendsOn (F := F) (by omega) hR hW (d := i) (by omega), bd_s, bd_s, bd_s, if_neg (nI_ge (show i < 20 by omega) (by omega)), if_neg (show ¬ 20 ≤ i by omega), nI_add]
    · by_cases e : 20 ≤ i
      · by_cases z : a = nI 0
        · exact Or.inl ⟨_, fun K => by rw [if_pos e, if_pos z]⟩
        · exact Or.inl ⟨_, fun K => by rw [if_pos e, if_neg z]⟩
      · by_cases q : nI (fb_sm (fun h => if (!(T 1 h).testBit i && !(T 0 1).testBit h) = true then T 3 h else 0) (T 0 0)) ≤ nI (fb_sm (fun h => if (!(T 1 h).testBit x && !(T 0 1).testBit h) = true then T 3 h else 0) (T 0 0))
        · exact Or.inr ⟨(by omega), x, (by omega), fun K => by rw [if_neg e, if_pos q]⟩
        · exact Or.inr ⟨(by omega), i, (by omega), fun K => by rw [if_neg e, if_neg q]⟩
  obtain ⟨r, h1, h2⟩ := h
  exact stepR hI (c_X8_feast k_0 h1) (c_X9_feast k_375 h2) (by decide) (by decide)
theorem st_knocks : ∀ S, Inv S → ∀ a1 a2, Step μX8_knocks μX9_knocks Inv S [.int a1, .int (zb a2)] := by
  intro S hI a b
  obtain ⟨T, P, N, hCW, hRW, hWV, hC, hR, hW⟩ := hI.t
  obtain ⟨F, hF⟩ := big_F
  have w0 := hW.1
  have w2 := hW.2.2.1
  have w4 := hW.2.2.2.2.1
  have c5 : S.1 41 5 = nI (T 0 0) := hC.1
  have c7 : S.1 41 7 = nI (T 0 2) := hC.2.2.1
  have cs : ∀ h, h < T 0 0 → S.1 42 h = nI (T 1 h) := hC.2.2.2.2.2.1
  have r0 : S.1 376 0 = nI (T 0 0) := hR.1
  have r8 : S.1 376 8 = nI (T 0 2) := hR.2.1
  have h : ∃ r, f_X8_knocks F S 0 a (zb b) = some r ∧ f_X9_knocks F S 375 a (zb b) = some r := by
    rw [u_X8_knocks, u_X9_knocks, x6_told hC hW, x9_isHouse hR hW, bd_s]
    rcases zb_c b with e | e
    · rw [e, x6_hmk (F := F) (by omega) hC hW a (s := 0) (by omega), x9_ka (F := F) (by omega) hR hW a (s := 0) (by omega), bd_s, if_pos (rfl : nI 0 = nI 0)]
      simp only [some_ite]
      exact ⟨_, rfl, rfl⟩
    · rw [e, x6_hmk (F := F) (by omega) hC hW a (s := 1) (by omega), x9_ka (F := F) (by omega) hR hW a (s := 1) (by omega), bd_s, if_neg (by decide : ¬ nI 1 = nI 0)]
      simp only [some_ite]
      exact ⟨_, rfl, rfl⟩
  obtain ⟨r, h1, h2⟩ := h
  exact stepR hI (c_X8_knocks k_0 h1) (c_X9_knocks k_375 h2) (by decide) (by decide)
theorem st_offended : ∀ S, Inv S → Step μX8_offended μX9_offended Inv S [] := by
  intro S hI
  obtain ⟨T, P, N, hCW, hRW, hWV, hC, hR, hW⟩ := hI.t
  obtain ⟨F, hF⟩ := big_F
  have w0 := hW.1
  have w2 := hW.2.2.1
  have w4 := hW.2.2.2.2.1
  have c5 : S.1 41 5 = nI (T 0 0) := hC.1
  have c7 : S.1 41 7 = nI (T 0 2) := hC.2.2.1
  have cs : ∀ h, h < T 0 0 → S.1 42 h = nI (T 1 h) := hC.2.2.2.2.2.1
  have r0 : S.1 376 0 = nI (T 0 0) := hR.1
  have r8 : S.1 376 8 = nI (T 0 2) := hR.2.1
  have h : ∃ r, f_X8_offended F S 0 = some r ∧ f_X9_offended F S 375 = some r := by
    rw [u_X8_offended, u_X9_offended]
    refine lockE (fun k (x : Int32 × Int32) i => lX8_offended_6 F 0 k S x.1 x.2 (nI i)) (fun k x i => lX9_offended_6 F 375 k S x.1 x.2 (nI i)) (fun _ _ => True) (T 0 0) (fun K x i => if T 0 0 ≤ i then some x.1 else if nI (fb_ct (kcp T (nI i) 1) (T 0 4)) ≤ x.2 then K x (i + 1) else K (nI i, nI (fb_ct (kcp T (nI i) 1) (T 0 4))) (i + 1)) (fun k x i _ hi => ?_) (fun k x i _ hi => ?_) (fun x i _ hi => ?_) F (-1, nI 0) 0 trivial (by omega) (by omega)
    · show lX8_offended_6 F 0 (k + 1) S x.1 x.2 (nI i) = _
      rw [u_X8_offended_6, c5, x6_hmk (F := F) (by omega) hC hW (nI i) (s := 1) (by omega), bd_s, nI_add]
      simp (disch := omega) only [nI_leI]
    · show lX9_offended_6 F 375 (k + 1) S x.1 x.2 (nI i) = _
      rw [u_X9_offended_6, inb_n (by omega) (by omega), ck_t, nI_clamp (by omega), r0, x9_ka (F := F) (by omega) hR hW (nI i) (s := 1) (by omega), bd_s, bd_s, nI_add, ilt_swap]
      simp (disch := omega) only [nI_leI]
    · by_cases e : T 0 0 ≤ i
      · exact Or.inl ⟨_, fun K => if_pos e⟩
      · by_cases q : nI (fb_ct (kcp T (nI i) 1) (T 0 4)) ≤ x.2
        · exact Or.inr ⟨(by omega), x, trivial, fun K => by rw [if_neg e, if_pos q]⟩
        · exact Or.inr ⟨(by omega), _, trivial, fun K => by rw [if_neg e, if_neg q]⟩
  obtain ⟨r, h1, h2⟩ := h
  exact stepR hI (c_X8_offended k_0 h1) (c_X9_offended k_375 h2) (by decide) (by decide)
