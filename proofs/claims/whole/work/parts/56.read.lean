/-! ===== reading a town: the class's Town (X6) and the reference's rows (X9) ===== -/
def tld (n : Nat) (a : Int32) : Bool := if a < nI 0 then false else (if nI n ≤ a then false else true)
theorem tld_c (a : Int32) {n : Nat} (hn : n < 2 ^ 31) : tld n a = false ∨ ∃ h, h < n ∧ a = nI h ∧ tld n a = true := by
  rcases pk_ix a hn with h | h | ⟨j, hj, rfl⟩
  · exact Or.inl (if_pos h)
  · refine Or.inl ?_
    unfold tld
    rw [if_pos h, ite_self]
  · exact Or.inr ⟨j, hj, rfl, (if_neg (nI_pos (by omega))).trans (if_neg (nI_ge hj hn))⟩
theorem tld_n {n h : Nat} (hn : n < 2 ^ 31) (hh : h < 2 ^ 31) : tld n (nI h) = decide (h < n) := by
  unfold tld
  rw [if_neg (show ¬ nI h < nI 0 from nI_pos hh)]
  by_cases q : h < n
  · rw [if_neg (nI_ge q hn), decide_eq_true q]
  · rw [if_pos (nI_le (by omega) hh), decide_eq_false q]
theorem tld_m1 (n : Nat) : tld n (-1) = false := if_pos (by decide)
theorem if_tf (b : Bool) : (if b = true then true else false) = b := by cases b <;> rfl
theorem if_tfs (b : Bool) : (if b = true then some true else some false) = some b := by cases b <;> rfl
theorem if_ft (b : Bool) : (if b = true then false else true) = !b := by cases b <;> rfl
theorem if_fts (b : Bool) : (if b = true then some false else some true) = some !b := by cases b <;> rfl
def lvs (T : Tw) (a : Int32) : Bool := tld (T 0 0) a && !(T 0 1).testBit a.toNatClampNeg
theorem lvs_n {T : Tw} {h : Nat} (hn : T 0 0 < 2 ^ 31) (hh : h < 2 ^ 31) : lvs T (nI h) = (decide (h < T 0 0) && !(T 0 1).testBit h) := by
  unfold lvs
  rw [tld_n hn hh, nI_clamp hh]
section
variable {F : Nat} {S : mS} {t : Nat} {T : Tw}
theorem x6_told (hC : CT S t T) (hW : Wf T) (a : Int32) : f_X6_told S t a = tld (T 0 0) a := by
  have w0 := hW.1
  rw [u_X6_told, hC.1]
  unfold tld
  rcases pk_ix a (n := T 0 0) (by omega) with h | h | ⟨j, hj, rfl⟩
  · rw [if_pos (show a < nI 0 from h), if_pos (show a < nI 0 from h)]
  · rw [if_pos h, if_pos h]
  · rw [if_neg (show ¬ nI j < nI 0 from nI_pos (by omega)), if_neg (nI_ge hj (by omega)), if_neg (show ¬ nI j < nI 0 from nI_pos (by omega)), if_neg (nI_ge hj (by omega)), if_neg (nI_ge (show j < 7 by omega) (by omega))]
theorem x6_isGone (hC : CT S t T) (hW : Wf T) {h : Nat} (hh : h < 32) : f_X6_isGone S t (nI h) = (T 0 1).testBit h := by
  have g := hW.g
  rw [u_X6_isGone, hC.2.1]
  simp (disch := omega) only [i_bit1]
  exact if_tf _
theorem x6_lives (hC : CT S t T) (hW : Wf T) (a : Int32) : f_X6_lives S t a = lvs T a := by
  have w0 := hW.1
  rw [u_X6_lives, x6_told hC hW]
  unfold lvs
  rcases tld_c a (n := T 0 0) (by omega) with h | ⟨j, hj, rfl, h⟩
  · rw [h]; rfl
  · rw [h, if_pos rfl, x6_isGone hC hW (by omega), nI_clamp (by omega)]
    exact if_ft _
theorem x6_livesn (hC : CT S t T) (hW : Wf T) {h : Nat} (hh : h < T 0 0) : f_X6_lives S t (nI h) = !(T 0 1).testBit h := by
  have w0 := hW.1
  rw [x6_lives hC hW, lvs_n (by omega) (by omega), decide_eq_true hh, Bool.true_and]
theorem x6_living (hC : CT S t T) (hW : Wf T) : f_X6_living S t = nI (mkp (fun h => !(T 0 1).testBit h) (T 0 0)) := by
  have w0 := hW.1
  rw [u_X6_living, hC.1, hC.2.1, i_shl (by omega), pk_sub Nat.one_le_two_pow, i_dif]
  refine congrArg nI (mkp_eq (fun i => ?_))
  rw [dif_tb, Nat.testBit_two_pow_sub_one]
theorem x6_isShut (hC : CT S t T) (hW : Wf T) (a : Int32) {d : Nat} (hd : d < 32) : f_X6_isShut F S t a (nI d) = some (tld (T 0 0) a && (T 1 a.toNatClampNeg).testBit d) := by
  have w0 := hW.1
  rw [u_X6_isShut, x6_told hC hW]
  rcases tld_c a (n := T 0 0) (by omega) with h | ⟨j, hj, rfl, h⟩
  · rw [h]; rfl
  · have s := (hW.2.2.2.2.2.1 j hj).1
    rw [h, if_pos rfl, inb_n (by omega) (by omega), ck_t, nI_clamp (by omega), hC.2.2.2.2.2.1 j hj]
    simp (disch := omega) only [i_bit1]
    exact if_tfs _
theorem x6_isShutn (hC : CT S t T) (hW : Wf T) {h d : Nat} (hh : h < T 0 0) (hd : d < 32) : f_X6_isShut F S t (nI h) (nI d) = some ((T 1 h).testBit d) := by
  have w0 := hW.1
  rw [x6_isShut hC hW _ hd, tld_n (by omega) (by omega), decide_eq_true hh, Bool.true_and, nI_clamp (by omega)]
theorem x6_date (hC : CT S t T) (hW : Wf T) : f_X6_date S t = nI (T 0 2 % 20) := by
  have w := hW.2.2.1
  rw [u_X6_date, hC.2.2.1, pk_rem (by omega) (by omega) (by omega)]
theorem x6_shutOn (hF : 8 < F) (hC : CT S t T) (hW : Wf T) {d : Nat} (hd : d < 32) : f_X6_shutOn F S t (nI d) = some (nI (mkp (fun h => (T 1 h).testBit d && !(T 0 1).testBit h) (T 0 0))) := by
  have w0 := hW.1
  rw [u_X6_shutOn]
  refine up_l (fun k i => lX6_shutOn_4 F t (nI d) k S (nI (mkp (fun h => (T 1 h).testBit d) i)) (nI i)) _ (T 0 0) (fun k => ?_) (fun k i hi => ?_) F 0 (by omega) (by omega)
  · show lX6_shutOn_4 F t (nI d) (k + 1) S _ _ = _
    rw [u_X6_shutOn_4, hC.1, if_pos (nI_le (Nat.le_refl _) (by omega)), x6_living hC hW, fa_and]
    refine congrArg (fun z => some (nI z)) (mkp_eq (fun i => ?_))
    rw [Nat.testBit_and, mkp_tb, mkp_tb]
    cases decide (i < T 0 0) <;> rfl
  · have s := (hW.2.2.2.2.2.1 i hi).1
    show lX6_shutOn_4 F t (nI d) (k + 1) S _ _ = _
    have p7 : 2 ^ i ≤ 2 ^ 7 := Nat.pow_le_pow_right (by omega) (by omega)
    rw [u_X6_shutOn_4, hC.1, if_neg (nI_ge hi (by omega)), inb_n (by omega) (by omega), ck_t, nI_clamp (by omega), hC.2.2.2.2.2.1 i hi, i_bit (by omega) hd, i_shl2 (by split <;> omega) (by omega), fa_or, nI_add]
    have e : (if (T 1 i).testBit d = true then 1 else 0) * 2 ^ i = (if (T 1 i).testBit d = true then 2 ^ i else 0) := by split <;> omega
    rw [e]
    rfl
theorem x6_openOn (hF : 8 < F) (hC : CT S t T) (hW : Wf T) {d : Nat} (hd : d < 32) : f_X6_openOn F S t (nI d) = some (nI (mkp (fun h => !(T 1 h).testBit d && !(T 0 1).testBit h) (T 0 0))) := by
  rw [u_X6_openOn, x6_shutOn hF hC hW hd, bd_s, x6_living hC hW, i_dif]
  refine congrArg (fun z => some (nI z)) (mkp_eq (fun i => ?_))
  rw [dif_tb, mkp_tb, mkp_tb]
  cases decide (i < T 0 0) <;> cases (T 1 i).testBit d <;> cases (T 0 1).testBit i <;> rfl
theorem x6_howManyShut (hF : 8 < F) (hC : CT S t T) (hW : Wf T) {d : Nat} (hd : d < 32) : f_X6_howManyShut F S t (nI d) = some (nI (fb_ct (fun h => (T 1 h).testBit d && !(T 0 1).testBit h) (T 0 0))) := by
  have w0 := hW.1
  have b := mkp_lt7 (fun h => (T 1 h).testBit d && !(T 0 1).testBit h) w0
  rw [u_X6_howManyShut, x6_shutOn hF hC hW hd, bd_s, bc_n (by omega), mkp_ct (by omega)]
theorem x6_guestsOn (hF : 8 < F) (hC : CT S t T) (hW : Wf T) {d : Nat} (hd : d < 32) : f_X6_guestsOn F S t (nI d) = some (nI (fb_sm (fun h => if (!(T 1 h).testBit d && !(T 0 1).testBit h) = true then T 3 h else 0) (T 0 0))) := by
  have w0 := hW.1
  have b := mkp_lt7 (fun h => !(T 1 h).testBit d && !(T 0 1).testBit h) w0
  rw [u_X6_guestsOn, x6_openOn hF hC hW hd, bd_s]
  refine up_l (fun k i => lX6_guestsOn_11 F t (nI d) k S (nI (mkp (fun h => !(T 1 h).testBit d && !(T 0 1).testBit h) (T 0 0))) (nI (fb_sm (fun h => if (!(T 1 h).testBit d && !(T 0 1).testBit h) = true then T 3 h else 0) i)) (nI i)) _ (T 0 0) (fun k => ?_) (fun k i hi => ?_) F 0 (by omega) (by omega)
  · show lX6_guestsOn_11 F t (nI d) (k + 1) S _ _ _ = _
    rw [u_X6_guestsOn_11, hC.1, if_pos (nI_le (Nat.le_refl _) (by omega))]
  · show lX6_guestsOn_11 F t (nI d) (k + 1) S _ _ _ = lX6_guestsOn_11 F t (nI d) k S _ (nI (fb_sm _ (i + 1))) (nI (i + 1))
    rw [u_X6_guestsOn_11, hC.1, if_neg (nI_ge hi (by omega))]
    simp (disch := omega) only [i_bit1]
    rw [mkp_tb, decide_eq_true hi, Bool.true_and, fb_sm_succ]
    cases (!(T 1 i).testBit d && !(T 0 1).testBit i)
    · rw [if_neg (by decide), if_neg (by decide), nI_add]; rfl
    · rw [if_pos rfl, if_pos rfl, inb_n (by omega) (by omega), ck_t, nI_clamp (by omega), hC.2.2.2.2.2.2.2.1 i hi, nI_add, nI_add]
/-! the reference -/
theorem x9_isIn (S : mS) (a l h : Int32) : f_X9_isIn S a l h = f_X8_isWithin S a l h := rfl
theorem x9_isHouse (hR : RT S 376 T) (hW : Wf T) (a : Int32) : f_X9_isHouse F S 375 a = some (tld (T 0 0) a) := by
  have w0 := hW.1
  rw [u_X9_isHouse, inb_n (by omega) (by omega), ck_t, nI_clamp (by omega), hR.1, u_X9_isIn]
  unfold tld
  refine congrArg some ?_
  rcases pk_ix a (n := T 0 0) (by omega) with h | h | ⟨j, hj, rfl⟩
  · rw [if_pos (show a < nI 0 from h), if_pos (show a < nI 0 from h)]
  · by_cases q : a < nI 0
    · rw [if_pos q, if_pos q]
    · rw [if_neg q, if_neg q, if_pos h, if_pos]
      have e := pk_sub_toInt (a := T 0 0) (b := 1) (by omega) (by omega)
      rw [Int32.le_iff_toInt_le, nI_toInt (by omega)] at h
      rw [Int32.lt_iff_toInt_lt, e]
      omega
  · rw [if_neg (show ¬ nI j < nI 0 from nI_pos (by omega)), if_neg (show ¬ nI j < nI 0 from nI_pos (by omega)), if_neg (nI_ge hj (by omega)), pk_sub (by omega), if_neg (nI_nlt (by omega) (by omega))]
theorem x9_get (S : mS) {h k : Nat} (hh : h < 8) (hk : k < 8) : f_X9_get F S 375 (nI h) (nI k) = some (S.1 376 (12 + 8 * h + k)) := by
  rw [u_X9_get, pk_mul, nI_add, nI_add, inb_n (by omega) (by omega), ck_t, nI_clamp (by omega)]
theorem x9_put (S : mS) {h k : Nat} (v : Int32) (hh : h < 8) (hk : k < 8) : f_X9_put F S 375 (nI h) (nI k) v = some (sI S 376 (12 + 8 * h + k) v) := by
  rw [u_X9_put, pk_mul, nI_add, nI_add, inb_n (by omega) (by omega), ck_t, nI_clamp (by omega), stp_s]
theorem x9_has (S : mS) {m d : Nat} (hm : m < 2 ^ 31) (hd : d < 32) : f_X9_has S (nI m) (nI d) = m.testBit d := by
  rw [u_X9_has]
  simp (disch := omega) only [i_bit1]
  exact if_tf _
theorem x9_isHere (hR : RT S 376 T) (hW : Wf T) (a : Int32) : f_X9_isHere F S 375 a = some (lvs T a) := by
  have w0 := hW.1
  rw [u_X9_isHere, x9_isHouse hR hW, bd_s]
  unfold lvs
  rcases tld_c a (n := T 0 0) (by omega) with h | ⟨j, hj, rfl, h⟩
  · rw [h]; rfl
  · rw [h, if_pos rfl, x9_get S (by omega) (by omega), bd_s, hR.2.2.2.2.2.2.2.1 j hj, nI_clamp (by omega)]
    cases (T 0 1).testBit j <;> rfl
theorem x9_isHeren (hR : RT S 376 T) (hW : Wf T) {h : Nat} (hh : h < T 0 0) : f_X9_isHere F S 375 (nI h) = some (!(T 0 1).testBit h) := by
  have w0 := hW.1
  rw [x9_isHere hR hW, lvs_n (by omega) (by omega), decide_eq_true hh, Bool.true_and]
theorem x9_shut (hR : RT S 376 T) (hW : Wf T) {h : Nat} (hh : h < T 0 0) : f_X9_get F S 375 (nI h) (nI 0) = some (nI (T 1 h)) := by
  have w0 := hW.1
  rw [x9_get S (by omega) (by omega)]
  exact congrArg some (hR.2.2.2.2.1 h hh)
theorem x9_purse (hR : RT S 376 T) (hW : Wf T) {h : Nat} (hh : h < T 0 0) : f_X9_get F S 375 (nI h) (nI 1) = some (nI (T 2 h)) := by
  have w0 := hW.1
  rw [x9_get S (by omega) (by omega), hR.2.2.2.2.2.1 h hh]
theorem x9_friends (hR : RT S 376 T) (hW : Wf T) {h : Nat} (hh : h < T 0 0) : f_X9_get F S 375 (nI h) (nI 2) = some (nI (T 3 h)) := by
  have w0 := hW.1
  rw [x9_get S (by omega) (by omega), hR.2.2.2.2.2.2.1 h hh]
theorem x9_gone (hR : RT S 376 T) (hW : Wf T) {h : Nat} (hh : h < T 0 0) : f_X9_get F S 375 (nI h) (nI 3) = some (nI (if (T 0 1).testBit h then 1 else 0)) := by
  have w0 := hW.1
  rw [x9_get S (by omega) (by omega), hR.2.2.2.2.2.2.2.1 h hh]
def opn (T : Tw) (a : Int32) (d : Nat) : Bool := lvs T a && !(T 1 a.toNatClampNeg).testBit d
theorem x9_isOpen (hR : RT S 376 T) (hW : Wf T) (a : Int32) {d : Nat} (hd : d < 32) : f_X9_isOpen F S 375 a (nI d) = some (opn T a d) := by
  have w0 := hW.1
  rw [u_X9_isOpen, x9_isHere hR hW, bd_s]
  unfold opn lvs
  rcases tld_c a (n := T 0 0) (by omega) with h | ⟨j, hj, rfl, h⟩
  · rw [h]; rfl
  · have s := (hW.2.2.2.2.2.1 j hj).1
    rw [h, x9_shut hR hW hj, bd_s, x9_has S (by omega) hd, nI_clamp (by omega)]
    cases (T 0 1).testBit j <;> cases (T 1 j).testBit d <;> rfl
theorem x9_isOpenn (hR : RT S 376 T) (hW : Wf T) {h d : Nat} (hh : h < T 0 0) (hd : d < 32) : f_X9_isOpen F S 375 (nI h) (nI d) = some (!(T 1 h).testBit d && !(T 0 1).testBit h) := by
  have w0 := hW.1
  rw [x9_isOpen hR hW _ hd]
  unfold opn
  rw [lvs_n (by omega) (by omega), decide_eq_true hh, nI_clamp (by omega), Bool.true_and, Bool.and_comm]
theorem x9_date (hR : RT S 376 T) (hW : Wf T) : f_X9_date F S 375 = some (nI (T 0 2 % 20)) := by
  have w := hW.2.2.1
  rw [u_X9_date, inb_n (by omega) (by omega), ck_t, nI_clamp (by omega), hR.2.1, pk_rem (by omega) (by omega) (by omega)]
theorem x9_openOn (hF : 8 < F) (hR : RT S 376 T) (hW : Wf T) {d : Nat} (hd : d < 32) : f_X9_openOn F S 375 (nI d) = some (nI (fb_ct (fun h => !(T 1 h).testBit d && !(T 0 1).testBit h) (T 0 0))) := by
  have w0 := hW.1
  rw [u_X9_openOn]
  refine up_l (fun k i => lX9_openOn_4 F 375 (nI d) k S (nI (fb_ct (fun h => !(T 1 h).testBit d && !(T 0 1).testBit h) i)) (nI i)) _ (T 0 0) (fun k => ?_) (fun k i hi => ?_) F 0 (by omega) (by omega)
  · show lX9_openOn_4 F 375 (nI d) (k + 1) S _ _ = _
    rw [u_X9_openOn_4, inb_n (by omega) (by omega), ck_t, nI_clamp (by omega), hR.1, if_pos (nI_le (Nat.le_refl _) (by omega))]
  · show lX9_openOn_4 F 375 (nI d) (k + 1) S _ _ = lX9_openOn_4 F 375 (nI d) k S (nI (fb_ct _ (i + 1))) (nI (i + 1))
    rw [u_X9_openOn_4, inb_n (by omega) (by omega), ck_t, nI_clamp (by omega), hR.1, if_neg (nI_ge hi (by omega)), x9_isOpenn hR hW hi hd, bd_s, fb_ct_succ]
    cases (!(T 1 i).testBit d && !(T 0 1).testBit i)
    · rw [if_neg (by decide), if_neg (by decide), nI_add, nI_add]
    · rw [if_pos rfl, if_pos rfl, nI_add, nI_add]
end
