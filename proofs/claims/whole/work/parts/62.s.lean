/-! ===== steps that only read: twins, alone, knows, never, leap ===== -/
section
variable {F : Nat} {S : mS} {t : Nat} {T : Tw}
def twq (T : Tw) (h e : Nat) : Bool := (!(T 0 1).testBit h && !(T 0 1).testBit e) && decide (T 1 h = T 1 e)
theorem x8_tw23 (hF : 8 < F) (hC : CT S 41 T) (hW : Wf T) (K : Int32 → Int32 → Option Int32) {h : Nat} (hh : h < T 0 0) (c : Nat) : lX8_twins_23 F K 0 F S (nI c) (nI h) (nI 0) = K (nI (c + fb_ct (twq T h) h)) (nI (h + 1)) := by
  have w0 := hW.1
  refine up_l (fun k i => lX8_twins_23 F K 0 k S (nI (c + fb_ct (twq T h) i)) (nI h) (nI i)) _ h (fun k => ?_) (fun k i hi => ?_) F 0 (by omega) (by omega)
  · show lX8_twins_23 F K 0 (k + 1) S _ _ _ = _
    rw [u_X8_twins_23, if_pos (nI_le (Nat.le_refl _) (by omega)), nI_add]
  · show lX8_twins_23 F K 0 (k + 1) S _ _ _ = lX8_twins_23 F K 0 k S (nI (c + fb_ct (twq T h) (i + 1))) (nI h) (nI (i + 1))
    have cs : ∀ h, h < T 0 0 → S.1 42 h = nI (T 1 h) := hC.2.2.2.2.2.1
    have s1 := (hW.2.2.2.2.2.1 i (by omega)).1
    have s2 := (hW.2.2.2.2.2.1 h hh).1
    rw [u_X8_twins_23, if_neg (nI_ge hi (by omega)), x6_livesn hC hW hh, x6_livesn hC hW (show i < T 0 0 by omega), inb_n (by omega) (by omega), inb_n (by omega) (by omega), ck_t, ck_t, nI_clamp (by omega), nI_clamp (by omega), cs h hh, cs i (by omega), nI_add, nI_add, fb_ct_succ]
    simp (disch := omega) only [nI_eq]
    unfold twq
    cases (T 0 1).testBit h
    · cases (T 0 1).testBit i
      · by_cases q : T 1 h = T 1 i
        · simp [q]; rfl
        · simp [q]
      · simp
    · simp
theorem x9_tw16 (hF : 8 < F) (hR : RT S 376 T) (hW : Wf T) (K : Int32 → Int32 → Option Int32) {h : Nat} (hh : h < T 0 0) (c : Nat) : lX9_twins_16 F K 375 F S (nI c) (nI h) (nI 0) = K (nI (c + fb_ct (twq T h) h)) (nI (h + 1)) := by
  have w0 := hW.1
  refine up_l (fun k i => lX9_twins_16 F K 375 k S (nI (c + fb_ct (twq T h) i)) (nI h) (nI i)) _ h (fun k => ?_) (fun k i hi => ?_) F 0 (by omega) (by omega)
  · show lX9_twins_16 F K 375 (k + 1) S _ _ _ = _
    rw [u_X9_twins_16, if_pos (nI_le (Nat.le_refl _) (by omega)), nI_add]
  · show lX9_twins_16 F K 375 (k + 1) S _ _ _ = lX9_twins_16 F K 375 k S (nI (c + fb_ct (twq T h) (i + 1))) (nI h) (nI (i + 1))
    have s1 := (hW.2.2.2.2.2.1 i (by omega)).1
    have s2 := (hW.2.2.2.2.2.1 h hh).1
    rw [u_X9_twins_16, if_neg (nI_ge hi (by omega)), x9_isHeren hR hW hh, x9_isHeren hR hW (show i < T 0 0 by omega), x9_shut hR hW hh, x9_shut hR hW (show i < T 0 0 by omega)]
    simp only [bd_s, nI_add, fb_ct_succ]
    simp (disch := omega) only [nI_eq]
    unfold twq
    cases (T 0 1).testBit h
    · cases (T 0 1).testBit i
      · by_cases q : T 1 h = T 1 i
        · simp [q]; rfl
        · simp [q]
      · simp
    · simp
/-- alone -/
def alq (T : Tw) (h e : Nat) : Bool := (decide (e = h) || (T 0 1).testBit e) || decide (T 1 h &&& T 1 e = 0)
theorem alq_all (hW : Wf T) {h : Nat} (hh : h < T 0 0) : (T 1 h &&& orp (dtb T (nI h)) (T 0 0) = 0) ↔ alb (alq T h) (T 0 0) = true := by
  have w0 := hW.1
  rw [alb_t]
  constructor
  · intro z e he
    unfold alq
    by_cases q : e = h
    · rw [decide_eq_true q]; rfl
    · cases q2 : (T 0 1).testBit e
      · refine (fun key : T 1 h &&& T 1 e = 0 => by rw [decide_eq_true key, Bool.or_true]) ?_
        refine Nat.eq_of_testBit_eq (fun i => ?_)
        have z2 := congrArg (fun m => m.testBit i) z
        simp only [Nat.testBit_and, Nat.zero_testBit] at z2 ⊢
        cases q3 : (T 1 h).testBit i
        · rfl
        · rw [q3, Bool.true_and] at z2
          cases q4 : (T 1 e).testBit i
          · rfl
          · have : (orp (dtb T (nI h)) (T 0 0)).testBit i = true := (orp_tb _ _ _).mpr ⟨e, he, by
              unfold dtb
              rw [if_neg (fun w => q ((nI_eq (by omega) (by omega)).mp w)), q2, if_neg (by decide)]
              exact q4⟩
            rw [this] at z2
            exact absurd z2 (by decide)
      · rw [Bool.or_true]; rfl
  · intro z
    refine Nat.eq_of_testBit_eq (fun i => ?_)
    rw [Nat.testBit_and, Nat.zero_testBit]
    cases q3 : (T 1 h).testBit i
    · rfl
    · cases q4 : (orp (dtb T (nI h)) (T 0 0)).testBit i
      · rfl
      · obtain ⟨e, he, q5⟩ := (orp_tb _ _ _).mp q4
        unfold dtb at q5
        by_cases q : e = h
        · rw [if_pos (by rw [q]), Nat.zero_testBit] at q5
          exact absurd q5 (by decide)
        · rw [if_neg (fun w => q ((nI_eq (by omega) (by omega)).mp w))] at q5
          cases q2 : (T 0 1).testBit e
          · rw [q2, if_neg (by decide)] at q5
            have z3 := z e he
            unfold alq at z3
            rw [decide_eq_false q, q2, Bool.false_or, Bool.false_or, decide_eq_true_eq] at z3
            have z2 := congrArg (fun m => m.testBit i) z3
            simp only [Nat.testBit_and, Nat.zero_testBit] at z2
            rw [q3, q5] at z2
            exact absurd z2 (by decide)
          · rw [q2, if_pos rfl, Nat.zero_testBit] at q5
            exact absurd q5 (by decide)
theorem x9_al23 (hF : 8 < F) (hR : RT S 376 T) (hW : Wf T) (K : Int32 → Int32 → Option Int32) {h : Nat} (hh : h < T 0 0) (m : Nat) (b : Bool) : lX9_alone_23 F K 375 F S (nI m) (nI h) (bI b) (nI 0) = K (nI (m ||| (if (b && alb (alq T h) (T 0 0)) = true then 2 ^ h else 0))) (nI (h + 1)) := by
  have w0 := hW.1
  have h0 : bI b = bI (b && alb (alq T h) 0) := by rw [show alb (alq T h) 0 = true from rfl, Bool.and_true]
  rw [h0]
  refine up_l (fun k i => lX9_alone_23 F K 375 k S (nI m) (nI h) (bI (b && alb (alq T h) i)) (nI i)) _ (T 0 0) (fun k => ?_) (fun k i hi => ?_) F 0 (by omega) (by omega)
  · show lX9_alone_23 F K 375 (k + 1) S _ _ _ _ = _
    rw [u_X9_alone_23, inb_n (by omega) (by omega), ck_t, nI_clamp (by omega), hR.1, if_pos (nI_le (Nat.le_refl _) (by omega)), i_shl (by omega), fa_or, fa_or, nI_add]
    cases (b && alb (alq T h) (T 0 0))
    · rw [if_pos (show bI false = nI 0 from rfl), if_neg (by decide)]
    · rw [if_neg (show ¬ bI true = nI 0 by decide), if_pos rfl]
  · show lX9_alone_23 F K 375 (k + 1) S _ _ _ _ = lX9_alone_23 F K 375 k S (nI m) (nI h) (bI (b && alb (alq T h) (i + 1))) (nI (i + 1))
    have s1 := (hW.2.2.2.2.2.1 i hi).1
    have s2 : T 1 h &&& T 1 i ≤ T 1 i := Nat.and_le_right
    rw [u_X9_alone_23, inb_n (by omega) (by omega), ck_t, nI_clamp (by omega), hR.1, if_neg (nI_ge hi (by omega)), x9_isHeren hR hW hi, x9_shut hR hW hh, x9_shut hR hW hi, alb_s, ← Bool.and_assoc]
    simp only [bd_s, nI_add, fa_and]
    simp (disch := omega) only [nI_eq]
    generalize (b && alb (alq T h) i) = c
    cases c
    · exact if_pos rfl
    · rw [if_neg (show ¬ bI true = nI 0 by decide)]
      unfold alq
      by_cases e : i = h
      · rw [if_pos e, decide_eq_true e]; rfl
      · rw [if_neg e, decide_eq_false e]
        cases (T 0 1).testBit i
        · by_cases q : T 1 h &&& T 1 i = 0
          · simp [q, bI_1]
          · simp [q, bI_0]
        · simp [bI_1]
/-- gossip: who knows the next day -/
def gsp (N : Tw) (m k : Nat) : Nat := itr (fun i x => if m.testBit (N 4 i) = true then x ||| 2 ^ N 5 i else x) m k
theorem gsp_lt {P : Nat → Tw} {N : Tw} (hV : WV T P N) {m : Nat} (hm : m < 128) : ∀ k, k ≤ N 0 4 → gsp N m k < 128 := fun k hk =>
  itr_inv (P := fun _ x => x < 128) hm (fun i x hi hx => by
    have := (hV.2.2.2.2.1 i (by omega)).2
    show (if _ then _ else _) < 128
    split
    · exact or_lt7 hx (p2_lt7 this)
    · exact hx)
theorem x7_kn (hF : 10 < F) {P : Nat → Tw} {N : Tw} (hC : CW S 40 T P N) (hV : WV T P N) {m : Nat} (hm : m < 128) : f_X7_knowingNext F S 40 (nI m) = some (nI (gsp N m (N 0 4))) := by
  have w4 := hV.2.2.1.2.2.2.2.2
  have c12 : S.1 40 12 = nI (N 0 4) := hC.2.2.2.1.2.2.2.2.2
  rw [u_X7_knowingNext]
  refine up_l (fun k i => lX7_knowingNext_4 F 40 (nI m) k S (nI (gsp N m i)) (nI i)) _ (N 0 4) (fun k => ?_) (fun k i hi => ?_) F 0 (by omega) (by omega)
  · show lX7_knowingNext_4 F 40 (nI m) (k + 1) S _ _ = _
    rw [u_X7_knowingNext_4, c12, if_pos (nI_le (Nat.le_refl _) (by omega))]
  · show lX7_knowingNext_4 F 40 (nI m) (k + 1) S _ _ = lX7_knowingNext_4 F 40 (nI m) k S (nI (gsp N m (i + 1))) (nI (i + 1))
    have g : S.1 (40 + 10) i = nI (N 4 i) ∧ S.1 (40 + 11) i = nI (N 5 i) := hC.2.2.2.2.2 i hi
    have b := hV.2.2.2.2.1 i hi
    rw [u_X7_knowingNext_4, c12, if_neg (nI_ge hi (by omega)), inb_n (by omega) (by omega), ck_t, ck_t, nI_clamp (by omega), g.1, g.2, i_shl (by omega), fa_or, nI_add]
    simp (disch := omega) only [i_bit1]
    show _ = lX7_knowingNext_4 F 40 (nI m) k S (nI (if m.testBit (N 4 i) = true then gsp N m i ||| 2 ^ N 5 i else gsp N m i)) (nI (i + 1))
    split <;> rfl
theorem x9_spread (hF : 10 < F) {P : Nat → Tw} {N : Tw} (hR : RW S 376 T P N) (hV : WV T P N) {m : Nat} (hm : m < 128) : f_X9_spread F S 375 (nI m) = some (nI (gsp N m (N 0 4))) := by
  have w4 := hV.2.2.1.2.2.2.2.2
  have c12 : S.1 376 5 = nI (N 0 4) := hR.2.2.1.2.2.2.2
  rw [u_X9_spread]
  refine up_l (fun k i => lX9_spread_4 F 375 (nI m) k S (nI (gsp N m i)) (nI i)) _ (N 0 4) (fun k => ?_) (fun k i hi => ?_) F 0 (by omega) (by omega)
  · show lX9_spread_4 F 375 (nI m) (k + 1) S _ _ = _
    rw [u_X9_spread_4, inb_n (by omega) (by omega), ck_t, nI_clamp (by omega), c12, if_pos (nI_le (Nat.le_refl _) (by omega))]
  · show lX9_spread_4 F 375 (nI m) (k + 1) S _ _ = lX9_spread_4 F 375 (nI m) k S (nI (gsp N m (i + 1))) (nI (i + 1))
    have g : S.1 376 (92 + 2 * i) = nI (N 4 i) ∧ S.1 376 (92 + 2 * i + 1) = nI (N 5 i) := hR.2.2.2.2.1 i hi
    have b := hV.2.2.2.2.1 i hi
    rw [u_X9_spread_4, inb_n (by omega) (by omega), ck_t, nI_clamp (by omega), c12, if_neg (nI_ge hi (by omega)), pk_mul, nI_add, nI_add, inb_n (by omega) (by omega), inb_n (by omega) (by omega), ck_t, ck_t, nI_clamp (by omega), nI_clamp (by omega), g.1, g.2, i_shl (by omega), fa_or, nI_add, x9_has S (by omega) (by omega)]
    show _ = lX9_spread_4 F 375 (nI m) k S (nI (if m.testBit (N 4 i) = true then gsp N m i ||| 2 ^ N 5 i else gsp N m i)) (nI (i + 1))
    split <;> rfl
/-- leap: dates moved by a day -/
def rot (m : Nat) : Nat := (m * 2 ||| m / 2 ^ 19) % 2 ^ 20
theorem rot_lt (m : Nat) : rot m < 1048576 := Nat.mod_lt _ (by decide)
theorem rot_tb {m j : Nat} (hm : m < 1048576) (hj : j < 20) : (rot m).testBit j = m.testBit ((j + 19) % 20) := by
  unfold rot
  rw [Nat.testBit_mod_two_pow, decide_eq_true hj, Bool.true_and, Nat.testBit_or, show m * 2 = m * 2 ^ 1 from rfl, Nat.testBit_mul_two_pow, Nat.testBit_div_two_pow]
  by_cases e : j = 0
  · subst e; rfl
  · rw [decide_eq_true (show j ≥ 1 by omega), Bool.true_and, Nat.testBit_lt_two_pow (show m < 2 ^ (j + 19) from Nat.lt_of_lt_of_le hm (Nat.pow_le_pow_right (by decide) (show 20 ≤ j + 19 by omega) : 2 ^ 20 ≤ 2 ^ (j + 19))), Bool.or_false, show (j + 19) % 20 = j - 1 by omega]
def rtn (m : Nat) : Nat → Nat
  | 0 => m
  | d + 1 => rot (rtn m d)
theorem rtn_lt {m : Nat} (hm : m < 1048576) : ∀ d, rtn m d < 1048576
  | 0 => hm
  | d + 1 => rot_lt _
theorem rtn_tb {m : Nat} (hm : m < 1048576) : ∀ d j, j < 20 → (rtn m d).testBit j = m.testBit ((j + 19 * d) % 20)
  | 0, j, hj => by rw [show (j + 19 * 0) % 20 = j by omega]; rfl
  | d + 1, j, hj => by
    show (rot (rtn m d)).testBit j = _
    rw [rot_tb (rtn_lt hm d) hj, rtn_tb hm d _ (by omega), show ((j + 19) % 20 + 19 * d) % 20 = (j + 19 * (d + 1)) % 20 by omega]
theorem tb20 {m j : Nat} (hm : m < 1048576) (hj : 20 ≤ j) : m.testBit j = false := Nat.testBit_lt_two_pow (Nat.lt_of_lt_of_le hm (Nat.pow_le_pow_right (by decide) hj : 2 ^ 20 ≤ 2 ^ j))
theorem rtn_20 {m : Nat} (hm : m < 1048576) : rtn m 20 = m := Nat.eq_of_testBit_eq (fun j => by
  by_cases hj : j < 20
  · rw [rtn_tb hm 20 j hj, show (j + 19 * 20) % 20 = j by omega]
  · rw [tb20 (rtn_lt hm 20) (by omega), tb20 hm (by omega)])
theorem later_e {m d : Nat} (hm : m < 1048576) : orp (fun i => if m.testBit i = true then 2 ^ ((i + d) % 20) else 0) 20 = rtn m d := by
  have b : orp (fun i => if m.testBit i = true then 2 ^ ((i + d) % 20) else 0) 20 < 1048576 := orp_lt20 (fun e _ => by
    show (if _ then _ else _) < 1048576
    split
    · exact p2_lt20 (by omega)
    · decide)
  refine Nat.eq_of_testBit_eq (fun j => ?_)
  by_cases hj : j < 20
  · rw [rtn_tb hm d j hj, Bool.eq_iff_iff, orp_tb]
    constructor
    · rintro ⟨e, he, h⟩
      by_cases q : m.testBit e = true
      · rw [if_pos q, Nat.testBit_two_pow, decide_eq_true_eq] at h
        rw [show (j + 19 * d) % 20 = e by omega]
        exact q
      · rw [if_neg q, Nat.zero_testBit] at h
        exact absurd h (by decide)
    · intro h
      refine ⟨(j + 19 * d) % 20, by omega, ?_⟩
      rw [if_pos h, Nat.testBit_two_pow, decide_eq_true_eq]
      omega
  · rw [tb20 b (by omega), tb20 (rtn_lt hm d) (by omega)]
theorem x9_later (hF : 30 < F) {m d : Nat} (hm : m < 1048576) (hd : d ≤ 20) : f_X9_later F S (nI m) (nI d) = some (nI (rtn m d)) := by
  rw [u_X9_later, ← later_e hm]
  refine up_l (fun k i => lX9_later_4 F (nI m) (nI d) k S (nI (orp (fun i => if m.testBit i = true then 2 ^ ((i + d) % 20) else 0) i)) (nI i)) _ 20 (fun k => ?_) (fun k i hi => ?_) F 0 (by omega) (by omega)
  · show lX9_later_4 F (nI m) (nI d) (k + 1) S _ _ = _
    rw [u_X9_later_4, if_pos (nI_le (Nat.le_refl _) (by omega))]
  · show lX9_later_4 F (nI m) (nI d) (k + 1) S _ _ = lX9_later_4 F (nI m) (nI d) k S (nI (orp _ (i + 1))) (nI (i + 1))
    rw [u_X9_later_4, if_neg (nI_ge hi (by omega)), x9_has S (by omega) (by omega), nI_add, pk_rem (by omega) (by omega) (by omega), i_shl (by omega), fa_or, fa_or, nI_add, orp_s]
    show _ = lX9_later_4 F (nI m) (nI d) k S (nI (orp _ i ||| if m.testBit i = true then 2 ^ ((i + d) % 20) else 0)) (nI (i + 1))
    split <;> rfl
end
theorem st_twins : ∀ S, Inv S → Step μX8_twins μX9_twins Inv S [] := by
  intro S hI
  obtain ⟨T, P, N, hCW, hRW, hWV, hC, hR, hW⟩ := hI.t
  obtain ⟨F, hF⟩ := big_F
  have w0 := hW.1
  have w2 := hW.2.2.1
  have w4 := hW.2.2.2.2.1
  have c5 : S.1 41 5 = nI (T 0 0) := hC.1
  have c7 : S.1 41 7 = nI (T 0 2) := hC.2.2.1
  have cs : ∀ h, h < T 0 0 → S.1 42 h = nI (T 1 h) := hC.2.2.2.2.2.1
  have r0 : S.1 376 0 = nI (T 0 0) := hR.1
  have r8 : S.1 376 8 = nI (T 0 2) := hR.2.1
  have h1 : f_X8_twins F S 0 = some (nI (fb_sm (fun h => fb_ct (twq T h) h) (T 0 0))) := by
    rw [u_X8_twins]
    refine up_l (fun k i => lX8_twins_12 F 0 k S (nI (fb_sm (fun h => fb_ct (twq T h) h) i)) (nI i)) _ (T 0 0) (fun k => ?_) (fun k i hi => ?_) F 0 (by omega) (by omega)
    · show lX8_twins_12 F 0 (k + 1) S _ _ = _
      rw [u_X8_twins_12, c5, if_pos (nI_le (Nat.le_refl _) (by omega))]
    · show lX8_twins_12 F 0 (k + 1) S _ _ = lX8_twins_12 F 0 k S _ _
      rw [u_X8_twins_12, c5, if_neg (nI_ge hi (by omega)), x8_tw23 (by omega) hC hW _ hi]
      rfl
  have h2 : f_X9_twins F S 375 = some (nI (fb_sm (fun h => fb_ct (twq T h) h) (T 0 0))) := by
    rw [u_X9_twins]
    refine up_l (fun k i => lX9_twins_4 F 375 k S (nI (fb_sm (fun h => fb_ct (twq T h) h) i)) (nI i)) _ (T 0 0) (fun k => ?_) (fun k i hi => ?_) F 0 (by omega) (by omega)
    · show lX9_twins_4 F 375 (k + 1) S _ _ = _
      rw [u_X9_twins_4, inb_n (by omega) (by omega), ck_t, nI_clamp (by omega), r0, if_pos (nI_le (Nat.le_refl _) (by omega))]
    · show lX9_twins_4 F 375 (k + 1) S _ _ = lX9_twins_4 F 375 k S _ _
      rw [u_X9_twins_4, inb_n (by omega) (by omega), ck_t, nI_clamp (by omega), r0, if_neg (nI_ge hi (by omega)), x9_tw16 (by omega) hR hW _ hi]
      rfl
  exact stepR hI (c_X8_twins k_0 h1) (c_X9_twins k_375 h2) (by decide) (by decide)
theorem st_alone : ∀ S, Inv S → Step μX8_alone μX9_alone Inv S [] := by
  intro S hI
  obtain ⟨T, P, N, hCW, hRW, hWV, hC, hR, hW⟩ := hI.t
  obtain ⟨F, hF⟩ := big_F
  have w0 := hW.1
  have w2 := hW.2.2.1
  have w4 := hW.2.2.2.2.1
  have c5 : S.1 41 5 = nI (T 0 0) := hC.1
  have c7 : S.1 41 7 = nI (T 0 2) := hC.2.2.1
  have cs : ∀ h, h < T 0 0 → S.1 42 h = nI (T 1 h) := hC.2.2.2.2.2.1
  have r0 : S.1 376 0 = nI (T 0 0) := hR.1
  have r8 : S.1 376 8 = nI (T 0 2) := hR.2.1
  have h1 : f_X8_alone F S 0 = some (nI (mkp (fun h => !(T 0 1).testBit h && alb (alq T h) (T 0 0)) (T 0 0))) := by
    rw [u_X8_alone]
    refine up_l (fun k i => lX8_alone_12 F 0 k S (nI (mkp (fun h => !(T 0 1).testBit h && alb (alq T h) (T 0 0)) i)) (nI i)) _ (T 0 0) (fun k => ?_) (fun k i hi => ?_) F 0 (by omega) (by omega)
    · show lX8_alone_12 F 0 (k + 1) S _ _ = _
      rw [u_X8_alone_12, c5, if_pos (nI_le (Nat.le_refl _) (by omega))]
    · show lX8_alone_12 F 0 (k + 1) S _ _ = lX8_alone_12 F 0 k S (nI (mkp _ (i + 1))) (nI (i + 1))
      have s := (hW.2.2.2.2.2.1 i hi).1
      have s2 : T 1 i &&& orp (dtb T (nI i)) (T 0 0) ≤ T 1 i := Nat.and_le_left
      rw [u_X8_alone_12, c5, if_neg (nI_ge hi (by omega)), x6_livesn hC hW hi, inb_n (by omega) (by omega), ck_t, x6_datesBut (F := F) (by omega) hC hW, bd_s, nI_clamp (by omega), cs i hi, fa_and, i_shl (by omega), fa_or, nI_add, mkp_s]
      simp (disch := omega) only [nI_eq, alq_all hW hi]
      cases (T 0 1).testBit i
      · cases alb (alq T i) (T 0 0)
        · simp
        · simp
      · simp
  have h2 : f_X9_alone F S 375 = some (nI (mkp (fun h => !(T 0 1).testBit h && alb (alq T h) (T 0 0)) (T 0 0))) := by
    rw [u_X9_alone]
    refine up_l (fun k i => lX9_alone_4 F 375 k S (nI (mkp (fun h => !(T 0 1).testBit h && alb (alq T h) (T 0 0)) i)) (nI i)) _ (T 0 0) (fun k => ?_) (fun k i hi => ?_) F 0 (by omega) (by omega)
    · show lX9_alone_4 F 375 (k + 1) S _ _ = _
      rw [u_X9_alone_4, inb_n (by omega) (by omega), ck_t, nI_clamp (by omega), r0, if_pos (nI_le (Nat.le_refl _) (by omega))]
    · show lX9_alone_4 F 375 (k + 1) S _ _ = lX9_alone_4 F 375 k S (nI (mkp _ (i + 1))) (nI (i + 1))
      rw [u_X9_alone_4, inb_n (by omega) (by omega), ck_t, nI_clamp (by omega), r0, if_neg (nI_ge hi (by omega)), x9_isHeren hR hW hi, bd_s, x9_al23 (by omega) hR hW _ hi]
      rfl
  exact stepR hI (c_X8_alone k_0 h1) (c_X9_alone k_375 h2) (by decide) (by decide)
theorem st_knows : ∀ S, Inv S → ∀ a1 a2, Step μX8_knows μX9_knows Inv S [.int a1, .int a2] := by
  intro S hI a b
  obtain ⟨T, P, N, hCW, hRW, hWV, hC, hR, hW⟩ := hI.t
  obtain ⟨F, hF⟩ := big_F
  have w0 := hW.1
  have w2 := hW.2.2.1
  have w4 := hW.2.2.2.2.1
  have c5 : S.1 41 5 = nI (T 0 0) := hC.1
  have c7 : S.1 41 7 = nI (T 0 2) := hC.2.2.1
  have cs : ∀ h, h < T 0 0 → S.1 42 h = nI (T 1 h) := hC.2.2.2.2.2.1
  have r0 : S.1 376 0 = nI (T 0 0) := hR.1
  have r8 : S.1 376 8 = nI (T 0 2) := hR.2.1
  have h : ∃ r, f_X8_knows F S 0 a b = some r ∧ f_X9_knows F S 375 a b = some r := by
    rw [u_X8_knows, u_X9_knows, x6_told hC hW, x6_told hC hW, x9_isHouse hR hW, x9_isHouse hR hW, bd_s, bd_s]
    rcases tld_c a (n := T 0 0) (by omega) with q | ⟨h, hh, rfl, q⟩
    · rw [q]; exact ⟨_, rfl, rfl⟩
    rcases tld_c b (n := T 0 0) (by omega) with q2 | ⟨g, hg, rfl, q2⟩
    · rw [q, q2]; exact ⟨_, rfl, rfl⟩
    rw [q, q2, if_pos rfl, if_pos rfl, if_pos rfl, if_pos rfl, i_shl (by omega)]
    refine lockE (fun k m i => lX8_knows_37 F 0 (nI h) (nI g) k S (nI m) (nI i)) (fun k m i => lX9_knows_25 F 375 (nI h) (nI g) k S (nI m) (nI i)) (fun m _ => m < 128) 8 (fun K m i => if 8 ≤ i then some (-1) else if m.testBit h = true then some (nI i) else K (gsp N m (N 0 4)) (i + 1)) (fun k m i hm hi => ?_) (fun k m i hm hi => ?_) (fun m i hm hi => ?_) F (2 ^ g) 0 (p2_lt7 (by omega)) (by omega) (by omega)
    · show lX8_knows_37 F 0 (nI h) (nI g) (k + 1) S _ _ = _
      rw [u_X8_knows_37, x7_kn (F := F) (by omega) hCW hWV hm, bd_s, nI_add]
      simp (disch := omega) only [i_bit1, nI_ltI]
      by_cases e : 7 < i
      · rw [if_pos e, if_pos (by omega)]
      · rw [if_neg e, if_neg (show ¬ 8 ≤ i by omega)]
    · show lX9_knows_25 F 375 (nI h) (nI g) (k + 1) S _ _ = _
      rw [u_X9_knows_25, x9_spread (F := F) (by omega) hRW hWV hm, bd_s, nI_add, x9_has S (by omega) (by omega)]
      simp (disch := omega) only [nI_leI]
    · by_cases e : 8 ≤ i
      · exact Or.inl ⟨_, fun K => if_pos e⟩
      · by_cases q : m.testBit h = true
        · exact Or.inl ⟨_, fun K => by rw [if_neg e, if_pos q]⟩
        · exact Or.inr ⟨(by omega), _, gsp_lt hWV hm _ (Nat.le_refl _), fun K => by rw [if_neg e, if_neg q]⟩
  obtain ⟨r, h1, h2⟩ := h
  exact stepR hI (c_X8_knows k_0 h1) (c_X9_knows k_375 h2) (by decide) (by decide)
theorem st_never : ∀ S, Inv S → ∀ a1, Step μX8_never μX9_never Inv S [.int a1] := by
  intro S hI a
  obtain ⟨T, P, N, hCW, hRW, hWV, hC, hR, hW⟩ := hI.t
  obtain ⟨F, hF⟩ := big_F
  have w0 := hW.1
  have w2 := hW.2.2.1
  have w4 := hW.2.2.2.2.1
  have c5 : S.1 41 5 = nI (T 0 0) := hC.1
  have c7 : S.1 41 7 = nI (T 0 2) := hC.2.2.1
  have cs : ∀ h, h < T 0 0 → S.1 42 h = nI (T 1 h) := hC.2.2.2.2.2.1
  have r0 : S.1 376 0 = nI (T 0 0) := hR.1
  have r8 : S.1 376 8 = nI (T 0 2) := hR.2.1
  have h : ∃ r, f_X8_never F S 0 a = some r ∧ f_X9_never F S 375 a = some r := by
    rw [u_X8_never, u_X9_never, x6_told hC hW, x9_isHouse hR hW, bd_s]
    rcases tld_c a (n := T 0 0) (by omega) with q | ⟨h, hh, rfl, q⟩
    · rw [q]; exact ⟨_, rfl, rfl⟩
    rw [q, if_pos rfl, if_pos rfl, i_shl (by omega)]
    refine lockE (fun k m i => lX8_never_22 F 0 (nI h) k S (nI m) (nI i)) (fun k m i => lX9_never_16 F 375 (nI h) k S (nI m) (nI i)) (fun m _ => m < 128) 8 (fun K m i => if 8 ≤ i then some (((nI 1 <<< (nI (T 0 0) &&& 31)) - nI 1) &&& (nI m ^^^ (-1 : Int32))) else K (gsp N m (N 0 4)) (i + 1)) (fun k m i hm hi => ?_) (fun k m i hm hi => ?_) (fun m i hm hi => ?_) F (2 ^ h) 0 (p2_lt7 (by omega)) (by omega) (by omega)
    · show lX8_never_22 F 0 (nI h) (k + 1) S _ _ = _
      rw [u_X8_never_22, x7_kn (F := F) (by omega) hCW hWV hm, bd_s, nI_add, c5]
      simp (disch := omega) only [nI_ltI]
      by_cases e : 7 < i
      · rw [if_pos e, if_pos (by omega)]
      · rw [if_neg e, if_neg (show ¬ 8 ≤ i by omega)]
    · show lX9_never_16 F 375 (nI h) (k + 1) S _ _ = _
      rw [u_X9_never_16, x9_spread (F := F) (by omega) hRW hWV hm, bd_s, nI_add, inb_n (by omega) (by omega), ck_t, nI_clamp (by omega), r0]
      simp (disch := omega) only [nI_leI]
    · by_cases e : 8 ≤ i
      · exact Or.inl ⟨_, fun K => if_pos e⟩
      · exact Or.inr ⟨(by omega), _, gsp_lt hWV hm _ (Nat.le_refl _), fun K => by rw [if_neg e]⟩
  obtain ⟨r, h1, h2⟩ := h
  exact stepR hI (c_X8_never k_0 h1) (c_X9_never k_375 h2) (by decide) (by decide)
theorem st_leap : ∀ S, Inv S → ∀ a1 a2, Step μX8_leap μX9_leap Inv S [.int a1, .int a2] := by
  intro S hI a b
  obtain ⟨T, P, N, hCW, hRW, hWV, hC, hR, hW⟩ := hI.t
  obtain ⟨F, hF⟩ := big_F
  have w0 := hW.1
  have w2 := hW.2.2.1
  have w4 := hW.2.2.2.2.1
  have c5 : S.1 41 5 = nI (T 0 0) := hC.1
  have c7 : S.1 41 7 = nI (T 0 2) := hC.2.2.1
  have cs : ∀ h, h < T 0 0 → S.1 42 h = nI (T 1 h) := hC.2.2.2.2.2.1
  have r0 : S.1 376 0 = nI (T 0 0) := hR.1
  have r8 : S.1 376 8 = nI (T 0 2) := hR.2.1
  have h : ∃ r, f_X8_leap F S 0 a b = some r ∧ f_X9_leap F S 375 a b = some r := by
    rw [u_X8_leap, u_X9_leap, x6_told hC hW, x6_told hC hW, x9_isHouse hR hW, x9_isHouse hR hW, bd_s, bd_s]
    rcases tld_c a (n := T 0 0) (by omega) with q | ⟨h, hh, rfl, q⟩
    · rw [q]; exact ⟨_, rfl, rfl⟩
    rcases tld_c b (n := T 0 0) (by omega) with q2 | ⟨g, hg, rfl, q2⟩
    · rw [q, q2]; exact ⟨_, rfl, rfl⟩
    have s1 := (hW.2.2.2.2.2.1 h hh).1
    have s2 := (hW.2.2.2.2.2.1 g hg).1
    rw [q, q2, if_pos rfl, if_pos rfl, if_pos rfl, if_pos rfl, inb_n (by omega) (by omega), ck_t, nI_clamp (by omega), cs h hh]
    obtain ⟨F', rfl⟩ : ∃ F', F = F' + 1 := ⟨F - 1, by omega⟩
    refine lock (fun k i => lX8_leap_46 (F' + 1) 0 (nI h) (nI g) (k + 1) S (nI (rtn (T 1 h) i)) (nI i)) (fun k i => lX9_leap_20 (F' + 1) 375 (nI h) (nI g) (k + 1) S (nI i)) (fun i j => i = j ∧ i ≤ 20 ∧ (0 < i → T 1 h ≠ T 1 g)) (fun i => 20 - i) ?_ F' 0 0 ⟨rfl, (by omega), fun h => absurd h (by omega)⟩ (by omega)
    rintro i j ⟨rfl, hi, hne⟩
    have b := rtn_lt s1 i
    have e8 : ∀ k, lX8_leap_46 (F' + 1) 0 (nI h) (nI g) (k + 1) S (nI (rtn (T 1 h) i)) (nI i) = if 20 ≤ i then some (-1) else if rtn (T 1 h) i = T 1 g then some (nI i) else lX8_leap_46 (F' + 1) 0 (nI h) (nI g) k S (nI (rtn (T 1 h) (i + 1))) (nI (i + 1)) := fun k => by
      rw [u_X8_leap_46, inb_n (by omega) (by omega), ck_t, nI_clamp (by omega), cs g hg, i_shl2 (d := 1) (by omega) (by omega), i_sh (d := 19) (by omega) (by omega), fa_or, pk_andN (m := nI 1048575) (Nat.lt_of_lt_of_le (Nat.or_lt_two_pow (n := 21) (show rtn (T 1 h) i * 2 ^ 1 < 2 ^ 21 by omega) (show rtn (T 1 h) i / 2 ^ 19 < 2 ^ 21 by omega)) (by decide)) 20 (by decide), nI_add]
      simp (disch := omega) only [nI_leI, nI_eq]
      rfl
    have e9 : ∀ k, lX9_leap_20 (F' + 1) 375 (nI h) (nI g) (k + 1) S (nI i) = if rtn (T 1 h) i = T 1 g then some (nI i) else lX9_leap_20 (F' + 1) 375 (nI h) (nI g) k S (nI (i + 1)) := fun k => by
      rw [u_X9_leap_20, x9_shut hR hW hh, x9_shut hR hW hg, bd_s, x9_later (F := F' + 1) (by omega) s1 hi, bd_s, bd_s, nI_add, if_neg (nI_nlt hi (by omega))]
      simp (disch := omega) only [nI_eq]
    by_cases e : i = 20
    · subst e
      exact Or.inl ⟨-1, fun k => by rw [e8, if_pos (Nat.le_refl _)], fun k => by rw [e9, if_neg (by rw [rtn_20 s1]; exact hne (by omega)), u_X9_leap_20, if_pos (by decide)]⟩
    · by_cases z : rtn (T 1 h) i = T 1 g
      · exact Or.inl ⟨nI i, fun k => by rw [e8, if_neg (by omega), if_pos z], fun k => by rw [e9, if_pos z]⟩
      · refine Or.inr ⟨i + 1, i + 1, ⟨rfl, (by omega), fun _ w => ?_⟩, (by omega), fun k => by rw [e8, if_neg (by omega), if_neg z], fun k => by rw [e9, if_neg z]⟩
        by_cases q3 : i = 0
        · subst q3; exact z w
        · exact hne (by omega) w
  obtain ⟨r, h1, h2⟩ := h
  exact stepR hI (c_X8_leap k_0 h1) (c_X9_leap k_375 h2) (by decide) (by decide)
