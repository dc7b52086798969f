/-! ===== steps that only read: alone, nobodys, twins, rounds, leap, knows, never ===== -/
section
variable {F : Nat} {S : mS} {t : Nat} {T : Tw}
/-- the dates of all living houses but one -/
def dtb (T : Tw) (a : Int32) (h : Nat) : Nat := if nI h = a then 0 else if (T 0 1).testBit h = true then 0 else T 1 h
theorem dtb_lt (hW : Wf T) (a : Int32) : ∀ e, e < T 0 0 → dtb T a e < 1048576 := fun e he => by
  have s := (hW.2.2.2.2.2.1 e he).1
  unfold dtb
  split
  · omega
  · split
    · omega
    · exact s
theorem x6_datesBut (hF : 8 < F) (hC : CT S t T) (hW : Wf T) (a : Int32) : f_X6_datesBut F S t a = some (nI (orp (dtb T a) (T 0 0))) := by
  have w0 := hW.1
  rw [u_X6_datesBut]
  refine up_l (fun k i => lX6_datesBut_4 F t a k S (nI (orp (dtb T a) i)) (nI i)) _ (T 0 0) (fun k => ?_) (fun k i hi => ?_) F 0 (by omega) (by omega)
  · show lX6_datesBut_4 F t a (k + 1) S _ _ = _
    rw [u_X6_datesBut_4, hC.1, if_pos (nI_le (Nat.le_refl _) (by omega))]
  · show lX6_datesBut_4 F t a (k + 1) S _ _ = lX6_datesBut_4 F t a k S (nI (orp (dtb T a) (i + 1))) (nI (i + 1))
    rw [u_X6_datesBut_4, hC.1, if_neg (nI_ge hi (by omega)), orp_s, inb_n (by omega) (by omega), ck_t, nI_clamp (by omega), hC.2.2.2.2.2.1 i hi, fa_or, nI_add, x6_livesn hC hW hi]
    unfold dtb
    by_cases e : nI i = a
    · rw [if_pos e, if_pos e, Nat.or_zero]
    · rw [if_neg e, if_neg e]
      cases (T 0 1).testBit i
      · rfl
      · exact congrArg (fun z => lX6_datesBut_4 F t a k S (nI z) (nI (i + 1))) (Nat.or_zero _).symm
def rok (T : Tw) (m h : Nat) : Bool := (T 0 1).testBit h || decide (¬ (m ^^^ (m &&& T 1 h)) = 0)
def ron (T : Tw) (m : Nat) : Bool := decide (∀ h, h < T 0 0 → rok T m h = true)
theorem dif_le (a b : Nat) : a ^^^ (a &&& b) ≤ a := by
  have h : a ^^^ (a &&& b) = a &&& (a ^^^ (a &&& b)) := Nat.eq_of_testBit_eq (fun i => by
    rw [Nat.testBit_and, dif_tb]
    cases a.testBit i <;> cases b.testBit i <;> rfl)
  rw [h]
  exact Nat.and_le_left
theorem x6_allOpen (hF : 8 < F) (hC : CT S t T) (hW : Wf T) {m : Nat} (hm : m < 2 ^ 31) : f_X6_allOpenOnce F S t (nI m) = some (ron T m) := by
  have w0 := hW.1
  rw [u_X6_allOpenOnce]
  refine (up_s (fun k i => lX6_allOpenOnce_2 F t (nI m) k S (nI i)) (fun h => if rok T m h = true then none else some (some false)) (some true) (T 0 0) (fun k => ?_) (fun k i hi => ?_) F 0 (by omega) (by omega)).trans (srch_al0 _ _)
  · show lX6_allOpenOnce_2 F t (nI m) (k + 1) S _ = _
    rw [u_X6_allOpenOnce_2, hC.1, if_pos (nI_le (Nat.le_refl _) (by omega))]
  · show (∀ r, _ → lX6_allOpenOnce_2 F t (nI m) (k + 1) S _ = r) ∧ (_ → lX6_allOpenOnce_2 F t (nI m) (k + 1) S _ = lX6_allOpenOnce_2 F t (nI m) k S (nI (i + 1)))
    have b := dif_le m (T 1 i)
    rw [u_X6_allOpenOnce_2, hC.1, if_neg (nI_ge hi (by omega)), inb_n (by omega) (by omega), ck_t, nI_clamp (by omega), hC.2.2.2.2.2.1 i hi, i_dif, nI_add, x6_livesn hC hW hi]
    simp (disch := omega) only [nI_eq]
    unfold rok
    cases (T 0 1).testBit i
    · by_cases q : m ^^^ (m &&& T 1 i) = 0
      · simp [q]
      · simp [q]
    · simp
theorem x9_isRound (hF : 8 < F) (hR : RT S 376 T) (hW : Wf T) {m : Nat} (hm : m < 2 ^ 31) : f_X9_isRound F S 375 (nI m) = some (ron T m) := by
  have w0 := hW.1
  rw [u_X9_isRound]
  refine (up_s (fun k i => lX9_isRound_2 F 375 (nI m) k S (nI i)) (fun h => if rok T m h = true then none else some (some false)) (some true) (T 0 0) (fun k => ?_) (fun k i hi => ?_) F 0 (by omega) (by omega)).trans (srch_al0 _ _)
  · show lX9_isRound_2 F 375 (nI m) (k + 1) S _ = _
    rw [u_X9_isRound_2, inb_n (by omega) (by omega), ck_t, nI_clamp (by omega), hR.1, if_pos (nI_le (Nat.le_refl _) (by omega))]
  · show (∀ r, _ → lX9_isRound_2 F 375 (nI m) (k + 1) S _ = r) ∧ (_ → lX9_isRound_2 F 375 (nI m) (k + 1) S _ = lX9_isRound_2 F 375 (nI m) k S (nI (i + 1)))
    have b := dif_le m (T 1 i)
    rw [u_X9_isRound_2, inb_n (by omega) (by omega), ck_t, nI_clamp (by omega), hR.1, if_neg (nI_ge hi (by omega)), x9_isHeren hR hW hi, x9_shut hR hW hi, bd_s, bd_s, i_dif, nI_add]
    simp (disch := omega) only [nI_eq]
    unfold rok
    cases (T 0 1).testBit i
    · by_cases q : m ^^^ (m &&& T 1 i) = 0
      · simp [q]
      · simp [q]
    · simp
theorem ron_two (hW : Wf T) (hx : ∀ y, y < 20 → ∀ x, x < y → ron T (2 ^ x ||| 2 ^ y) = false) : False := by
  have w0 := hW.1
  have key : ∀ j, ∃ h, j < 8 → h < 7 ∧ h < T 0 0 ∧ (T 1 h).testBit (2 * j) = true ∧ (T 1 h).testBit (2 * j + 1) = true := fun j => by
    by_cases hj : j < 8
    · have r := hx (2 * j + 1) (by omega) (2 * j) (by omega)
      unfold ron at r
      rw [decide_eq_false_iff_not] at r
      have : ∃ h, h < T 0 0 ∧ rok T (2 ^ (2 * j) ||| 2 ^ (2 * j + 1)) h = false := by
        refine Classical.byContradiction fun hn => r (fun h h2 => ?_)
        cases q : rok T (2 ^ (2 * j) ||| 2 ^ (2 * j + 1)) h
        · exact absurd ⟨h, by omega, q⟩ hn
        · rfl
      obtain ⟨h, hh, q⟩ := this
      refine ⟨h, fun _ => ⟨by omega, hh, ?_⟩⟩
      unfold rok at q
      rw [Bool.or_eq_false_iff, decide_eq_false_iff_not, Decidable.not_not] at q
      have e : ∀ i, (2 ^ (2 * j) ||| 2 ^ (2 * j + 1)).testBit i = true → (T 1 h).testBit i = true := fun i hi => by
        have z := congrArg (fun m => m.testBit i) q.2
        simp only [dif_tb, hi, Nat.zero_testBit] at z
        cases q2 : (T 1 h).testBit i
        · rw [q2] at z; exact absurd z (by decide)
        · rfl
      refine ⟨e _ ?_, e _ ?_⟩
      · rw [Nat.testBit_or, Nat.testBit_two_pow_self]; rfl
      · rw [Nat.testBit_or, Nat.testBit_two_pow_self, Bool.or_true]
    · exact ⟨0, fun h => absurd h hj⟩
  obtain ⟨f, hf⟩ := Classical.axiomOfChoice key
  obtain ⟨i, j, hij, hj, e⟩ := fb_twice (m := 7) (n := 8) (f := f) (fun i hi => (hf i hi).1) (by decide)
  have a := hf i (by omega)
  have b := hf j hj
  have d := (hW.2.2.2.2.2.1 (f j) b.2.1).2.1
  rw [e] at a
  rw [pcf_ct] at d
  have h1 := ct_one (p := (T 1 (f j)).testBit) a.2.2.1 (show 2 * i < 2 * i + 1 by omega)
  have h2 := ct_one (p := (T 1 (f j)).testBit) a.2.2.2 (show 2 * i + 1 < 2 * j by omega)
  have h3 := ct_one (p := (T 1 (f j)).testBit) b.2.2.1 (show 2 * j < 2 * j + 1 by omega)
  have h4 := ct_one (p := (T 1 (f j)).testBit) b.2.2.2 (show 2 * j + 1 < 20 by omega)
  omega
/-- rounds: the two searches -/
def rg (T : Tw) (y x : Nat) : Option (Option Int32) := if ron T (2 ^ x ||| 2 ^ y) = true then some (some (nI (2 ^ x ||| 2 ^ y))) else none
theorem x8_r59 (hF : 30 < F) (hC : CT S 41 T) (hW : Wf T) (K : Int32 → Option Int32) {y : Nat} (hy : y < 20) : lX8_rounds_59 F K 0 F S (nI y) (nI 0) = srch (rg T y) (K (nI (y + 1))) y 0 := by
  refine up_s (fun k i => lX8_rounds_59 F K 0 k S (nI y) (nI i)) (rg T y) (K (nI (y + 1))) y (fun k => ?_) (fun k i hi => ?_) F 0 (by omega) (by omega)
  · show lX8_rounds_59 F K 0 (k + 1) S _ _ = _
    rw [u_X8_rounds_59, if_pos (nI_le (Nat.le_refl _) (by omega)), nI_add]
  · show (∀ r, _ → lX8_rounds_59 F K 0 (k + 1) S _ _ = r) ∧ (_ → lX8_rounds_59 F K 0 (k + 1) S _ _ = lX8_rounds_59 F K 0 k S (nI y) (nI (i + 1)))
    have p1 := p2_lt20 (show i < 20 by omega)
    have p2 := p2_lt20 hy
    have p3 := or_lt20 p1 p2
    rw [u_X8_rounds_59, if_neg (nI_ge hi (by omega)), i_shl (by omega), i_shl (by omega), fa_or, Nat.or_comm, x6_allOpen (by omega) hC hW (by omega), bd_s, nI_add]
    unfold rg
    cases ron T (2 ^ i ||| 2 ^ y)
    · simp
    · simp
theorem x9_r48 (hF : 30 < F) (hR : RT S 376 T) (hW : Wf T) (K : Int32 → Option Int32) {y : Nat} (hy : y < 20) : lX9_rounds_48 F K 375 F S (nI y) (nI 0) = srch (rg T y) (K (nI (y + 1))) y 0 := by
  refine up_s (fun k i => lX9_rounds_48 F K 375 k S (nI y) (nI i)) (rg T y) (K (nI (y + 1))) y (fun k => ?_) (fun k i hi => ?_) F 0 (by omega) (by omega)
  · show lX9_rounds_48 F K 375 (k + 1) S _ _ = _
    rw [u_X9_rounds_48, if_pos (nI_le (Nat.le_refl _) (by omega)), nI_add]
  · show (∀ r, _ → lX9_rounds_48 F K 375 (k + 1) S _ _ = r) ∧ (_ → lX9_rounds_48 F K 375 (k + 1) S _ _ = lX9_rounds_48 F K 375 k S (nI y) (nI (i + 1)))
    have p1 := p2_lt20 (show i < 20 by omega)
    have p2 := p2_lt20 hy
    have p3 := or_lt20 p1 p2
    rw [u_X9_rounds_48, if_neg (nI_ge hi (by omega)), i_shl (by omega), i_shl (by omega), fa_or, x9_isRound (by omega) hR hW (by omega), bd_s, nI_add]
    unfold rg
    cases ron T (2 ^ i ||| 2 ^ y)
    · simp
    · simp
/-- the second search finds, or no two will do -/
def rp (T : Tw) : Nat → Nat → Option Int32
  | 0, _ => none
  | m + 1, y => srch (rg T y) (rp T m (y + 1)) y 0
theorem x8_r51 (hF : 30 < F) (hC : CT S 41 T) (hW : Wf T) : ∀ k m y, m ≤ k → 20 ≤ y + m → y ≤ 20 → (∀ y', y' < y → ∀ x, x < y' → ron T (2 ^ x ||| 2 ^ y') = false) → lX8_rounds_51 F 0 (k + 1) S (nI y) = rp T m y := by
  intro k
  induction k with
  | zero =>
    intro m y h1 h2 h3 hn
    exact absurd (ron_two hW (fun y' hy => hn y' (by omega))) (fun h => h)
  | succ k ih =>
    intro m y h1 h2 h3 hn
    by_cases e : y = 20
    · exact (ron_two hW (fun y' hy => hn y' (by omega))).elim
    · obtain ⟨m, rfl⟩ : ∃ m', m = m' + 1 := ⟨m - 1, by omega⟩
      rw [u_X8_rounds_51, if_neg (nI_ge (show y < 20 by omega) (by omega)), x8_r59 hF hC hW _ (by omega)]
      show srch (rg T y) _ y 0 = srch (rg T y) (rp T m (y + 1)) y 0
      rcases srch_or (rg T y) y 0 with ⟨r, h⟩ | ⟨h, h2'⟩
      · rw [h, h]
      · rw [h, h]
        refine ih m (y + 1) (by omega) (by omega) (by omega) (fun y' hy' x hx => ?_)
        by_cases q : y' = y
        · subst q
          have z := h2' x (by omega) (by omega)
          unfold rg at z
          cases q2 : ron T (2 ^ x ||| 2 ^ y')
          · rfl
          · rw [q2] at z; exact absurd z (by simp)
        · exact hn y' (by omega) x hx
theorem x9_r40 (hF : 30 < F) (hR : RT S 376 T) (hW : Wf T) (K : Int32 → Option Int32) : ∀ k m y, m ≤ k → 20 ≤ y + m → y ≤ 20 → (∀ y', y' < y → ∀ x, x < y' → ron T (2 ^ x ||| 2 ^ y') = false) → lX9_rounds_40 F K 375 (k + 1) S (nI y) = rp T m y := by
  intro k
  induction k with
  | zero =>
    intro m y h1 h2 h3 hn
    exact absurd (ron_two hW (fun y' hy => hn y' (by omega))) (fun h => h)
  | succ k ih =>
    intro m y h1 h2 h3 hn
    by_cases e : y = 20
    · exact (ron_two hW (fun y' hy => hn y' (by omega))).elim
    · obtain ⟨m, rfl⟩ : ∃ m', m = m' + 1 := ⟨m - 1, by omega⟩
      rw [u_X9_rounds_40, if_neg (nI_ge (show y < 20 by omega) (by omega)), x9_r48 hF hR hW _ (by omega)]
      show srch (rg T y) _ y 0 = srch (rg T y) (rp T m (y + 1)) y 0
      rcases srch_or (rg T y) y 0 with ⟨r, h⟩ | ⟨h, h2'⟩
      · rw [h, h]
      · rw [h, h]
        refine ih m (y + 1) (by omega) (by omega) (by omega) (fun y' hy' x hx => ?_)
        by_cases q : y' = y
        · subst q
          have z := h2' x (by omega) (by omega)
          unfold rg at z
          cases q2 : ron T (2 ^ x ||| 2 ^ y')
          · rfl
          · rw [q2] at z; exact absurd z (by simp)
        · exact hn y' (by omega) x hx
theorem rp_some (hW : Wf T) : ∀ m y, 20 ≤ y + m → y ≤ 20 → (∀ y', y' < y → ∀ x, x < y' → ron T (2 ^ x ||| 2 ^ y') = false) → ∃ r, rp T m y = some r := by
  intro m
  induction m with
  | zero =>
    intro y h2 h3 hn
    exact (ron_two hW (fun y' hy => hn y' (by omega))).elim
  | succ m ih =>
    intro y h2 h3 hn
    by_cases e : y = 20
    · exact (ron_two hW (fun y' hy => hn y' (by omega))).elim
    show ∃ r, srch (rg T y) (rp T m (y + 1)) y 0 = some r
    rcases srch_or (rg T y) y 0 with ⟨r, h⟩ | ⟨h, h2'⟩
    · have z : ∃ x, x < y ∧ ∃ v, rg T y x = some (some v) := by
        refine Classical.byContradiction fun hn2 => ?_
        have : ∀ n i, i + n ≤ y → ∀ d, srch (rg T y) d n i = d := by
          intro n
          induction n with
          | zero => intro i _ d; rfl
          | succ n ihn =>
            intro i hi d
            have q : rg T y i = none := by
              unfold rg
              cases q2 : ron T (2 ^ i ||| 2 ^ y)
              · rfl
              · exact absurd ⟨i, by omega, nI (2 ^ i ||| 2 ^ y), by unfold rg; rw [q2]; rfl⟩ hn2
            rw [srch_n q]
            exact ihn (i + 1) (by omega) d
        have a := this y 0 (by omega) none
        have b := this y 0 (by omega) (some 0)
        rw [h] at a b
        rw [a] at b
        exact absurd b (by simp)
      have : ∀ n i, i + n = y → (∃ x, i ≤ x ∧ x < y ∧ ∃ v, rg T y x = some (some v)) → ∃ v, srch (rg T y) (rp T m (y + 1)) n i = some v := by
        intro n
        induction n with
        | zero => rintro i hi ⟨x, h1, h2, _⟩; omega
        | succ n ihn =>
          rintro i hi ⟨x, h1, h2, v, hv⟩
          cases q : rg T y i with
          | some r =>
            rw [srch_s q]
            unfold rg at q
            cases q2 : ron T (2 ^ i ||| 2 ^ y)
            · rw [q2] at q; exact absurd q (by simp)
            · rw [q2, if_pos rfl] at q
              exact ⟨_, (Option.some.inj q).symm⟩
          | none =>
            rw [srch_n q]
            refine ihn (i + 1) (by omega) ⟨x, ?_, h2, v, hv⟩
            by_cases e : i = x
            · rw [e, hv] at q; exact absurd q (by simp)
            · omega
      obtain ⟨x, hx, v, hv⟩ := z
      exact this y 0 (by omega) ⟨x, (by omega), hx, v, hv⟩
    · rw [h]
      refine ih (y + 1) (by omega) (by omega) (fun y' hy' x hx => ?_)
      by_cases q : y' = y
      · subst q
        have z := h2' x (by omega) (by omega)
        unfold rg at z
        cases q2 : ron T (2 ^ x ||| 2 ^ y')
        · rfl
        · rw [q2] at z; exact absurd z (by simp)
      · exact hn y' (by omega) x hx
end
theorem st_nobodys : ∀ S, Inv S → Step μX8_nobodys μX9_nobodys Inv S [] := by
  intro S hI
  obtain ⟨T, P, N, hCW, hRW, hWV, hC, hR, hW⟩ := hI.t
  obtain ⟨F, hF⟩ := big_F
  have w0 := hW.1
  have w2 := hW.2.2.1
  have w4 := hW.2.2.2.2.1
  have c5 : S.1 41 5 = nI (T 0 0) := hC.1
  have c7 : S.1 41 7 = nI (T 0 2) := hC.2.2.1
  have cs : ∀ h, h < T 0 0 → S.1 42 h = nI (T 1 h) := hC.2.2.2.2.2.1
  have r0 : S.1 376 0 = nI (T 0 0) := hR.1
  have r8 : S.1 376 8 = nI (T 0 2) := hR.2.1
  have h : ∃ r, f_X8_nobodys F S 0 = some r ∧ f_X9_nobodys F S 375 = some r := by
    rw [u_X8_nobodys, u_X9_nobodys, x6_datesBut (F := F) (by omega) hC hW, bd_s, i_dif]
    refine ⟨_, rfl, ?_⟩
    have e : mkp (fun d => decide (fb_ct (fun h => (T 1 h).testBit d && !(T 0 1).testBit h) (T 0 0) = 0)) 20 = 1048575 ^^^ (1048575 &&& orp (dtb T (-1)) (T 0 0)) := by
      refine (mkp_eq (fun i => ?_)).symm
      rw [dif_tb, show (1048575 : Nat) = 2 ^ 20 - 1 from rfl, Nat.testBit_two_pow_sub_one]
      refine congrArg (decide (i < 20) && ·) ?_
      rw [← Bool.not_not (decide _)]
      refine congrArg (! ·) ?_
      rw [Bool.eq_iff_iff, orp_tb, Bool.not_eq_true', decide_eq_false_iff_not, fb_ct_zero]
      constructor
      · rintro ⟨e, he, h2⟩ h3
        have h4 := h3 e he
        unfold dtb at h2
        rw [if_neg (by rw [n_m1 (by omega)]; exact fun q => q)] at h2
        cases q : (T 0 1).testBit e
        · rw [q, if_neg (by decide)] at h2
          rw [q, h2] at h4
          exact absurd h4 (by decide)
        · rw [q, if_pos rfl, Nat.zero_testBit] at h2
          exact absurd h2 (by decide)
      · intro h3
        refine Classical.byContradiction fun hn => h3 (fun k hk => ?_)
        cases q : (T 0 1).testBit k
        · cases q2 : (T 1 k).testBit i
          · rfl
          · refine absurd ⟨k, hk, ?_⟩ hn
            unfold dtb
            rw [if_neg (by rw [n_m1 (by omega)]; exact fun q => q), q, if_neg (by decide)]
            exact q2
        · cases (T 1 k).testBit i <;> rfl
    rw [← e]
    refine up_l (fun k i => lX9_nobodys_4 F 375 k S (nI (mkp (fun d => decide (fb_ct (fun h => (T 1 h).testBit d && !(T 0 1).testBit h) (T 0 0) = 0)) i)) (nI i)) _ 20 (fun k => ?_) (fun k i hi => ?_) F 0 (by omega) (by omega)
    · show lX9_nobodys_4 F 375 (k + 1) S _ _ = _
      rw [u_X9_nobodys_4, if_pos (nI_le (Nat.le_refl _) (by omega))]
    · show lX9_nobodys_4 F 375 (k + 1) S _ _ = lX9_nobodys_4 F 375 k S (nI (mkp _ (i + 1))) (nI (i + 1))
      have b := fb_ct_le (fun h => (T 1 h).testBit i && !(T 0 1).testBit h) (T 0 0)
      rw [u_X9_nobodys_4, if_neg (nI_ge hi (by omega)), x9_shutOn (F := F) (by omega) hR hW (by omega), bd_s, i_shl (by omega), fa_or, fa_or, nI_add, mkp_s]
      simp (disch := omega) only [nI_eq]
      by_cases q : fb_ct (fun h => (T 1 h).testBit i && !(T 0 1).testBit h) (T 0 0) = 0
      · rw [if_pos q, decide_eq_true q, if_pos rfl]
      · rw [if_neg q, decide_eq_false q, if_neg (by decide)]
  obtain ⟨r, h1, h2⟩ := h
  exact stepR hI (c_X8_nobodys k_0 h1) (c_X9_nobodys k_375 h2) (by decide) (by decide)
theorem st_rounds : ∀ S, Inv S → Step μX8_rounds μX9_rounds Inv S [] := by
  intro S hI
  obtain ⟨T, P, N, hCW, hRW, hWV, hC, hR, hW⟩ := hI.t
  obtain ⟨F, hF⟩ := big_F
  have w0 := hW.1
  have w2 := hW.2.2.1
  have w4 := hW.2.2.2.2.1
  have c5 : S.1 41 5 = nI (T 0 0) := hC.1
  have c7 : S.1 41 7 = nI (T 0 2) := hC.2.2.1
  have cs : ∀ h, h < T 0 0 → S.1 42 h = nI (T 1 h) := hC.2.2.2.2.2.1
  have r0 : S.1 376 0 = nI (T 0 0) := hR.1
  have r8 : S.1 376 8 = nI (T 0 2) := hR.2.1
  have h : ∃ r, f_X8_rounds F S 0 = some r ∧ f_X9_rounds F S 375 = some r := by
    have b := mkp_lt7 (fun h => !(T 0 1).testBit h) w0
    rw [u_X8_rounds, u_X9_rounds, x6_living hC hW, x9_isRound (F := F) (by omega) hR hW (by omega), bd_s]
    have e : (nI (mkp (fun h => !(T 0 1).testBit h) (T 0 0)) = nI 0) = (ron T 0 = true) := by
      rw [nI_eq (by omega) (by omega)]
      unfold ron
      rw [decide_eq_true_eq]
      refine propext ⟨fun h k hk => ?_, fun h => ?_⟩
      · have z := mkp_tb (fun h => !(T 0 1).testBit h) (T 0 0) k
        rw [h, Nat.zero_testBit, decide_eq_true (show k < T 0 0 by omega), Bool.true_and] at z
        unfold rok
        cases q : (T 0 1).testBit k
        · rw [q] at z; exact absurd z (by decide)
        · rfl
      · refine Nat.eq_of_testBit_eq (fun k => ?_)
        rw [mkp_tb, Nat.zero_testBit]
        by_cases hk : k < T 0 0
        · have z := h k hk
          unfold rok at z
          rw [decide_eq_true hk, Bool.true_and]
          rw [Nat.zero_and, Nat.xor_self, decide_eq_false (fun q => q rfl), Bool.or_false] at z
          rw [z]; rfl
        · rw [decide_eq_false hk, Bool.false_and]
    simp only [e]
    by_cases z : ron T 0 = true
    · rw [if_pos z, if_pos z]
      exact ⟨_, rfl, rfl⟩
    · rw [if_neg z, if_neg z]
      obtain ⟨r, hr⟩ := rp_some hW 20 0 (by omega) (by omega) (fun y' hy => absurd hy (by omega))
      obtain ⟨F', rfl⟩ : ∃ F', F = F' + 1 := ⟨F - 1, by omega⟩
      refine lockE (fun k (_ : Unit) i => lX8_rounds_17 (F' + 1) (fun v1 => lX8_rounds_51 (F' + 1) 0 (F' + 1) S v1) 0 k S (nI i)) (fun k _ i => lX9_rounds_12 (F' + 1) (fun v1 => lX9_rounds_40 (F' + 1) (fun v1 => lX9_rounds_89 (F' + 1) 375 (F' + 1) S v1) 375 (F' + 1) S v1) 375 k S (nI i)) (fun _ _ => True) 20 (fun K _ i => if 20 ≤ i then some r else if ron T (2 ^ i) = true then some (nI (2 ^ i)) else K () (i + 1)) (fun k x i _ hi => ?_) (fun k x i _ hi => ?_) (fun x i _ hi => ?_) (F' + 1) () 0 trivial (by omega) (by omega)
      · show lX8_rounds_17 (F' + 1) _ 0 (k + 1) S _ = _
        by_cases q : i = 20
        · subst q
          rw [u_X8_rounds_17, if_pos (by decide), if_pos (by decide)]
          show lX8_rounds_51 (F' + 1) 0 (F' + 1) S (nI 1) = _
          rw [x8_r51 (by omega) hC hW F' 19 1 (by omega) (by omega) (by omega) (fun y' hy' x hx => by omega), ← hr]
          rfl
        · have p1 := p2_lt20 (show i < 20 by omega)
          rw [u_X8_rounds_17, if_neg (nI_ge (show i < 20 by omega) (by omega)), if_neg (show ¬ 20 ≤ i by omega), i_shl (by omega), x6_allOpen (by omega) hC hW (by omega), bd_s, nI_add]
      · show lX9_rounds_12 (F' + 1) _ 375 (k + 1) S _ = _
        by_cases q : i = 20
        · subst q
          rw [u_X9_rounds_12, if_pos (by decide), if_pos (by decide)]
          show lX9_rounds_40 (F' + 1) _ 375 (F' + 1) S (nI 0) = _
          rw [x9_r40 (by omega) hR hW _ F' 20 0 (by omega) (by omega) (by omega) (fun y' hy' x hx => by omega), ← hr]
        · have p1 := p2_lt20 (show i < 20 by omega)
          rw [u_X9_rounds_12, if_neg (nI_ge (show i < 20 by omega) (by omega)), if_neg (show ¬ 20 ≤ i by omega), i_shl (by omega), x9_isRound (by omega) hR hW (by omega), bd_s, nI_add]
      · by_cases q : 20 ≤ i
        · exact Or.inl ⟨_, fun K => if_pos q⟩
        · by_cases q2 : ron T (2 ^ i) = true
          · exact Or.inl ⟨_, fun K => by rw [if_neg q, if_pos q2]⟩
          · exact Or.inr ⟨(by omega), (), trivial, fun K => by rw [if_neg q, if_neg q2]⟩
  obtain ⟨r, h1, h2⟩ := h
  exact stepR hI (c_X8_rounds k_0 h1) (c_X9_rounds k_375 h2) (by decide) (by decide)
