/-! ===== laws: numbers of both sides ===== -/
def iZ (z : Int) : Int32 := Int32.ofInt z
def lZ (z : Int) : Int64 := Int64.ofInt z
def inR (z : Int) : Prop := -1000000 ≤ z ∧ z ≤ 1000000
theorem iZ_t {z : Int} (h1 : -2147483648 ≤ z) (h2 : z < 2147483648) : (iZ z).toInt = z := fb_ofI h1 h2
theorem iZ_x {x : Int32} {z : Int} (h : x.toInt = z) : x = iZ z := by
  rw [← h]; exact (fb_asI x).symm
theorem lZ_t {z : Int} (h1 : -9223372036854775808 ≤ z) (h2 : z < 9223372036854775808) : (lZ z).toInt = z := by
  unfold lZ
  rw [Int64.toInt_ofInt, fb_bmodL h1 h2]
theorem lZ_x {x : Int64} {z : Int} (h : x.toInt = z) : x = lZ z := by
  rw [← h]; exact (Int64.ofInt_toInt x).symm
theorem iZ_n {n : Nat} (h : n < 2 ^ 31) : nI n = iZ n := iZ_x (nI_toInt h)
theorem lZ_n {n : Nat} (h : n < 2 ^ 63) : lN n = lZ n := lZ_x (pk_lT h)
theorem iZ_l {z : Int} (h1 : -2147483648 ≤ z) (h2 : z < 2147483648) : (iZ z).toInt64 = lZ z := lZ_x (by rw [Int32.toInt_toInt64, iZ_t h1 h2])
theorem lZ_i {z : Int} (h1 : -2147483648 ≤ z) (h2 : z < 2147483648) : (lZ z).toInt32 = iZ z := iZ_x (by rw [Int64.toInt_toInt32, lZ_t (by omega) (by omega), fb_bmod h1 h2])
theorem iZ_lt {a b : Int} (ha : inR a) (hb : inR b) : (iZ a < iZ b) = (a < b) := propext (by
  unfold inR at *
  rw [Int32.lt_iff_toInt_lt, iZ_t (by omega) (by omega), iZ_t (by omega) (by omega)])
theorem iZ_le {a b : Int} (ha : inR a) (hb : inR b) : (iZ a ≤ iZ b) = (a ≤ b) := propext (by
  unfold inR at *
  rw [Int32.le_iff_toInt_le, iZ_t (by omega) (by omega), iZ_t (by omega) (by omega)])
theorem iZ_eq {a b : Int} (ha : inR a) (hb : inR b) : (iZ a = iZ b) = (a = b) := propext (by
  unfold inR at *
  rw [← Int32.toInt_inj, iZ_t (by omega) (by omega), iZ_t (by omega) (by omega)])
theorem lZ_lt {a b : Int} (ha : -9223372036854775808 ≤ a ∧ a < 9223372036854775808) (hb : -9223372036854775808 ≤ b ∧ b < 9223372036854775808) : (lZ a < lZ b) = (a < b) := propext (by
  rw [Int64.lt_iff_toInt_lt, lZ_t (by omega) (by omega), lZ_t (by omega) (by omega)])
theorem lZ_eq {a b : Int} (ha : inR a) (hb : inR b) : (lZ a = lZ b) = (a = b) := propext (by
  unfold inR at *
  rw [← Int64.toInt_inj, lZ_t (by omega) (by omega), lZ_t (by omega) (by omega)])
theorem lZ_add {a b : Int} (ha : inR a) (hb : inR b) : lZ a + lZ b = lZ (a + b) := by
  unfold inR at *
  refine lZ_x ?_
  rw [fb_addL, lZ_t (by omega) (by omega), lZ_t (by omega) (by omega)] <;> rw [lZ_t (by omega) (by omega), lZ_t (by omega) (by omega)] <;> omega
theorem lZ_sub {a b : Int} (ha : inR a) (hb : inR b) : lZ a - lZ b = lZ (a - b) := by
  unfold inR at *
  refine lZ_x ?_
  rw [fb_subL, lZ_t (by omega) (by omega), lZ_t (by omega) (by omega)] <;> rw [lZ_t (by omega) (by omega), lZ_t (by omega) (by omega)] <;> omega
theorem mul_rng {a b : Int} (ha : inR a) (hb : inR b) : -1000000000000 ≤ a * b ∧ a * b ≤ 1000000000000 := by
  have h : (a * b).natAbs ≤ 1000000 * 1000000 := by
    rw [Int.natAbs_mul]
    unfold inR at *
    exact Nat.mul_le_mul (by omega) (by omega)
  omega
theorem lZ_mul {a b : Int} (ha : inR a) (hb : inR b) : lZ a * lZ b = lZ (a * b) := by
  have m := mul_rng ha hb
  unfold inR at *
  refine lZ_x ?_
  rw [fb_mulL, lZ_t (by omega) (by omega), lZ_t (by omega) (by omega)] <;> rw [lZ_t (by omega) (by omega), lZ_t (by omega) (by omega)] <;> omega
theorem iZ_neg {a : Int} (ha : inR a) : -(iZ a) = iZ (-a) := by
  unfold inR at *
  refine iZ_x ?_
  rw [fb_negI, iZ_t (by omega) (by omega)]
  rw [iZ_t (by omega) (by omega)]; omega
theorem lZ_neg {a : Int} (ha : inR a) : -(lZ a) = lZ (-a) := by
  unfold inR at *
  refine lZ_x ?_
  rw [Int64.toInt_neg, lZ_t (by omega) (by omega), fb_bmodL (by omega) (by omega)]
theorem tdiv_rng {a b : Int} (ha : inR a) : inR (a.tdiv b) := by
  have h : (a.tdiv b).natAbs ≤ a.natAbs := by
    rw [Int.natAbs_tdiv]
    exact Nat.div_le_self _ _
  unfold inR at *
  omega
theorem iZ_div {a b : Int} (ha : inR a) (hb : inR b) : iZ a / iZ b = iZ (a.tdiv b) := by
  have d := tdiv_rng (b := b) ha
  unfold inR at *
  refine iZ_x ?_
  rw [Int32.toInt_div, iZ_t (by omega) (by omega), iZ_t (by omega) (by omega), fb_bmod (by omega) (by omega)]
theorem lZ_div {a b : Int} (ha : inR a) (hb : inR b) : lZ a / lZ b = lZ (a.tdiv b) := by
  have d := tdiv_rng (b := b) ha
  unfold inR at *
  refine lZ_x ?_
  rw [Int64.toInt_div, lZ_t (by omega) (by omega), lZ_t (by omega) (by omega), fb_bmodL (by omega) (by omega)]
theorem tmod_rng {a b : Int} (ha : inR a) : inR (a.tmod b) := by
  have h : (a.tmod b).natAbs ≤ a.natAbs := by
    rw [Int.natAbs_tmod]
    exact Nat.mod_le _ _
  unfold inR at *
  omega
theorem iZ_rem {a b : Int} (ha : inR a) (hb : inR b) : iZ a - iZ a / iZ b * iZ b = iZ (a.tmod b) := by
  have d := tmod_rng (b := b) ha
  refine iZ_x ?_
  rw [Int32.toInt_sub, Int32.toInt_mul, Int32.toInt_div, Int.bmod_mul_bmod, Int.sub_bmod_bmod, Int.mul_comm ((iZ a).toInt.tdiv (iZ b).toInt), ← Int.tmod_def]
  unfold inR at *
  rw [iZ_t (by omega) (by omega), iZ_t (by omega) (by omega), fb_bmod (by omega) (by omega)]
theorem lZ_rem {a b : Int} (ha : inR a) (hb : inR b) : lZ a - lZ a / lZ b * lZ b = lZ (a.tmod b) := by
  have d := tmod_rng (b := b) ha
  refine lZ_x ?_
  rw [Int64.toInt_sub, Int64.toInt_mul, Int64.toInt_div, Int.bmod_mul_bmod, Int.sub_bmod_bmod, Int.mul_comm ((lZ a).toInt.tdiv (lZ b).toInt), ← Int.tmod_def]
  unfold inR at *
  rw [lZ_t (by omega) (by omega), lZ_t (by omega) (by omega), fb_bmodL (by omega) (by omega)]
def clp (z : Int) : Int := if 1000000 < z then 1000000 else if z < -1000000 then -1000000 else z
theorem clp_R (z : Int) : inR (clp z) := by
  unfold clp inR
  split
  · omega
  · split <;> omega
theorem c1L : (1000000 : Int64) = lZ 1000000 := (fa_litL 1000000).trans (lZ_n (by decide))
theorem cm1L : (-1000000 : Int64) = lZ (-1000000) := by
  rw [show (-1000000 : Int64) = -(1000000 : Int64) from rfl, c1L, lZ_neg ⟨by decide, by decide⟩]
theorem c0L : (0 : Int64) = lZ 0 := (fa_litL 0).trans (lZ_n (by decide))
theorem c9L : (9 : Int64) = lZ 9 := (fa_litL 9).trans (lZ_n (by decide))
theorem c10L : (10 : Int64) = lZ 10 := (fa_litL 10).trans (lZ_n (by decide))
theorem c0I : nI 0 = iZ 0 := iZ_n (by decide)
theorem c1I : nI 1 = iZ 1 := iZ_n (by decide)
theorem c9I : nI 9 = iZ 9 := iZ_n (by decide)
theorem R0 : inR 0 := ⟨by decide, by decide⟩
theorem R1 : inR 1 := ⟨by decide, by decide⟩
theorem R9 : inR 9 := ⟨by decide, by decide⟩
theorem lim_z (S : mS) {z : Int} (h : -1000000000000 ≤ z ∧ z ≤ 1000000000000) : f_X3_limited S (lZ z) = iZ (clp z) := by
  have c := clp_R z
  unfold inR at c
  rw [u_X3_limited, ← lZ_i (by omega) (by omega), cm1L, c1L]
  refine congrArg Int64.toInt32 ?_
  have e1 : (lZ z < lZ 1000000) = (z < 1000000) := lZ_lt (by omega) (by decide)
  have e2 : (lZ z < lZ (-1000000)) = (z < -1000000) := lZ_lt (by omega) (by decide)
  have e3 : (lZ 1000000 < lZ (-1000000)) = ((1000000 : Int) < -1000000) := lZ_lt (by decide) (by decide)
  unfold lmax lmin clp
  simp only [e1]
  by_cases q : z < 1000000
  · simp only [if_pos q, e2]
    rw [if_neg (show ¬ 1000000 < z by omega)]
    by_cases q2 : z < -1000000
    · rw [if_pos q2, if_pos q2]
    · rw [if_neg q2, if_neg q2]
  · simp only [if_neg q, e3]
    rw [if_neg (by decide)]
    by_cases q2 : 1000000 < z
    · rw [if_pos q2]
    · rw [if_neg q2, if_neg (by omega), show z = 1000000 by omega]
theorem clip_z (S : mS) {z : Int} (h : -1000000000000 ≤ z ∧ z ≤ 1000000000000) : f_X9_clip S (lZ z) = lZ (clp z) := by
  have e1 : (lZ 1000000 < lZ z) = (1000000 < z) := lZ_lt (by decide) (by omega)
  have e2 : (lZ z < lZ (-1000000)) = (z < -1000000) := lZ_lt (by omega) (by decide)
  rw [u_X9_clip, cm1L, c1L]
  simp only [e1, e2]
  unfold clp
  by_cases q : 1000000 < z
  · rw [if_pos q, if_pos q]
  · rw [if_neg q, if_neg q]
    by_cases q2 : z < -1000000
    · rw [if_pos q2, if_pos q2]
    · rw [if_neg q2, if_neg q2]
def dgt (w v : Int) : Int := if w < 0 then 0 else if 9 < w then 0 else ((v.natAbs / 10 ^ w.toNat % 10 : Nat) : Int)
theorem iabs_z {v : Int} (h : inR v) : iabs (iZ v) = nI v.natAbs := by
  have h' := h
  unfold inR at h
  unfold iabs
  have e1 : (iZ 0 ≤ iZ v) = (0 ≤ v) := iZ_le R0 h'
  rw [show (0 : Int32) = iZ 0 from c0I]
  simp only [e1]
  by_cases q : 0 ≤ v
  · rw [if_pos q, iZ_n (by omega)]
    exact congrArg iZ (by omega)
  · rw [if_neg q, iZ_n (by omega)]
    refine iZ_x ?_
    rw [fb_subI] <;> rw [iZ_t (by omega) (by omega), iZ_t (by omega) (by omega)] <;> omega
theorem ddv (n i : Nat) : n / 10 ^ i / 10 = n / 10 ^ (i + 1) := by rw [Nat.div_div_eq_div_mul, Nat.pow_succ]
theorem dig_8 {F : Nat} {S : mS} (hF : 30 < F) {w v : Int} (hw : inR w) (hv : inR v) : f_X3_digitAt F S (iZ w) (iZ v) = some (iZ (dgt w v)) := by
  rw [u_X3_digitAt, iabs_z hv]
  have e0 : (iZ w < nI 0) = (w < 0) := by rw [c0I]; exact iZ_lt hw R0
  have e9 : (iZ w ≤ nI 9) = (w ≤ 9) := by rw [c9I]; exact iZ_le hw R9
  simp only [e0, e9]
  unfold dgt
  unfold inR at hw hv
  by_cases q : w < 0
  · rw [if_pos q, if_pos q, c0I]
  · rw [if_neg q, if_neg q]
    by_cases q2 : w ≤ 9
    · rw [if_pos q2, if_neg (by omega)]
      have ew : iZ w = nI w.toNat := by rw [iZ_n (by omega)]; exact congrArg iZ (by omega)
      rw [ew]
      have hb : ∀ i, v.natAbs / 10 ^ i ≤ v.natAbs := fun i => Nat.div_le_self _ _
      have lp := up_l (fun k i => lX3_digitAt_19 F (nI w.toNat) (iZ v) k S (nI (v.natAbs / 10 ^ i)) (nI i)) (some (iZ ((v.natAbs / 10 ^ w.toNat % 10 : Nat) : Int))) w.toNat (fun k => ?_) (fun k i hi => ?_) F 0 (by omega) (by omega)
      · simp only [Nat.pow_zero, Nat.div_one] at lp
        exact lp
      · show lX3_digitAt_19 F (nI w.toNat) (iZ v) (k + 1) S _ _ = _
        have := hb w.toNat
        rw [u_X3_digitAt_19, if_pos (nI_le (Nat.le_refl _) (by omega)), pk_rem (by omega) (by omega) (by omega), iZ_n (by omega)]
      · show lX3_digitAt_19 F (nI w.toNat) (iZ v) (k + 1) S _ _ = lX3_digitAt_19 F (nI w.toNat) (iZ v) k S _ _
        have := hb i
        rw [u_X3_digitAt_19, if_neg (nI_ge hi (by omega)), pk_div (by omega) (by omega) (by omega), ddv, nI_add]
    · rw [if_neg q2, if_pos (by omega), c0I]
theorem dig_9 {F : Nat} {S : mS} (hF : 30 < F) {w v : Int} (hw : inR w) (hv : inR v) : f_X9_digit F S (lZ w) (lZ v) = some (lZ (dgt w v)) := by
  have hb : ∀ i, v.natAbs / 10 ^ i ≤ v.natAbs := fun i => Nat.div_le_self _ _
  have hw' := hw
  have hv' := hv
  unfold inR at hw hv
  have e0 : (lZ v < (0 : Int64)) = (v < 0) := by rw [c0L]; exact lZ_lt (by omega) (by decide)
  have ab : (if v < 0 then lX9_digit_17 F (fun (v4 : Int64) => lX9_digit_50 F (lZ w) (lZ v) S v4) (lZ w) (lZ v) F S (-(lZ v)) (0 : Int64) else lX9_digit_17 F (fun (v4 : Int64) => lX9_digit_50 F (lZ w) (lZ v) S v4) (lZ w) (lZ v) F S (lZ v) (0 : Int64)) = lX9_digit_17 F (fun (v4 : Int64) => lX9_digit_50 F (lZ w) (lZ v) S v4) (lZ w) (lZ v) F S (lN v.natAbs) (lN 0) := by
    by_cases q : v < 0
    · rw [if_pos q, lZ_neg hv', lZ_n (by omega), show -v = (v.natAbs : Int) by omega]; rfl
    · rw [if_neg q, lZ_n (by omega)]
      exact congrArg (fun z => lX9_digit_17 F (fun (v4 : Int64) => lX9_digit_50 F (lZ w) (lZ v) S v4) (lZ w) (lZ v) F S z (lN 0)) (congrArg lZ (by omega))
  rw [u_X9_digit]
  simp only [e0]
  rw [ab]
  let m := min w.toNat 10
  have hm : m ≤ 10 := Nat.min_le_right _ _
  have lp := up_l (fun k i => lX9_digit_17 F (fun (v4 : Int64) => lX9_digit_50 F (lZ w) (lZ v) S v4) (lZ w) (lZ v) k S (lN (v.natAbs / 10 ^ i)) (lN i)) (lX9_digit_50 F (lZ w) (lZ v) S (lN (v.natAbs / 10 ^ m))) m (fun k => ?_) (fun k i hi => ?_) F 0 (by omega) (by omega)
  · have lp' : lX9_digit_17 F (fun (v4 : Int64) => lX9_digit_50 F (lZ w) (lZ v) S v4) (lZ w) (lZ v) F S (lN v.natAbs) (lN 0) = lX9_digit_50 F (lZ w) (lZ v) S (lN (v.natAbs / 10 ^ m)) := by
      have := lp
      simp only [Nat.pow_zero, Nat.div_one] at this
      exact this
    rw [lp', u_X9_digit_50]
    have f0 : (lZ w < (0 : Int64)) = (w < 0) := by rw [c0L]; exact lZ_lt (by omega) (by decide)
    have f9 : ((9 : Int64) < lZ w) = (9 < w) := by rw [c9L]; exact lZ_lt (by decide) (by omega)
    simp only [f0, f9]
    unfold dgt
    by_cases q : w < 0
    · rw [if_pos q, if_pos q, c0L]
    · rw [if_neg q, if_neg q]
      by_cases q2 : 9 < w
      · rw [if_pos q2, if_pos q2, c0L]
      · have em : m = w.toNat := Nat.min_eq_left (by omega)
        have := hb w.toNat
        rw [if_neg q2, if_neg q2, em, show (10 : Int64) = lN 10 from rfl, pk_lRem (by omega) (by omega) (by omega), lZ_n (by omega)]
  · show lX9_digit_17 F _ (lZ w) (lZ v) (k + 1) S _ _ = _
    have g1 : (lN m < lZ w) = ((m : Int) < w) := by rw [lZ_n (n := m) (by omega)]; exact lZ_lt (by omega) (by omega)
    have g2 : (lN m < (10 : Int64)) = ((m : Int) < 10) := by rw [lZ_n (n := m) (by omega), c10L]; exact lZ_lt (by omega) (by decide)
    rw [u_X9_digit_17]
    simp only [g1, g2]
    by_cases q : (m : Int) < w
    · rw [if_pos q, if_neg]
      have : m = min w.toNat 10 := rfl
      omega
    · rw [if_neg q]
  · show lX9_digit_17 F _ (lZ w) (lZ v) (k + 1) S _ _ = lX9_digit_17 F _ (lZ w) (lZ v) k S _ _
    have hi' : i < min w.toNat 10 := hi
    have := hb i
    have g1 : (lN i < lZ w) = ((i : Int) < w) := by rw [lZ_n (n := i) (by omega)]; exact lZ_lt (by omega) (by omega)
    have g2 : (lN i < (10 : Int64)) = ((i : Int) < 10) := by rw [lZ_n (n := i) (by omega), c10L]; exact lZ_lt (by omega) (by decide)
    rw [u_X9_digit_17]
    simp only [g1, g2]
    rw [if_pos (by omega), if_pos (by omega), show (10 : Int64) = lN 10 from rfl, pk_lDiv (by omega) (by omega) (by omega), ddv, show (1 : Int64) = lN 1 from rfl, lN_add]
