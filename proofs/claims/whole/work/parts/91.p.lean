/-! ===== sets: counting ===== -/
def okS (W O s : Nat) : Bool := decide (W ^^^ (W &&& s) = 0) && decide (O &&& s = 0)
theorem okS_t {W O s : Nat} : okS W O s = true ↔ (∀ i, W.testBit i = true → s.testBit i = true) ∧ (∀ i, O.testBit i = true → s.testBit i = false) := by
  unfold okS
  rw [Bool.and_eq_true, decide_eq_true_eq, decide_eq_true_eq]
  constructor
  · rintro ⟨h1, h2⟩
    refine ⟨fun i hi => ?_, fun i hi => ?_⟩
    · have z := congrArg (fun m => m.testBit i) h1
      simp only [dif_tb, hi, Nat.zero_testBit] at z
      cases q : s.testBit i
      · rw [q] at z; exact absurd z (by decide)
      · rfl
    · have z := congrArg (fun m => m.testBit i) h2
      simp only [Nat.testBit_and, hi, Nat.zero_testBit] at z
      cases q : s.testBit i
      · rfl
      · rw [q] at z; exact absurd z (by decide)
  · rintro ⟨h1, h2⟩
    refine ⟨Nat.eq_of_testBit_eq (fun i => ?_), Nat.eq_of_testBit_eq (fun i => ?_)⟩
    · rw [dif_tb, Nat.zero_testBit]
      cases q : W.testBit i
      · rfl
      · rw [h1 i q]; rfl
    · rw [Nat.testBit_and, Nat.zero_testBit]
      cases q : O.testBit i
      · rfl
      · rw [h2 i q]; rfl
/-- how many sets of k more dates out of the m dates behind P's will do -/
def cXE (W O : Nat) : Nat → Nat → Nat → Nat → Nat
  | _, 0, P, _ => if okS W O P = true then 1 else 0
  | 0, _ + 1, _, _ => 0
  | m + 1, k + 1, P, x => cXE W O m k (P ||| 2 ^ x) (x + 1) + cXE W O m (k + 1) P (x + 1)
def cF (W O : Nat) : Nat → Nat → Nat → Nat
  | 0, 0, _ => 1
  | 0, _ + 1, _ => 0
  | m + 1, 0, x => if W.testBit x = true then 0 else cF W O m 0 (x + 1)
  | m + 1, k + 1, x => (if W.testBit x = true then 0 else cF W O m (k + 1) (x + 1)) + (if O.testBit x = true then 0 else cF W O m k (x + 1))
/-- P is right as far as x -/
def pre (W O P x : Nat) : Prop := (∀ i, i < x → W.testBit i = true → P.testBit i = true) ∧ (∀ i, O.testBit i = true → P.testBit i = false)
theorem pre_up {W O P x : Nat} (hP : P < 2 ^ x) : (pre W O P (x + 1) ↔ pre W O P x ∧ ¬ W.testBit x = true) ∧ (pre W O (P ||| 2 ^ x) (x + 1) ↔ pre W O P x ∧ ¬ O.testBit x = true) := by
  have px : P.testBit x = false := Nat.testBit_lt_two_pow hP
  refine ⟨⟨fun h => ⟨⟨fun i hi => h.1 i (by omega), h.2⟩, fun w => ?_⟩, fun h => ⟨fun i hi w => ?_, h.1.2⟩⟩, ⟨fun h => ⟨⟨fun i hi w => ?_, fun i w => ?_⟩, fun w => ?_⟩, fun h => ⟨fun i hi w => ?_, fun i w => ?_⟩⟩⟩
  · have := h.1 x (by omega) w
    rw [px] at this; exact absurd this (by decide)
  · by_cases e : i = x
    · rw [e] at w; exact absurd w h.2
    · exact h.1.1 i (by omega) w
  · have := h.1 i (by omega) w
    rw [fb_bit_set, Bool.or_eq_true, decide_eq_true_eq] at this
    rcases this with t | t
    · exact t
    · omega
  · have := h.2 i w
    rw [fb_bit_set, Bool.or_eq_false_iff] at this
    exact this.1
  · have := h.2 x w
    rw [fb_bit_set, Bool.or_eq_false_iff, decide_eq_false_iff_not] at this
    exact this.2 rfl
  · rw [fb_bit_set]
    by_cases e : i = x
    · rw [decide_eq_true e, Bool.or_true]
    · rw [h.1.1 i (by omega) w]; rfl
  · rw [fb_bit_set, h.1.2 i w, Bool.false_or, decide_eq_false_iff_not]
    intro e
    rw [e] at w
    exact h.2 w
theorem cE_F {W O : Nat} (hW : W < 1048576) (m : Nat) : ∀ (k P x : Nat), x + m = 20 → P < 2 ^ x → (pre W O P x → cXE W O m k P x = cF W O m k x) ∧ (¬ pre W O P x → cXE W O m k P x = 0) := by
  have ok0 : ∀ P x, x ≤ 20 → P < 2 ^ x → (okS W O P = true ↔ pre W O P 20) := fun P x hx hP => by
    rw [okS_t]
    exact ⟨fun h => ⟨fun i _ => h.1 i, h.2⟩, fun h => ⟨fun i w => by
      by_cases e : i < 20
      · exact h.1 i e w
      · rw [tb20 hW (by omega)] at w; exact absurd w (by decide), h.2⟩⟩
  induction m with
  | zero =>
    intro k P x hx hP
    cases k with
    | zero =>
      have e : x = 20 := by omega
      subst e
      refine ⟨fun h => ?_, fun h => ?_⟩
      · show (if okS W O P = true then 1 else 0) = 1
        rw [if_pos ((ok0 P 20 (by omega) hP).mpr h)]
      · show (if okS W O P = true then 1 else 0) = 0
        rw [if_neg (fun w => h ((ok0 P 20 (by omega) hP).mp w))]
    | succ k => exact ⟨fun _ => rfl, fun _ => rfl⟩
  | succ m ih =>
    intro k P x hx hP
    have hP1 : P < 2 ^ (x + 1) := Nat.lt_of_lt_of_le hP (Nat.pow_le_pow_right (by decide) (by omega))
    have hP2 : P ||| 2 ^ x < 2 ^ (x + 1) := Nat.or_lt_two_pow hP1 (Nat.pow_lt_pow_right (by decide) (by omega))
    obtain ⟨u1, u2⟩ := pre_up (W := W) (O := O) hP
    cases k with
    | zero =>
      have z := ih 0 P (x + 1) (by omega) hP1
      have e : cXE W O (m + 1) 0 P x = cXE W O m 0 P (x + 1) := by cases m <;> rfl
      rw [e]
      refine ⟨fun h => ?_, fun h => z.2 (fun w => h (u1.mp w).1)⟩
      show _ = if W.testBit x = true then 0 else cF W O m 0 (x + 1)
      by_cases q : W.testBit x = true
      · rw [if_pos q]; exact z.2 (fun w => (u1.mp w).2 q)
      · rw [if_neg q]; exact z.1 (u1.mpr ⟨h, q⟩)
    | succ k =>
      have z := ih (k + 1) P (x + 1) (by omega) hP1
      have y := ih k (P ||| 2 ^ x) (x + 1) (by omega) hP2
      show (pre W O P x → cXE W O m k (P ||| 2 ^ x) (x + 1) + cXE W O m (k + 1) P (x + 1) = (if W.testBit x = true then 0 else cF W O m (k + 1) (x + 1)) + (if O.testBit x = true then 0 else cF W O m k (x + 1))) ∧ (¬ pre W O P x → cXE W O m k (P ||| 2 ^ x) (x + 1) + cXE W O m (k + 1) P (x + 1) = 0)
      refine ⟨fun h => ?_, fun h => ?_⟩
      · have a : cXE W O m (k + 1) P (x + 1) = if W.testBit x = true then 0 else cF W O m (k + 1) (x + 1) := by
          by_cases q : W.testBit x = true
          · rw [if_pos q]; exact z.2 (fun w => (u1.mp w).2 q)
          · rw [if_neg q]; exact z.1 (u1.mpr ⟨h, q⟩)
        have b : cXE W O m k (P ||| 2 ^ x) (x + 1) = if O.testBit x = true then 0 else cF W O m k (x + 1) := by
          by_cases q : O.testBit x = true
          · rw [if_pos q]; exact y.2 (fun w => (u2.mp w).2 q)
          · rw [if_neg q]; exact y.1 (u2.mpr ⟨h, q⟩)
        rw [a, b, Nat.add_comm]
      · rw [z.2 (fun w => h (u1.mp w).1), y.2 (fun w => h (u2.mp w).1)]
def bin : Nat → Nat → Nat
  | _, 0 => 1
  | 0, _ + 1 => 0
  | n + 1, k + 1 => bin n (k + 1) + bin n k
/-- dates from x on: wanted ones, free ones, and whether one is both -/
def ctf (p : Nat → Bool) : Nat → Nat → Nat
  | 0, _ => 0
  | m + 1, x => (if p x then 1 else 0) + ctf p m (x + 1)
theorem ctf_ct (p : Nat → Bool) (m : Nat) : ∀ x, ctf p m x + fb_ct p x = fb_ct p (x + m) := by
  induction m with
  | zero => intro x; show 0 + fb_ct p x = _; rw [Nat.zero_add]; rfl
  | succ m ih =>
    intro x
    have := ih (x + 1)
    rw [fb_ct_succ, show x + 1 + m = x + (m + 1) by omega] at this
    show (if p x then 1 else 0) + ctf p m (x + 1) + fb_ct p x = _
    omega
def wo (W O : Nat) (i : Nat) : Bool := W.testBit i && O.testBit i
def fr (W O : Nat) (i : Nat) : Bool := !W.testBit i && !O.testBit i
theorem cF_b {W O : Nat} (m : Nat) : ∀ (x : Nat), (ctf (wo W O) m x ≠ 0 → ∀ k, cF W O m k x = 0) ∧ (ctf (wo W O) m x = 0 → (∀ k, k < ctf W.testBit m x → cF W O m k x = 0) ∧ ∀ j, cF W O m (ctf W.testBit m x + j) x = bin (ctf (fr W O) m x) j) := by
  induction m with
  | zero =>
    intro x
    refine ⟨fun h => absurd rfl h, fun _ => ⟨fun k hk => absurd hk (Nat.not_lt_zero k), fun j => ?_⟩⟩
    show cF W O 0 (0 + j) x = bin 0 j
    rw [Nat.zero_add]
    cases j <;> rfl
  | succ m ih =>
    intro x
    obtain ⟨i1, i2⟩ := ih (x + 1)
    have c0 : cF W O (m + 1) 0 x = if W.testBit x = true then 0 else cF W O m 0 (x + 1) := rfl
    have cs : ∀ k, cF W O (m + 1) (k + 1) x = (if W.testBit x = true then 0 else cF W O m (k + 1) (x + 1)) + (if O.testBit x = true then 0 else cF W O m k (x + 1)) := fun k => rfl
    have eW : ctf W.testBit (m + 1) x = (if W.testBit x = true then 1 else 0) + ctf W.testBit m (x + 1) := rfl
    have eB : ctf (wo W O) (m + 1) x = (if wo W O x = true then 1 else 0) + ctf (wo W O) m (x + 1) := rfl
    have eF : ctf (fr W O) (m + 1) x = (if fr W O x = true then 1 else 0) + ctf (fr W O) m (x + 1) := rfl
    rw [eW, eB, eF]
    unfold wo fr at *
    cases qw : W.testBit x <;> cases qo : O.testBit x
    · -- free
      simp only [qw, qo, Bool.false_and, Bool.not_false, Bool.and_true, if_true, if_false, Bool.false_eq_true, Nat.zero_add] at *
      refine ⟨fun h k => ?_, fun h => ⟨fun k hk => ?_, fun j => ?_⟩⟩
      · cases k with
        | zero => rw [c0]; exact i1 h 0
        | succ k => rw [cs, i1 h, i1 h]
      · cases k with
        | zero => rw [c0]; exact (i2 h).1 0 hk
        | succ k => rw [cs, (i2 h).1 _ hk, (i2 h).1 k (by omega)]
      · rw [Nat.add_comm 1]
        cases j with
        | zero =>
          show _ = 1
          have := (i2 h).2 0
          rw [Nat.add_zero] at this ⊢
          cases hc : ctf W.testBit m (x + 1) with
          | zero =>
            rw [hc] at this
            rw [c0, this]; cases ctf (fun i => !W.testBit i && !O.testBit i) m (x + 1) <;> rfl
          | succ c =>
            rw [hc] at this
            rw [cs, this, (i2 h).1 c (by omega)]; cases ctf (fun i => !W.testBit i && !O.testBit i) m (x + 1) <;> rfl
        | succ j =>
          have a := (i2 h).2 j
          have b := (i2 h).2 (j + 1)
          rw [← Nat.add_assoc] at b ⊢
          rw [cs, a, b]
          rfl
    · -- out
      simp only [qw, qo, Bool.false_and, Bool.not_false, Bool.not_true, Bool.and_false, Bool.and_true, if_true, if_false, Bool.false_eq_true, Nat.zero_add] at *
      have e : ∀ k, cF W O (m + 1) k x = cF W O m k (x + 1) := fun k => by
        cases k with
        | zero => exact c0
        | succ k => rw [cs, Nat.add_zero]
      exact ⟨fun h k => by rw [e]; exact i1 h k, fun h => ⟨fun k hk => by rw [e]; exact (i2 h).1 k hk, fun j => by rw [e]; exact (i2 h).2 j⟩⟩
    · -- in
      simp only [qw, qo, Bool.and_false, Bool.not_false, Bool.not_true, Bool.false_and, Bool.and_true, if_true, if_false, Bool.false_eq_true, Nat.zero_add] at *
      refine ⟨fun h k => ?_, fun h => ⟨fun k hk => ?_, fun j => ?_⟩⟩
      · cases k with
        | zero => exact c0
        | succ k => rw [cs, i1 h]
      · cases k with
        | zero => exact c0
        | succ k => rw [cs, (i2 h).1 k (by omega)]
      · rw [show 1 + ctf W.testBit m (x + 1) + j = ctf W.testBit m (x + 1) + j + 1 by omega, cs, (i2 h).2 j]
    · -- both
      simp only [qw, qo, Bool.and_self, Bool.not_true, if_true, if_false, Bool.false_eq_true, Nat.zero_add] at *
      refine ⟨fun h k => ?_, fun h => absurd h (by omega)⟩
      cases k with
      | zero => exact c0
      | succ k => exact cs k
