/-! ===== rows for stepping ===== -/
theorem nrem (a d : Nat) : a - a / d * d = a % d := by
  have := Nat.div_add_mod a d
  rw [Nat.mul_comm] at this
  omega
theorem n_m1 {n : Nat} (h : n < 2 ^ 31) : (nI n = (-1 : Int32)) = False := eq_false (fun e => by
  have h1 := congrArg Int32.toInt e
  rw [nI_toInt h, show (-1 : Int32).toInt = -1 from by decide] at h1
  omega)
theorem m1_n {n : Nat} (h : n < 2 ^ 31) : ((-1 : Int32) = nI n) = False := eq_false (fun e => by
  have h1 := congrArg Int32.toInt e
  rw [nI_toInt h, show (-1 : Int32).toInt = -1 from by decide] at h1
  omega)
theorem m2_n {n : Nat} (h : n < 2 ^ 31) : (nI n = (-2 : Int32)) = False := eq_false (fun e => by
  have h1 := congrArg Int32.toInt e
  rw [nI_toInt h, show (-2 : Int32).toInt = -2 from by decide] at h1
  omega)
theorem m1_lt {n : Nat} (h : n < 2 ^ 31) : ((-1 : Int32) < nI n) = True := eq_true (by
  rw [Int32.lt_iff_toInt_lt, nI_toInt h, show (-1 : Int32).toInt = -1 from by decide]
  omega)
theorem m1_le {n : Nat} (h : n < 2 ^ 31) : ((-1 : Int32) ≤ nI n) = True := eq_true (by
  rw [Int32.le_iff_toInt_le, nI_toInt h, show (-1 : Int32).toInt = -1 from by decide]
  omega)
theorem n_lt_m1 {n : Nat} (h : n < 2 ^ 31) : (nI n < (-1 : Int32)) = False := eq_false (by
  rw [Int32.lt_iff_toInt_lt, nI_toInt h, show (-1 : Int32).toInt = -1 from by decide]
  omega)
theorem n_le_m1 {n : Nat} (h : n < 2 ^ 31) : (nI n ≤ (-1 : Int32)) = False := eq_false (by
  rw [Int32.le_iff_toInt_le, nI_toInt h, show (-1 : Int32).toInt = -1 from by decide]
  omega)
theorem m1_e1 : ((-1 : Int32) = (-1 : Int32)) = True := eq_self _
theorem imin_n {a b : Nat} (ha : a < 2 ^ 31) (hb : b < 2 ^ 31) : imin (nI a) (nI b) = nI (min a b) := by
  unfold imin
  by_cases h : b < a
  · rw [if_pos (nI_lt h ha), Nat.min_eq_right (by omega)]
  · rw [if_neg (nI_nlt (by omega) hb), Nat.min_eq_left (by omega)]
theorem imax_n {a b : Nat} (ha : a < 2 ^ 31) (hb : b < 2 ^ 31) : imax (nI a) (nI b) = nI (max a b) := by
  unfold imax
  by_cases h : a < b
  · rw [if_pos (nI_lt h hb), Nat.max_eq_right (by omega)]
  · rw [if_neg (nI_nlt (by omega) ha), Nat.max_eq_left (by omega)]
theorem cpo_n {a b c la lb : Nat} (h1 : a + c ≤ la) (h2 : b + c ≤ lb) (hl : la < 2 ^ 31) (hl2 : lb < 2 ^ 31) : cpo (nI a) (nI b) (nI c) la lb = true := by
  refine decide_eq_true ⟨nI_pos (by omega), nI_pos (by omega), nI_pos (by omega), ?_, ?_⟩
  · rw [nI_clamp (by omega), nI_clamp (by omega)]; exact h1
  · rw [nI_clamp (by omega), nI_clamp (by omega)]; exact h2
theorem nz_n {n : Nat} (h0 : 0 < n) (h : n < 2 ^ 31) : nz (nI n) = true := decide_eq_true (nI_ne0 h0 h)
theorem nI_rem {a d : Nat} (ha : a < 2 ^ 31) (h0 : 0 < d) (hd : d < 2 ^ 31) : nI a - nI a / nI d * nI d = nI (a % d) := pk_rem ha h0 hd
/-- two loops side by side -/
theorem lock {σ τ β : Type} (L : Nat → σ → Option β) (M : Nat → τ → Option β) (R : σ → τ → Prop) (m : σ → Nat) (h : ∀ s t, R s t → (∃ r, (∀ k, L (k + 1) s = some r) ∧ ∀ k, M (k + 1) t = some r) ∨ (∃ s' t', R s' t' ∧ m s' < m s ∧ (∀ k, L (k + 1) s = L k s') ∧ ∀ k, M (k + 1) t = M k t')) : ∀ k s t, R s t → m s < k → ∃ r, L k s = some r ∧ M k t = some r
  | 0, _, _, _, hm => absurd hm (Nat.not_lt_zero _)
  | k + 1, s, t, hR, hm => by
    rcases h s t hR with ⟨r, h1, h2⟩ | ⟨s', t', hR', hm', h1, h2⟩
    · exact ⟨r, h1 k, h2 k⟩
    · rw [h1, h2]
      exact lock L M R m h k s' t' hR' (by omega)
/-- the same, of one counter with something beside it -/
theorem lockI {α β : Type} (L M : Nat → α → Nat → Option β) (P : α → Nat → Prop) (n : Nat) (h : ∀ x i, P x i → i ≤ n → (∃ r, (∀ k, L (k + 1) x i = some r) ∧ ∀ k, M (k + 1) x i = some r) ∨ (i < n ∧ ∃ x', P x' (i + 1) ∧ (∀ k, L (k + 1) x i = L k x' (i + 1)) ∧ ∀ k, M (k + 1) x i = M k x' (i + 1))) : ∀ k x i, P x i → i ≤ n → n - i < k → ∃ r, L k x i = some r ∧ M k x i = some r
  | 0, _, _, _, _, hm => absurd hm (Nat.not_lt_zero _)
  | k + 1, x, i, hP, hi, hm => by
    rcases h x i hP hi with ⟨r, h1, h2⟩ | ⟨hi', x', hP', h1, h2⟩
    · exact ⟨r, h1 k, h2 k⟩
    · rw [h1, h2]
      exact lockI L M P n h k x' (i + 1) hP' (by omega) (by omega)
theorem zb_c (a : Int32) : zb a = nI 0 ∨ zb a = nI 1 := by
  unfold zb bI
  split
  · exact Or.inr rfl
  · exact Or.inl rfl
/-- two loops of one body -/
theorem lockE {α β : Type} (L M : Nat → α → Nat → Option β) (P : α → Nat → Prop) (n : Nat) (G : (α → Nat → Option β) → α → Nat → Option β) (hL : ∀ k x i, P x i → i ≤ n → L (k + 1) x i = G (L k) x i) (hM : ∀ k x i, P x i → i ≤ n → M (k + 1) x i = G (M k) x i) (hG : ∀ x i, P x i → i ≤ n → (∃ r, ∀ K, G K x i = some r) ∨ (i < n ∧ ∃ x', P x' (i + 1) ∧ ∀ K, G K x i = K x' (i + 1))) : ∀ k x i, P x i → i ≤ n → n - i < k → ∃ r, L k x i = some r ∧ M k x i = some r
  | 0, _, _, _, _, hm => absurd hm (Nat.not_lt_zero _)
  | k + 1, x, i, hP, hi, hm => by
    rw [hL k x i hP hi, hM k x i hP hi]
    rcases hG x i hP hi with ⟨r, h⟩ | ⟨hi', x', hP', h⟩
    · exact ⟨r, h _, h _⟩
    · rw [h, h]
      exact lockE L M P n G hL hM hG k x' (i + 1) hP' (by omega) (by omega)
theorem ilt_swap {α : Type} (a b : Int32) (A B : α) : (if a < b then A else B) = if b ≤ a then B else A := by
  by_cases h : a < b
  · rw [if_pos h, if_neg (fa_of_lt h).2.1]
  · rw [if_neg h, if_pos (fa_of_nlt h)]
/-- or of many -/
def orp (f : Nat → Nat) : Nat → Nat
  | 0 => 0
  | n + 1 => orp f n ||| f n
theorem orp_s (f : Nat → Nat) (n : Nat) : orp f (n + 1) = orp f n ||| f n := rfl
theorem orp_tb (f : Nat → Nat) (d : Nat) : ∀ n, (orp f n).testBit d = true ↔ ∃ e, e < n ∧ (f e).testBit d = true
  | 0 => ⟨fun h => absurd h (by rw [show orp f 0 = 0 from rfl, Nat.zero_testBit]; decide), fun ⟨e, h, _⟩ => absurd h (Nat.not_lt_zero e)⟩
  | n + 1 => by
    rw [orp_s, Nat.testBit_or, Bool.or_eq_true, orp_tb f d n]
    constructor
    · rintro (⟨e, h1, h2⟩ | h)
      · exact ⟨e, by omega, h2⟩
      · exact ⟨n, by omega, h⟩
    · rintro ⟨e, h1, h2⟩
      by_cases q : e = n
      · subst q; exact Or.inr h2
      · exact Or.inl ⟨e, by omega, h2⟩
theorem orp_lt {f : Nat → Nat} {k : Nat} : ∀ {n : Nat}, (∀ e, e < n → f e < 2 ^ k) → orp f n < 2 ^ k
  | 0, _ => Nat.two_pow_pos k
  | n + 1, h => Nat.or_lt_two_pow (orp_lt (fun e he => h e (by omega))) (h n (by omega))
theorem orp_lt20 {f : Nat → Nat} {n : Nat} (h : ∀ e, e < n → f e < 1048576) : orp f n < 1048576 := orp_lt (k := 20) h
theorem or_lt20 {a b : Nat} (ha : a < 1048576) (hb : b < 1048576) : a ||| b < 1048576 := Nat.or_lt_two_pow (n := 20) ha hb
theorem or_lt7 {a b : Nat} (ha : a < 128) (hb : b < 128) : a ||| b < 128 := Nat.or_lt_two_pow (n := 7) ha hb
theorem p2_lt7 {a : Nat} (ha : a < 7) : 2 ^ a < 128 := (Nat.pow_lt_pow_right (by decide : 1 < 2) ha : 2 ^ a < 2 ^ 7)
theorem p2_lt20 {a : Nat} (ha : a < 20) : 2 ^ a < 1048576 := (Nat.pow_lt_pow_right (by decide : 1 < 2) ha : 2 ^ a < 2 ^ 20)
/-- all of many -/
def alb (p : Nat → Bool) : Nat → Bool
  | 0 => true
  | n + 1 => alb p n && p n
theorem alb_s (p : Nat → Bool) (n : Nat) : alb p (n + 1) = (alb p n && p n) := rfl
theorem alb_t (p : Nat → Bool) : ∀ n, alb p n = true ↔ ∀ i, i < n → p i = true
  | 0 => ⟨fun _ i h => absurd h (Nat.not_lt_zero i), fun _ => rfl⟩
  | n + 1 => by
    rw [alb_s, Bool.and_eq_true, alb_t p n]
    constructor
    · rintro ⟨h1, h2⟩ i hi
      by_cases q : i = n
      · subst q; exact h2
      · exact h1 i (by omega)
    · intro h
      exact ⟨fun i hi => h i (by omega), h n (by omega)⟩
theorem srch_al (p : Nat → Bool) : ∀ n i, srch (fun h => if p h = true then none else some (some false)) (some true) n i = some (decide (∀ h, h < n → p (i + h) = true))
  | 0, i => by
    show some true = _
    rw [decide_eq_true (fun h h2 => by omega)]
  | n + 1, i => by
    cases q : p i
    · rw [srch_s (r := some false) (by rw [q]; rfl), decide_eq_false (fun h => by
        have := h 0 (by omega)
        rw [Nat.add_zero, q] at this
        exact absurd this (by decide))]
    · rw [srch_n (by rw [q]; rfl), srch_al p n (i + 1)]
      refine congrArg some (decide_eq_decide.mpr ⟨fun h j h2 => ?_, fun h j h2 => ?_⟩)
      · by_cases e : j = 0
        · rw [e, Nat.add_zero]; exact q
        · have := h (j - 1) (by omega)
          rw [show i + 1 + (j - 1) = i + j by omega] at this
          exact this
      · have := h (j + 1) (by omega)
        rw [show i + (j + 1) = i + 1 + j by omega] at this
        exact this
theorem srch_al0 (p : Nat → Bool) (n : Nat) : srch (fun h => if p h = true then none else some (some false)) (some true) n 0 = some (decide (∀ h, h < n → p h = true)) := by
  rw [srch_al]
  simp only [Nat.zero_add]
theorem srch_or {β : Type} (g : Nat → Option β) : ∀ n i, (∃ r, ∀ d, srch g d n i = r) ∨ ((∀ d, srch g d n i = d) ∧ ∀ j, i ≤ j → j < i + n → g j = none)
  | 0, i => Or.inr ⟨fun _ => rfl, fun j h1 h2 => by omega⟩
  | n + 1, i => by
    cases q : g i with
    | some r => exact Or.inl ⟨r, fun d => srch_s q⟩
    | none =>
      rcases srch_or g n (i + 1) with ⟨r, h⟩ | ⟨h, h2⟩
      · exact Or.inl ⟨r, fun d => by rw [srch_n q, h]⟩
      · refine Or.inr ⟨fun d => by rw [srch_n q, h], fun j h1 h3 => ?_⟩
        by_cases e : j = i
        · rw [e]; exact q
        · exact h2 j (by omega) (by omega)
theorem ct_one {p : Nat → Bool} {a n : Nat} (h : p a = true) (ha : a < n) : fb_ct p a + 1 ≤ fb_ct p n := by
  have h1 := fb_ct_mono p (show a + 1 ≤ n by omega)
  rw [fb_ct_succ, h, if_pos rfl] at h1
  exact h1


theorem some_ite {α : Type} (c : Prop) [Decidable c] (a b : α) : (if c then some a else some b) = some (if c then a else b) := by split <;> rfl
theorem bI_1 : bI true = nI 1 := rfl
theorem bI_0 : bI false = nI 0 := rfl
