/-! ===== a town as numbers, and what it is in the class's cells and in the reference's rows ===== -/
/-- T 0: houses, gone (bits), day, x, written; T 1 shut, T 2 purse, T 3 friends of a house; T 4 the book -/
abbrev Tw : Type := Nat → Nat → Nat
def CT (S : mS) (t : Nat) (T : Tw) : Prop := S.1 t 5 = nI (T 0 0) ∧ S.1 t 6 = nI (T 0 1) ∧ S.1 t 7 = nI (T 0 2) ∧ S.1 t 8 = nI (T 0 3) ∧ S.1 t 4 = nI (T 0 4) ∧ (∀ h, h < T 0 0 → S.1 (t + 1) h = nI (T 1 h)) ∧ (∀ h, h < T 0 0 → S.1 (t + 2) h = nI (T 2 h)) ∧ (∀ h, h < T 0 0 → S.1 (t + 3) h = nI (T 3 h)) ∧ (∀ k, k < T 0 4 → S.1 (t + 4) k = nI (T 4 k))
def RT (S : mS) (c : Nat) (T : Tw) : Prop := S.1 c 0 = nI (T 0 0) ∧ S.1 c 8 = nI (T 0 2) ∧ S.1 c 9 = nI (T 0 3) ∧ S.1 c 10 = nI (T 0 4) ∧ (∀ h, h < T 0 0 → S.1 c (12 + 8 * h) = nI (T 1 h)) ∧ (∀ h, h < T 0 0 → S.1 c (12 + 8 * h + 1) = nI (T 2 h)) ∧ (∀ h, h < T 0 0 → S.1 c (12 + 8 * h + 2) = nI (T 3 h)) ∧ (∀ h, h < T 0 0 → S.1 c (12 + 8 * h + 3) = nI (if (T 0 1).testBit h then 1 else 0)) ∧ (∀ k, k < T 0 4 → S.1 c (2268 + k) = nI (T 4 k))
def Wf (T : Tw) : Prop := T 0 0 ≤ 7 ∧ T 0 1 < 2 ^ T 0 0 ∧ T 0 2 ≤ 9999 ∧ T 0 3 < 30431 ∧ T 0 4 ≤ 40 ∧ (∀ h, h < T 0 0 → T 1 h < 1048576 ∧ pcf 20 (T 1 h) ≤ 3 ∧ T 2 h ≤ 9999 ∧ T 3 h ≤ 99) ∧ (∀ k, k < T 0 4 → T 4 k < 160000)
theorem Wf.g {T : Tw} (h : Wf T) : T 0 1 < 128 := Nat.lt_of_lt_of_le h.2.1 (Nat.pow_le_pow_right (by omega) h.1 : 2 ^ T 0 0 ≤ 2 ^ 7)
theorem Wf.gf {T : Tw} (h : Wf T) {i : Nat} (hi : T 0 0 ≤ i) : (T 0 1).testBit i = false := Nat.testBit_lt_two_pow (Nat.lt_of_lt_of_le h.2.1 (Nat.pow_le_pow_right (by omega) hi))
/-- masks -/
def mkp (p : Nat → Bool) : Nat → Nat
  | 0 => 0
  | n + 1 => mkp p n ||| (if p n then 2 ^ n else 0)
theorem mkp_s (p : Nat → Bool) (n : Nat) : mkp p (n + 1) = mkp p n ||| (if p n then 2 ^ n else 0) := rfl
theorem mkp_tb (p : Nat → Bool) : ∀ n i, (mkp p n).testBit i = (decide (i < n) && p i)
  | 0, i => by
    rw [show mkp p 0 = 0 from rfl, Nat.zero_testBit]
    rfl
  | n + 1, i => by
    rw [mkp_s, Nat.testBit_or, mkp_tb p n i]
    by_cases e : n = i
    · subst e
      rw [decide_eq_false (by omega : ¬ n < n), decide_eq_true (by omega : n < n + 1)]
      cases h : p n
      · rw [if_neg (by decide), Nat.zero_testBit]; rfl
      · rw [if_pos rfl, Nat.testBit_two_pow, decide_eq_true rfl]; rfl
    · have h0 : (if p n then 2 ^ n else 0).testBit i = false := by
        split
        · rw [Nat.testBit_two_pow, decide_eq_false e]
        · exact Nat.zero_testBit i
      rw [h0, Bool.or_false]
      by_cases h : i < n
      · rw [decide_eq_true h, decide_eq_true (by omega : i < n + 1)]
      · rw [decide_eq_false h, decide_eq_false (by omega : ¬ i < n + 1)]
theorem mkp_lt (p : Nat → Bool) (n : Nat) : mkp p n < 2 ^ n := Nat.lt_pow_two_of_testBit _ (fun i hi => by rw [mkp_tb, decide_eq_false (by omega), Bool.false_and])
theorem mkp_lt7 (p : Nat → Bool) {n : Nat} (hn : n ≤ 7) : mkp p n < 128 := Nat.lt_of_lt_of_le (mkp_lt p n) (Nat.pow_le_pow_right (by omega) hn : 2 ^ n ≤ 2 ^ 7)
theorem mkp_lt20 (p : Nat → Bool) {n : Nat} (hn : n ≤ 20) : mkp p n < 1048576 := Nat.lt_of_lt_of_le (mkp_lt p n) (Nat.pow_le_pow_right (by omega) hn : 2 ^ n ≤ 2 ^ 20)
theorem mkp_eq {p : Nat → Bool} {n m : Nat} (h : ∀ i, m.testBit i = (decide (i < n) && p i)) : m = mkp p n := Nat.eq_of_testBit_eq (fun i => by rw [h, mkp_tb])
theorem mkp_cong {p q : Nat → Bool} {n : Nat} (h : ∀ i, i < n → p i = q i) : mkp p n = mkp q n := Nat.eq_of_testBit_eq (fun i => by
  rw [mkp_tb, mkp_tb]
  by_cases e : i < n
  · rw [h i e]
  · rw [decide_eq_false e, Bool.false_and, Bool.false_and])
theorem ct_cut {q : Nat → Bool} {n : Nat} : ∀ {N : Nat}, n ≤ N → (∀ k, n ≤ k → q k = false) → fb_ct q N = fb_ct q n
  | 0, h, _ => by rw [show n = 0 by omega]
  | N + 1, h, hq => by
    by_cases e : n = N + 1
    · rw [e]
    · rw [fb_ct_succ, ct_cut (N := N) (by omega) hq, hq N (by omega)]
      rfl
theorem mkp_ct {p : Nat → Bool} {n : Nat} (hn : n ≤ 20) : pcf 20 (mkp p n) = fb_ct p n := by
  rw [pcf_ct, ct_cut hn (fun k hk => by rw [mkp_tb, decide_eq_false (by omega), Bool.false_and])]
  exact fb_ct_cong (fun k hk => by rw [mkp_tb, decide_eq_true hk, Bool.true_and])
theorem pcf_le_n {k n m : Nat} (h : m < 2 ^ n) (hn : n ≤ k) : pcf k m = pcf n m := by
  rw [pcf_ct, pcf_ct]
  exact ct_cut hn (fun i hi => Nat.testBit_lt_two_pow (Nat.lt_of_lt_of_le h (Nat.pow_le_pow_right (by omega) hi)))
/-- loops: counted, and searching -/
theorem up_l {β : Type} (L : Nat → Nat → β) (r : β) (n : Nat) (hx : ∀ k, L (k + 1) n = r) (hs : ∀ k i, i < n → L (k + 1) i = L k (i + 1)) : ∀ k i, i ≤ n → n - i < k → L k i = r
  | 0, i, _, h => by omega
  | k + 1, i, hi, h => by
    by_cases e : i = n
    · rw [e]; exact hx k
    · rw [hs k i (by omega)]
      exact up_l L r n hx hs k (i + 1) (by omega) (by omega)
def srch {β : Type} (f : Nat → Option β) (d : β) : Nat → Nat → β
  | 0, _ => d
  | m + 1, i => match f i with
    | some r => r
    | none => srch f d m (i + 1)
theorem srch_s {β : Type} {f : Nat → Option β} {d r : β} {m i : Nat} (h : f i = some r) : srch f d (m + 1) i = r := by
  show (match f i with | some r => r | none => srch f d m (i + 1)) = r
  rw [h]
theorem srch_n {β : Type} {f : Nat → Option β} {d : β} {m i : Nat} (h : f i = none) : srch f d (m + 1) i = srch f d m (i + 1) := by
  show (match f i with | some r => r | none => srch f d m (i + 1)) = _
  rw [h]
theorem srch_cong {β : Type} {f g : Nat → Option β} {d : β} : ∀ {m i : Nat}, (∀ j, i ≤ j → j < i + m → f j = g j) → srch f d m i = srch g d m i
  | 0, _, _ => rfl
  | m + 1, i, h => by
    have e := h i (Nat.le_refl _) (by omega)
    cases hf : f i with
    | some r => rw [srch_s hf, srch_s (e.symm.trans hf)]
    | none => rw [srch_n hf, srch_n (e.symm.trans hf), srch_cong (fun j h1 h2 => h j (by omega) (by omega))]
theorem up_s {β : Type} (L : Nat → Nat → β) (f : Nat → Option β) (d : β) (n : Nat) (hx : ∀ k, L (k + 1) n = d) (hs : ∀ k i, i < n → (∀ r, f i = some r → L (k + 1) i = r) ∧ (f i = none → L (k + 1) i = L k (i + 1))) : ∀ k i, i ≤ n → n - i < k → L k i = srch f d (n - i) i
  | 0, i, _, h => by omega
  | k + 1, i, hi, h => by
    by_cases e : i = n
    · subst e
      rw [hx k, Nat.sub_self]
      rfl
    · obtain ⟨h1, h2⟩ := hs k i (by omega)
      rw [show n - i = (n - (i + 1)) + 1 by omega]
      cases hf : f i with
      | some r => rw [h1 r hf, srch_s hf]
      | none => rw [h2 hf, srch_n hf, up_s L f d n hx hs k (i + 1) (by omega) (by omega)]
/-- iterated accumulators -/
def itr {α : Type} (f : Nat → α → α) (a : α) : Nat → α
  | 0 => a
  | n + 1 => f n (itr f a n)
theorem itr_s {α : Type} (f : Nat → α → α) (a : α) (n : Nat) : itr f a (n + 1) = f n (itr f a n) := rfl
theorem itr_inv {α : Type} {f : Nat → α → α} {a : α} {P : Nat → α → Prop} (h0 : P 0 a) : ∀ {n : Nat}, (∀ i x, i < n → P i x → P (i + 1) (f i x)) → P n (itr f a n)
  | 0, _ => h0
  | n + 1, hs => hs n _ (by omega) (itr_inv h0 (fun i x hi hx => hs i x (by omega) hx))
theorem sq_at (S : mS) (t k : Nat) (v : Int32) (u j : Nat) : (sI S t k v).1 u j = if u = t ∧ j = k then v else S.1 u j := rfl
theorem sq_hit (S : mS) (t k : Nat) (v : Int32) : (sI S t k v).1 t k = v := if_pos ⟨rfl, rfl⟩
theorem sq_off {S : mS} {t k : Nat} {v : Int32} {u j : Nat} (h : u ≠ t ∨ j ≠ k) : (sI S t k v).1 u j = S.1 u j := if_neg (fun q => by rcases h with h | h; exact h q.1; exact h q.2)
theorem sq_u {S : mS} {t k : Nat} {v : Int32} {u j : Nat} (h : u ≠ t) : (sI S t k v).1 u j = S.1 u j := sq_off (Or.inl h)
theorem sq_2 (S : mS) (t k : Nat) (v : Int32) : (sI S t k v).2 = S.2 := rfl
theorem sC_u {S : mS} {a b sp dp n : Nat} {u j : Nat} (h : u ≠ b) : (sC S a b sp dp n).1 u j = S.1 u j := if_neg h
theorem sC_b (S : mS) (a b sp dp n : Nat) (j : Nat) : (sC S a b sp dp n).1 b j = va_cpy (S.1 a) (S.1 b) sp dp n j := if_pos rfl
theorem inb_f {a : Int32} {N : Nat} (h : ∃ j, j < N ∧ a = nI j) (hN : N < 2 ^ 31) : inb a N = true := by
  obtain ⟨j, hj, rfl⟩ := h
  exact inb_n hj hN
