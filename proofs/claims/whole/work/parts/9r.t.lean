/-! ===== bytes and tokens ===== -/
def isL (b : Nat) : Bool := decide ((97 ≤ b ∧ b ≤ 122) ∨ (65 ≤ b ∧ b ≤ 90))
def isD (b : Nat) : Bool := decide (48 ≤ b ∧ b ≤ 57)
def isB (b : Nat) : Bool := decide (b = 32 ∨ b = 10)
def rn (B : Nat → Nat) (P : Nat → Bool) : Nat → Nat → Nat
  | 0, p => p
  | m + 1, p => if P (B p) = true then rn B P m (p + 1) else p
def sk (B : Nat → Nat) (p : Nat) : Nat := rn B isB 301 p
def tE (B : Nat → Nat) (p : Nat) : Nat := if isL (B p) = true then rn B isL 301 (p + 1) else (if isD (B p) = true then rn B isD 301 (p + 1) else (if (B p = 60 ∨ B p = 62) ∧ B (p + 1) = 61 then p + 2 else p + 1))
def tS (B : Nat → Nat) : Nat → Nat
  | 0 => sk B 0
  | i + 1 => sk B (tE B (tS B i))
def pkf (f : Nat → Nat) : Nat → Nat
  | 0 => 0
  | n + 1 => pkf f n * 256 + f n
def wW (B : Nat → Nat) (p n : Nat) : Nat := if n ≤ 7 then pkf (fun k => B (p + k)) n else 1152921504606846976
def wcs : List Nat := [6578553, 1684108389, 448546567013, 483006772069, 28836244623352947, 1684109683, 1869636974, 108187867505765, 435426586227, 465726301555, 1818588275, 461414294379, 469786325625, 6840692, 112628846781812, 29807, 28518, 28530, 6385252, 7237492, 28263454966310259, 431265114484]
def kI (W : Nat) : List Nat → Nat → Nat
  | [], _ => 1
  | c :: l, n => if W = c then n else kI W l (n + 1)
def kW (W : Nat) : Nat := kI W wcs 16
def sg (b : Nat) : Nat := if b = 60 then 3 else if b = 62 then 4 else if b = 61 then 5 else if b = 35 then 6 else if b = 43 then 7 else if b = 45 then 8 else if b = 42 then 9 else if b = 47 then 10 else if b = 40 then 11 else if b = 41 then 12 else if b = 59 then 13 else 1
def kd (B : Nat → Nat) (p : Nat) : Nat := if B p = 256 then 0 else (if isL (B p) = true then kW (wW B p (tE B p - p)) else (if isD (B p) = true then 2 else (if tE B p - p = 2 then (if B p = 60 then 14 else 15) else sg (B p))))
def nmR (B : Nat → Nat) (p : Nat) : Nat → Nat
  | 0 => 0
  | n + 1 => if nmR B p n ≤ 99999 then 10 * nmR B p n + B (p + n) - 48 else nmR B p n
def nmC (B : Nat → Nat) (p : Nat) : Nat → Nat
  | 0 => 0
  | n + 1 => min 10000 (nmC B p n * 10 + B (p + n) - 48)
/-- a tape of L bytes -/
def BL (B : Nat → Nat) (L : Nat) : Prop := L ≤ 300 ∧ (∀ k, k < L → B k < 256) ∧ ∀ k, L ≤ k → B k = 256
section
variable {B : Nat → Nat} {L : Nat}
theorem rn_ge (P : Nat → Bool) : ∀ m p, p ≤ rn B P m p
  | 0, p => Nat.le_refl _
  | m + 1, p => by
    unfold rn
    split
    · have := rn_ge P m (p + 1); omega
    · exact Nat.le_refl _
theorem rn_le (P : Nat → Bool) (hB : BL B L) (hP : P 256 = false) : ∀ m p, p ≤ L → rn B P m p ≤ L
  | 0, p, h => h
  | m + 1, p, h => by
    unfold rn
    split
    · rename_i q
      refine rn_le P hB hP m (p + 1) ?_
      rcases Nat.lt_or_ge p L with z | z
      · exact z
      · rw [hB.2.2 p z, hP] at q; exact absurd q (by decide)
    · exact h
theorem rn_st (P : Nat → Bool) (hB : BL B L) (hP : P 256 = false) : ∀ m p, L ≤ p + m → P (B (rn B P m p)) = false
  | 0, p, h => by show P (B p) = false; rw [hB.2.2 p (by omega), hP]
  | m + 1, p, h => by
    unfold rn
    split
    · exact rn_st P hB hP m (p + 1) (by omega)
    · rename_i q; exact Bool.eq_false_iff.mpr q
theorem rn_al (P : Nat → Bool) : ∀ m p q, p ≤ q → q < rn B P m p → P (B q) = true
  | 0, p, q, h1, h2 => absurd h2 (by show ¬ q < p; omega)
  | m + 1, p, q, h1, h2 => by
    unfold rn at h2
    split at h2
    · rename_i z
      by_cases e : q = p
      · rw [e]; exact z
      · exact rn_al P m (p + 1) q (by omega) h2
    · omega
theorem rn_s {P : Nat → Bool} {m p : Nat} (h : P (B p) = true) : rn B P (m + 1) p = rn B P m (p + 1) := if_pos h
theorem rn_n {P : Nat → Bool} {m p : Nat} (h : P (B p) = false) : rn B P m p = p := by
  cases m
  · rfl
  · exact if_neg (by rw [h]; decide)
/-- fuel enough is fuel enough -/
theorem rn_m (P : Nat → Bool) (hB : BL B L) (hP : P 256 = false) : ∀ m m' p, L ≤ p + m → L ≤ p + m' → rn B P m p = rn B P m' p
  | 0, m', p, h, h' => (rn_n (m := m') (p := p) (by rw [hB.2.2 p (by omega), hP])).symm
  | m + 1, 0, p, h, h' => rn_n (by rw [hB.2.2 p (by omega), hP])
  | m + 1, m' + 1, p, h, h' => by
    unfold rn
    split
    · exact rn_m P hB hP m m' (p + 1) (by omega) (by omega)
    · rfl
theorem sk_le (hB : BL B L) {p : Nat} (h : p ≤ L) : sk B p ≤ L := rn_le _ hB (by decide) _ _ h
theorem BL.nz (hB : BL B L) {p : Nat} (h : B p ≠ 256) : p < L := by
  rcases Nat.lt_or_ge p L with z | z
  · exact z
  · exact absurd (hB.2.2 p z) h
theorem tE_gt (p : Nat) : p < tE B p := by
  unfold tE
  split
  · exact rn_ge _ _ _
  · split
    · exact rn_ge _ _ _
    · split <;> omega
theorem tE_le (hB : BL B L) {p : Nat} (h : B p ≠ 256) : tE B p ≤ L := by
  have hp := hB.nz h
  unfold tE
  split
  · exact rn_le _ hB (by decide) _ _ hp
  · split
    · exact rn_le _ hB (by decide) _ _ hp
    · split
      · rename_i q
        have := hB.nz (p := p + 1) (by rw [q.2]; decide)
        omega
      · omega
theorem tS_le (hB : BL B L) : ∀ i, (∀ j, j < i → B (tS B j) ≠ 256) → tS B i ≤ L
  | 0, _ => sk_le hB (Nat.zero_le _)
  | i + 1, h => sk_le hB (tE_le hB (h i (by omega)))
theorem tS_i : ∀ i, i ≤ tS B i
  | 0 => Nat.zero_le _
  | i + 1 => by
    have h1 := tS_i i
    have h2 := tE_gt (B := B) (tS B i)
    have h3 := rn_ge (B := B) isB 301 (tE B (tS B i))
    show i + 1 ≤ rn B isB 301 (tE B (tS B i))
    omega
theorem pkf_lt {f : Nat → Nat} : ∀ n, (∀ k, k < n → f k < 256) → pkf f n < 256 ^ n
  | 0, _ => Nat.zero_lt_one
  | n + 1, h => by
    have h1 := pkf_lt (f := f) n (fun k hk => h k (by omega))
    have h2 := h n (by omega)
    rw [Nat.pow_succ]
    show pkf f n * 256 + f n < _
    omega
theorem pkf_inj {f g : Nat → Nat} : ∀ n m, (∀ k, k < n → 0 < f k ∧ f k < 256) → (∀ k, k < m → 0 < g k ∧ g k < 256) → pkf f n = pkf g m → n = m ∧ ∀ k, k < n → f k = g k
  | 0, 0, _, _, _ => ⟨rfl, fun k hk => absurd hk (Nat.not_lt_zero k)⟩
  | 0, m + 1, _, hg, h => by
    have h2 := hg m (by omega)
    have h3 : 0 = pkf g m * 256 + g m := h
    omega
  | n + 1, 0, hf, _, h => by
    have h2 := hf n (by omega)
    have h3 : pkf f n * 256 + f n = 0 := h
    omega
  | n + 1, m + 1, hf, hg, h => by
    have h1 := hf n (by omega)
    have h2 := hg m (by omega)
    have h3 : pkf f n * 256 + f n = pkf g m * 256 + g m := h
    obtain ⟨e, z⟩ := pkf_inj n m (fun k hk => hf k (by omega)) (fun k hk => hg k (by omega)) (by omega)
    subst e
    refine ⟨rfl, fun k hk => ?_⟩
    by_cases q : k = n
    · subst q; omega
    · exact z k (by omega)
theorem pkf_cong {f g : Nat → Nat} : ∀ n, (∀ k, k < n → f k = g k) → pkf f n = pkf g n
  | 0, _ => rfl
  | n + 1, h => by
    show pkf f n * 256 + f n = pkf g n * 256 + g n
    rw [pkf_cong n (fun k hk => h k (by omega)), h n (by omega)]
theorem pkf_big {f : Nat → Nat} (h : 0 < f 0) : ∀ n, 256 ^ n ≤ pkf f (n + 1)
  | 0 => by show 1 ≤ 0 * 256 + f 0; omega
  | n + 1 => by
    have := pkf_big h n
    rw [Nat.pow_succ]
    show _ ≤ pkf f (n + 1) * 256 + f (n + 1)
    omega
theorem kI_iff (W : Nat) : ∀ (l : List Nat) (n w : Nat), 2 ≤ n → w < l.length → l.Nodup → (kI W l n = n + w ↔ W = l.getD w 0)
  | [], n, w, _, hw, _ => absurd hw (Nat.not_lt_zero _)
  | c :: l, n, 0, hn, hw, hd => by
    unfold kI
    by_cases e : W = c
    · rw [if_pos e]; exact ⟨fun _ => e, fun _ => rfl⟩
    · rw [if_neg e]
      have lo : ∀ (l : List Nat) (n : Nat), kI W l n = 1 ∨ n ≤ kI W l n := by
        intro l
        induction l with
        | nil => intro n; exact Or.inl rfl
        | cons c l ih =>
          intro n
          unfold kI
          split
          · exact Or.inr (Nat.le_refl _)
          · rcases ih (n + 1) with z | z
            · exact Or.inl z
            · exact Or.inr (by omega)
      refine ⟨fun z => ?_, fun z => absurd z e⟩
      rcases lo l (n + 1) with y | y <;> omega
  | c :: l, n, w + 1, hn, hw, hd => by
    have hw' : w < l.length := by have h2 : w + 1 < l.length + 1 := hw; omega
    have hd' := List.nodup_cons.mp hd
    unfold kI
    have ih := kI_iff W l (n + 1) w (by omega) hw' hd'.2
    by_cases e : W = c
    · rw [if_pos e]
      refine ⟨fun z => by omega, fun z => ?_⟩
      have z2 : W = l.getD w 0 := z
      refine absurd ?_ hd'.1
      rw [← e, z2, List.getD_eq_getElem?_getD, List.getElem?_eq_getElem hw']
      exact List.getElem_mem hw'
    · rw [if_neg e]
      show kI W l (n + 1) = n + (w + 1) ↔ W = l.getD w 0
      rw [← ih]
      omega
theorem kW_iff (W : Nat) {w : Nat} (hw : w < 22) : kW W = 16 + w ↔ W = wcs.getD w 0 := kI_iff W wcs 16 w (by omega) hw (by decide)
theorem kW_c (W : Nat) : kW W = 1 ∨ ∃ w, w < 22 ∧ kW W = 16 + w := by
  have lo : ∀ (l : List Nat) (n : Nat), kI W l n = 1 ∨ ∃ w, w < l.length ∧ kI W l n = n + w := by
    intro l
    induction l with
    | nil => intro n; exact Or.inl rfl
    | cons c l ih =>
      intro n
      unfold kI
      split
      · exact Or.inr ⟨0, Nat.succ_pos _, rfl⟩
      · rcases ih (n + 1) with z | ⟨w, z1, z2⟩
        · exact Or.inl z
        · exact Or.inr ⟨w + 1, Nat.succ_lt_succ z1, by omega⟩
  exact lo wcs 16
theorem nm_eq (p : Nat) : ∀ n, (∀ k, k < n → isD (B (p + k)) = true) → min (nmR B p n) 10000 = nmC B p n ∧ nmR B p n < 2000000
  | 0, _ => ⟨rfl, show 0 < 2000000 by omega⟩
  | n + 1, h => by
    obtain ⟨h1, h2⟩ := nm_eq p n (fun k hk => h k (by omega))
    have h3 := of_decide_eq_true (h n (by omega))
    unfold nmR nmC
    rw [← h1]
    split
    · omega
    · omega
theorem sg_b (b : Nat) : sg b < 14 ∧ 0 < sg b := by
  unfold sg
  repeat' split
  all_goals omega
theorem kd_lt (p : Nat) : kd B p < 38 := by
  unfold kd
  split
  · omega
  · split
    · rcases kW_c (wW B p (tE B p - p)) with z | ⟨w, z1, z2⟩ <;> omega
    · split
      · omega
      · split
        · split <;> omega
        · have := (sg_b (B p)).1; omega
theorem kd_0 (p : Nat) : kd B p = 0 ↔ B p = 256 := by
  unfold kd
  split
  · rename_i h; exact ⟨fun _ => h, fun _ => rfl⟩
  · rename_i h
    refine ⟨fun z => absurd z ?_, fun z => absurd z h⟩
    split
    · rcases kW_c (wW B p (tE B p - p)) with z | ⟨w, z1, z2⟩ <;> omega
    · split
      · omega
      · split
        · split <;> omega
        · have := (sg_b (B p)).2; omega
end
