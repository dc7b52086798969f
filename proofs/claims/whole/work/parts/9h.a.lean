/-! ===== appointments: the reference's numbers ===== -/
section
variable {F : Nat} {T : Tw} {n : Nat} {mem : Nat → Nat}
theorem x9_65 {K : mS → Int32 → Int32 → Int32 → Int32 → Option (mS × Int32)} {a1 a2 : Int32} {S : mS} {len : Nat} (hl : len < 100) (q : Nat) : ∀ (i k : Nat), i + q = len → q < k → lX9_appointments_65 F K 375 a1 a2 k S (nI n) (nI len) (nI ((n + 1) ^ i)) (nI i) = K S (nI n) (nI len) (nI ((n + 1) ^ len)) (nI 0) := by
  induction q with
  | zero =>
    intro i k hi hk
    obtain ⟨k, rfl⟩ : ∃ k', k = k' + 1 := ⟨k - 1, by omega⟩
    rw [u_X9_appointments_65, if_pos (nI_le (by omega) (by omega)), show i = len by omega]
  | succ q ih =>
    intro i k hi hk
    obtain ⟨k, rfl⟩ : ∃ k', k = k' + 1 := ⟨k - 1, by omega⟩
    rw [u_X9_appointments_65, if_neg (nI_ge (by omega) (by omega)), nI_add, nI_add, pk_mul, ← Nat.pow_succ]
    exact ih (i + 1) k (by omega) (by omega)
theorem US_0 (n : Nat) : US n 0 (2 ^ n - 1) := ⟨Nat.pow_pos (by decide), fun i h => by
  rw [Nat.testBit_two_pow_sub_one] at h; exact of_decide_eq_true h, fun i hi => by
  rw [Nat.testBit_two_pow_sub_one, Nat.zero_testBit, decide_eq_true hi]; rfl⟩
theorem x9_laid (hF : 40 < F) (hW : Wf T) (hn : n ≤ 5) (hA : asc n mem) (hmem : ∀ i, i < n → mem i < T 0 0) {v len : Nat} {S : mS} (hl : len ≤ 20) (hv : v < 2 ^ 31) (hR : RT S 376 T) (hM : ∀ i, i < n → S.1 386 i = nI (mem i)) : ∃ S', f_X9_isLaid F S 375 (nI v) (nI n) (nI len) = some (S', okL n (opM T mem) 0 len (2 ^ n - 1) v) ∧ (∀ u k, u ≠ 387 → S'.1 u k = S.1 u k) ∧ (okL n (opM T mem) 0 len (2 ^ n - 1) v = true → ∀ i, i < n → S'.1 387 (mem i) = nI (psL n 0 len v i)) := by
  obtain ⟨S', a, b, c, _⟩ := x9_il (F := F) (a1 := nI v) (a3 := nI len) hW hn hA hmem len F v 0 (2 ^ n - 1) hl (by omega) hv (US_0 n) hR hM
  refine ⟨S', ?_, b, fun h i hi => c h i (by rw [Nat.testBit_two_pow_sub_one]; exact decide_eq_true hi)⟩
  rw [u_X9_isLaid, (by decide : ∀ n, n < 21 → nI n - nI 1 = nI n + (-1)) len (by omega)]
  exact a
theorem x9_89n (hF : 40 < F) (hW : Wf T) (hn : n ≤ 5) (hA : asc n mem) (hmem : ∀ i, i < n → mem i < T 0 0) {K : mS → Int32 → Int32 → Option (mS × Int32)} {a1 a2 : Int32} {N len : Nat} (hl : len ≤ 20) (hN : N < 2 ^ 31) (hno : ∀ v, v < N → okL n (opM T mem) 0 len (2 ^ n - 1) v = false) (q : Nat) : ∀ (v k : Nat) {S : mS}, v + q = N → q < k → RT S 376 T → (∀ i, i < n → S.1 386 i = nI (mem i)) → ∃ S', lX9_appointments_89 F K 375 a1 a2 k S (nI n) (nI len) (nI N) (nI v) = K S' (nI n) (nI (len + 1)) ∧ ∀ u k, u ≠ 387 → S'.1 u k = S.1 u k := by
  induction q with
  | zero =>
    intro v k S hv hk hR hM
    obtain ⟨k, rfl⟩ : ∃ k', k = k' + 1 := ⟨k - 1, by omega⟩
    exact ⟨S, by rw [u_X9_appointments_89, if_pos (nI_le (by omega) (by omega)), nI_add], fun _ _ _ => rfl⟩
  | succ q ih =>
    intro v k S hv hk hR hM
    obtain ⟨k, rfl⟩ : ∃ k', k = k' + 1 := ⟨k - 1, by omega⟩
    obtain ⟨S1, a, b, _⟩ := x9_laid hF hW hn hA hmem (v := v) hl (by omega) hR hM
    obtain ⟨S2, c, d⟩ := ih (v + 1) k (S := S1) (by omega) (by omega) (hR.fr (fun k => b _ _ (by decide))) (fun i hi => (b _ _ (by decide)).trans (hM i hi))
    refine ⟨S2, ?_, fun u k h => (d u k h).trans (b u k h)⟩
    rw [u_X9_appointments_89, if_neg (nI_ge (by omega) (by omega)), a, bd_s, hno v (by omega), if_neg (show ¬ ((S1, false) : mS × Bool).2 = true from Bool.false_ne_true), nI_add]
    exact c
theorem x9_89y (hF : 40 < F) (hW : Wf T) (hn : n ≤ 5) (hA : asc n mem) (hmem : ∀ i, i < n → mem i < T 0 0) {K : mS → Int32 → Int32 → Option (mS × Int32)} {a1 a2 : Int32} {N len w : Nat} (hl : len ≤ 20) (hN : N < 2 ^ 31) (hw : w < N) (hy : okL n (opM T mem) 0 len (2 ^ n - 1) w = true) (hno : ∀ v, v < w → okL n (opM T mem) 0 len (2 ^ n - 1) v = false) (q : Nat) : ∀ (v k : Nat) {S : mS}, v + q = w → q < k → RT S 376 T → (∀ i, i < n → S.1 386 i = nI (mem i)) → ∃ S', lX9_appointments_89 F K 375 a1 a2 k S (nI n) (nI len) (nI N) (nI v) = (if a2 = (-1 : Int32) then (some (S', nI len)) else (ck (inb a2 7) (some (S', S'.1 387 a2.toNatClampNeg)))) ∧ (∀ u k, u ≠ 387 → S'.1 u k = S.1 u k) ∧ ∀ i, i < n → S'.1 387 (mem i) = nI (psL n 0 len w i) := by
  induction q with
  | zero =>
    intro v k S hv hk hR hM
    obtain ⟨k, rfl⟩ : ∃ k', k = k' + 1 := ⟨k - 1, by omega⟩
    have e : v = w := by omega
    subst e
    obtain ⟨S1, a, b, c⟩ := x9_laid hF hW hn hA hmem (v := v) hl (by omega) hR hM
    refine ⟨S1, ?_, b, c hy⟩
    rw [u_X9_appointments_89, if_neg (nI_ge (by omega) (by omega)), a, bd_s, hy, if_pos rfl]
  | succ q ih =>
    intro v k S hv hk hR hM
    obtain ⟨k, rfl⟩ : ∃ k', k = k' + 1 := ⟨k - 1, by omega⟩
    obtain ⟨S1, a, b, _⟩ := x9_laid hF hW hn hA hmem (v := v) hl (by omega) hR hM
    obtain ⟨S2, c, d, e⟩ := ih (v + 1) k (S := S1) (by omega) (by omega) (hR.fr (fun k => b _ _ (by decide))) (fun i hi => (b _ _ (by decide)).trans (hM i hi))
    refine ⟨S2, ?_, fun u k h => (d u k h).trans (b u k h), e⟩
    rw [u_X9_appointments_89, if_neg (nI_ge (by omega) (by omega)), a, bd_s, hno v (by omega), if_neg (show ¬ ((S1, false) : mS × Bool).2 = true from Bool.false_ne_true), nI_add]
    exact c
end
