/-! ===== appointments: the reference's lengths ===== -/
section
variable {F : Nat} {T : Tw} {n : Nat} {mem : Nat → Nat}
theorem x9_59 (hF : 4194304 ≤ F) (hW : Wf T) (hn : n ≤ 5) (hA : asc n mem) (hmem : ∀ i, i < n → mem i < T 0 0) {a1 a2 : Int32} {l v : Nat} (hl : l ≤ n + 3) (h1 : v < (n + 1) ^ l) (h2 : okL n (opM T mem) 0 l (2 ^ n - 1) v = true) (h3 : ∀ v', v' < v → okL n (opM T mem) 0 l (2 ^ n - 1) v' = false) (q : Nat) : ∀ (len k : Nat) {S : mS}, len + q = l → q < k → (∀ l', len ≤ l' → l' < l → ∀ v', v' < (n + 1) ^ l' → okL n (opM T mem) 0 l' (2 ^ n - 1) v' = false) → RT S 376 T → (∀ i, i < n → S.1 386 i = nI (mem i)) → ∃ S', lX9_appointments_59 F 375 a1 a2 k S (nI n) (nI len) = (if a2 = (-1 : Int32) then (some (S', nI l)) else (ck (inb a2 7) (some (S', S'.1 387 a2.toNatClampNeg)))) ∧ (∀ u k, u ≠ 387 → S'.1 u k = S.1 u k) ∧ ∀ i, i < n → S'.1 387 (mem i) = nI (psL n 0 l v i) := by
  have pw : ∀ len, len ≤ 8 → (n + 1) ^ len ≤ 1679616 := fun len h => Nat.le_trans (Nat.pow_le_pow_left (show n + 1 ≤ 6 by omega) len) (Nat.le_trans (Nat.pow_le_pow_right (by decide) h) (by decide))
  induction q with
  | zero =>
    intro len k S he hk hno hR hM
    obtain ⟨k, rfl⟩ : ∃ k', k = k' + 1 := ⟨k - 1, by omega⟩
    have e : len = l := by omega
    subst e
    have p := pw len (by omega)
    have z := x9_89y (F := F) (K := fun (S : mS) (v3 : Int32) (v4 : Int32) => lX9_appointments_59 F 375 a1 a2 k S v3 v4) (a1 := a1) (a2 := a2) (by omega) hW hn hA hmem (N := (n + 1) ^ len) (by omega) (by omega) h1 h2 h3 v 0 F (S := S) (by omega) (by omega) hR hM
    obtain ⟨S', a, b, c⟩ := z
    refine ⟨S', ?_, b, c⟩
    rw [u_X9_appointments_59]
    exact (x9_65 (n := n) (len := len) (by omega) len 0 F (by omega) (by omega)).trans a
  | succ q ih =>
    intro len k S he hk hno hR hM
    obtain ⟨k, rfl⟩ : ∃ k', k = k' + 1 := ⟨k - 1, by omega⟩
    have p := pw len (by omega)
    obtain ⟨S1, a, b⟩ := x9_89n (F := F) (K := fun (S : mS) (v3 : Int32) (v4 : Int32) => lX9_appointments_59 F 375 a1 a2 k S v3 v4) (a1 := a1) (a2 := a2) (by omega) hW hn hA hmem (N := (n + 1) ^ len) (len := len) (by omega) (by omega) (hno len (by omega) (by omega)) ((n + 1) ^ len) 0 F (S := S) (by omega) (by omega) hR hM
    obtain ⟨S2, c, d, e⟩ := ih (len + 1) k (S := S1) (by omega) (by omega) (fun l' x y => hno l' (by omega) y) (hR.fr (fun k => b _ _ (by decide))) (fun i hi => (b _ _ (by decide)).trans (hM i hi))
    refine ⟨S2, ?_, fun u k h => (d u k h).trans (b u k h), e⟩
    rw [u_X9_appointments_59]
    exact ((x9_65 (n := n) (len := len) (by omega) len 0 F (by omega) (by omega)).trans a).trans c
end
