/-! ===== appointments: the class's plan ===== -/
section
variable {F : Nat} {T : Tw} {n : Nat} {mem : Nat → Nat}
theorem x1_pl (hF : 20 < F) (hW : Wf T) (hn : n ≤ 5) (hA : asc n mem) (hmem : ∀ i, i < n → mem i < T 0 0) {set : Nat} (hL : LU n mem set (2 ^ n - 1)) (q : Nat) : ∀ (len k : Nat) {S : mS}, len + q = n + 3 → q < k → CT S 41 T → S.1 370 1 = nI len → ∃ S' l v, lX1_plan_8 F 370 41 (nI set) k S = some S' ∧ S'.1 370 1 = nI l ∧ len ≤ l ∧ l ≤ n + 3 ∧ (v < (n + 1) ^ l ∧ okL n (opM T mem) 0 l (2 ^ n - 1) v = true ∧ ∀ v', v' < v → okL n (opM T mem) 0 l (2 ^ n - 1) v' = false) ∧ (∀ l', len ≤ l' → l' < l → ∀ v', v' < (n + 1) ^ l' → okL n (opM T mem) 0 l' (2 ^ n - 1) v' = false) ∧ (∀ i, i < n → S'.1 371 (mem i) = nI (psL n 0 l v i)) ∧ ∀ u k, u ≠ 370 → u ≠ 371 → S'.1 u k = S.1 u k := by
  induction q with
  | zero =>
    intro len k S hl hk hC h1
    obtain ⟨k, rfl⟩ : ∃ k', k = k' + 1 := ⟨k - 1, by omega⟩
    obtain ⟨S', r, u, f, w⟩ := x1_cp hF hW (by omega) hA hmem (len := len) (by omega) len 0 32 (S := S) (by omega) (by omega) hC hL
    rcases w with ⟨rfl, w⟩ | ⟨rfl, w, w1, w2, w3, w4⟩
    · obtain ⟨v, v1, v2⟩ := plan_ex (mem := mem) hW hn hmem
      rw [show n + 3 = len by omega] at v1 v2
      rw [w v v1] at v2
      exact absurd v2 (by decide)
    · refine ⟨S', len, w, ?_, (f _ _ (by decide)).trans h1, Nat.le_refl _, by omega, ⟨w1, w2, w3⟩, fun l' a b => by omega, fun i hi => w4 i (by rw [Nat.testBit_two_pow_sub_one]; exact decide_eq_true hi), fun u k _ b => f u k b⟩
      rw [u_X1_plan_8, h1, if_neg (nI_ge (by omega) (by omega)), u_X1_canPlace, u, bd_s, if_pos rfl]
  | succ q ih =>
    intro len k S hl hk hC h1
    obtain ⟨k, rfl⟩ : ∃ k', k = k' + 1 := ⟨k - 1, by omega⟩
    obtain ⟨S', r, u, f, w⟩ := x1_cp hF hW (by omega) hA hmem (len := len) (by omega) len 0 32 (S := S) (by omega) (by omega) hC hL
    rcases w with ⟨rfl, w⟩ | ⟨rfl, w, w1, w2, w3, w4⟩
    · have h2 : S'.1 370 1 = nI len := (f _ _ (by decide)).trans h1
      obtain ⟨S2, l, v, a, b, c, d, e, g, m, o⟩ := ih (len + 1) k (S := sI S' 370 1 (nI (len + 1))) (by omega) (by omega) (hC.fr (fun u k a b => by rw [sq_u (by omega)]; exact f u k (by omega))) (sq_hit _ _ _ _)
      refine ⟨S2, l, v, ?_, b, by omega, d, e, fun l' x y => ?_, m, fun u k x y => by rw [o u k x y, sq_u x]; exact f u k y⟩
      · rw [u_X1_plan_8, h1, if_neg (nI_ge (by omega) (by omega)), u_X1_canPlace, u, bd_s, if_neg (show ¬ ((S', false) : mS × Bool).2 = true from Bool.false_ne_true), h2, nI_add, stp_s]
        exact a
      · by_cases z : l' = len
        · rw [z]; exact w
        · exact g l' (by omega) y
    · refine ⟨S', len, w, ?_, (f _ _ (by decide)).trans h1, Nat.le_refl _, by omega, ⟨w1, w2, w3⟩, fun l' a b => by omega, fun i hi => w4 i (by rw [Nat.testBit_two_pow_sub_one]; exact decide_eq_true hi), fun u k _ b => f u k b⟩
      rw [u_X1_plan_8, h1, if_neg (nI_ge (by omega) (by omega)), u_X1_canPlace, u, bd_s, if_pos rfl]
end
