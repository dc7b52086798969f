/-! ===== sets, odds, nextKnock ===== -/
section
variable {F : Nat}
theorem x2_in4 {S : mS} {q : Nat × Nat} {m0 : Nat} (hG : G2 S q m0) (hq : q20 q) (hm : m0 < 4) (m : Nat) : ∀ (i k : Nat) {B : Nat}, i + m = 20 → m < k → B < 1048576 → ∃ B', lX2_inAll_4 F 369 k S (nI B) (nI i) = some (nI B') ∧ B' < 1048576 ∧ ∀ d, B'.testBit d = true ↔ B.testBit d = true ∨ (i ≤ d ∧ d < 20 ∧ ¬ cF q.1 q.2 20 m0 0 = 0 ∧ cF (q.1 ||| 2 ^ d) q.2 20 m0 0 = cF q.1 q.2 20 m0 0) := by
  have b0 := cF_bd (O := q.2) hq.1 hm
  induction m with
  | zero =>
    intro i k B hi hk hB
    obtain ⟨k, rfl⟩ : ∃ k', k = k' + 1 := ⟨k - 1, by omega⟩
    exact ⟨B, by rw [u_X2_inAll_4, if_pos (nI_le (by omega) (by omega))], hB, fun d => ⟨fun h => Or.inl h, fun h => h.elim id (fun w => by omega)⟩⟩
  | succ m ih =>
    intro i k B hi hk hB
    obtain ⟨k, rfl⟩ : ∃ k', k = k' + 1 := ⟨k - 1, by omega⟩
    have b1 := cF_bd (W := q.1 ||| 2 ^ i) (O := q.2) (or_lt20 hq.1 (p2_lt20 (by omega))) hm
    have hw := x2_cw hG hq hm (d := i) (by omega)
    by_cases z : cF q.1 q.2 20 m0 0 = 0
    · obtain ⟨B', u, h1, h2⟩ := ih (i + 1) k (by omega) (by omega) hB
      refine ⟨B', ?_, h1, fun d => (h2 d).trans ⟨fun h => h.elim Or.inl (fun w => absurd z w.2.2.1), fun h => h.elim Or.inl (fun w => absurd z w.2.2.1)⟩⟩
      rw [u_X2_inAll_4, if_neg (nI_ge (by omega) (by omega)), hG.2.1, if_pos (nI_le (by omega) (by omega)), nI_add, u]
    · by_cases y : cF (q.1 ||| 2 ^ i) q.2 20 m0 0 = cF q.1 q.2 20 m0 0
      · obtain ⟨B', u, h1, h2⟩ := ih (i + 1) k (B := B ||| 2 ^ i) (by omega) (by omega) (or_lt20 hB (p2_lt20 (by omega)))
        refine ⟨B', ?_, h1, fun d => (h2 d).trans ⟨fun h => ?_, fun h => ?_⟩⟩
        · rw [u_X2_inAll_4, if_neg (nI_ge (by omega) (by omega)), hG.2.1, if_neg (nI_ge (by omega) (by omega)), hw, if_pos (congrArg nI y), i_shl (by omega), fa_or, nI_add, u]
        · rw [fb_bit_set, Bool.or_eq_true, decide_eq_true_eq] at h
          rcases h with (h | h) | h
          · exact Or.inl h
          · exact Or.inr ⟨by omega, by omega, z, by rw [h]; exact y⟩
          · exact Or.inr ⟨by omega, h.2⟩
        · rw [fb_bit_set, Bool.or_eq_true, decide_eq_true_eq]
          rcases h with h | h
          · exact Or.inl (Or.inl h)
          · by_cases e : d = i
            · exact Or.inl (Or.inr e)
            · exact Or.inr ⟨by omega, h.2⟩
      · obtain ⟨B', u, h1, h2⟩ := ih (i + 1) k (by omega) (by omega) hB
        refine ⟨B', ?_, h1, fun d => (h2 d).trans ⟨fun h => h.elim Or.inl (fun w => Or.inr ⟨by omega, w.2⟩), fun h => h.elim Or.inl (fun w => Or.inr ⟨?_, w.2⟩)⟩⟩
        · rw [u_X2_inAll_4, if_neg (nI_ge (by omega) (by omega)), hG.2.1, if_neg (nI_ge (by omega) (by omega)), hw, if_neg (nI_neq y (by omega) (by omega)), nI_add, u]
        · have : ¬ d = i := fun e => y (by rw [← e]; exact w.2.2.2)
          omega
theorem half_lt {b c n : Nat} (h1 : 0 < c) (h2 : c < b) (hb : b < 2 ^ (n + 1)) : b % c < 2 ^ n := by
  have a := Nat.mod_lt b h1
  have d := Nat.div_add_mod b c
  have e : 1 ≤ b / c := (Nat.one_le_div_iff h1).mpr (by omega)
  have f : c * 1 ≤ c * (b / c) := Nat.mul_le_mul_left c e
  rw [Nat.pow_succ] at hb
  omega
theorem gcd_st (a b : Nat) : Nat.gcd b (a % b) = Nat.gcd a b := by
  rw [Nat.gcd_comm, ← Nat.gcd_rec, Nat.gcd_comm]
theorem x8_gcd {a1 a2 : Int32} {S : mS} (n : Nat) : ∀ (a b t k : Nat), b < 2 ^ n → a < 2000 → b < 2000 → t + 2 * n ≤ 298 → 2 * n + 1 < k → lX8_commonDivisor_7 F a1 a2 k S (nI a) (nI b) (nI t) = some (nI (Nat.gcd a b)) := by
  induction n with
  | zero =>
    intro a b t k hb ha hb2 ht hk
    obtain ⟨k, rfl⟩ : ∃ k', k = k' + 1 := ⟨k - 1, by omega⟩
    have : b = 0 := by rw [Nat.pow_zero] at hb; omega
    subst this
    rw [u_X8_commonDivisor_7, if_neg (nI_ge (by omega) (by omega)), if_pos rfl, Nat.gcd_zero_right]
  | succ n ih =>
    intro a b t k hb ha hb2 ht hk
    obtain ⟨k, rfl⟩ : ∃ k', k = k' + 1 + 1 := ⟨k - 2, by omega⟩
    by_cases z : b = 0
    · subst z
      rw [u_X8_commonDivisor_7, if_neg (nI_ge (by omega) (by omega)), if_pos rfl, Nat.gcd_zero_right]
    · have m1 := Nat.mod_lt a (show b > 0 by omega)
      rw [u_X8_commonDivisor_7, if_neg (nI_ge (by omega) (by omega)), if_neg (nI_neq z (by omega) (by omega)), nz_n (by omega) (by omega), ck_t, nI_rem (by omega) (by omega) (by omega), nI_add, u_X8_commonDivisor_7, if_neg (nI_ge (by omega) (by omega))]
      by_cases y : a % b = 0
      · rw [y, if_pos rfl, ← gcd_st a b, y, Nat.gcd_zero_right]
      · rw [if_neg (nI_neq y (by omega) (by omega)), nz_n (by omega) (by omega), ck_t, nI_rem (by omega) (by omega) (by omega), nI_add, ih _ _ _ _ (half_lt (by omega) m1 hb) (by omega) (Nat.lt_trans (Nat.mod_lt _ (by omega)) (by omega)) (by omega) (by omega), gcd_st, gcd_st]
theorem x9_gcd {a1 a2 : Int32} {S : mS} (b : Nat) : ∀ (a k : Nat), a < 2000 → b < 2000 → b < k → lX9_common_4 F a1 a2 k S (nI a) (nI b) = some (nI (Nat.gcd a b)) := by
  induction b using Nat.strongRecOn with
  | ind b ih =>
    intro a k ha hb hk
    obtain ⟨k, rfl⟩ : ∃ k', k = k' + 1 := ⟨k - 1, by omega⟩
    by_cases z : b = 0
    · subst z
      rw [u_X9_common_4, if_pos rfl, Nat.gcd_zero_right]
    · have m1 := Nat.mod_lt a (show b > 0 by omega)
      rw [u_X9_common_4, if_neg (nI_neq z (by omega) (by omega)), nz_n (by omega) (by omega), ck_t, nI_rem (by omega) (by omega) (by omega), ih _ m1 _ _ hb (by omega) (by omega), gcd_st]
end
theorem cor_9 {S S1 : mS} (f : F9 S S1) : ∀ u k, cor u k → S1.1 u k = S.1 u k := fun u k c => f u k (by unfold cor at c; omega)
theorem cor_R {S S1 : mS} (f : FR S S1) : ∀ u k, cor u k → S1.1 u k = S.1 u k := fun u k c => f u k (by unfold cor at c; omega) (by unfold cor at c; omega)
/-- both sides, once they have counted -/
theorem both_g {F : Nat} (hF : 60 < F) {S : mS} {T N : Tw} {P : Nat → Tw} (hCW : CW S 40 T P N) (hRW : RW S 376 T P N) (hV : WV T P N) {h m0 : Nat} (hh : h < 8) (h0 : m0 < 3) : ∃ S1 S2 q, q20 q ∧ f_X2_lookAt F S 369 40 (nI h) (nI (m0 + 1)) = some S1 ∧ G2 S1 q (m0 + 1) ∧ F9 S S1 ∧ f_X9_laySets F S1 375 (nI h) (nI (m0 + 1)) = some S2 ∧ R3 S2 (fun j => cF (Wv q.1 j) q.2 20 (m0 + 1) 0) ∧ FR S1 S2 := by
  have sc : SC S N := ⟨hCW.2.2.2.1.2.2.2.2.1, hCW.2.2.2.2.1, hV.2.2.1.2.2.2.2.1, hV.2.2.2.1⟩
  have sr : SR S N := ⟨hRW.2.2.1.2.2.2.1, hRW.2.2.2.1, hV.2.2.1.2.2.2.2.1, hV.2.2.2.1⟩
  have hq : q20 (ntq T N h) := ntS_20 (fun k hk => (hV.2.2.2.1 k hk).2.1) _ 0 (by omega) (ntB_20 _ 0 q20_0)
  obtain ⟨S1, u1, g1, f1⟩ := x2_look hF hV.1 (m := m0 + 1) hh (by omega) hCW.1 sc
  have sr1 : SR S1 N := ⟨(f1 _ _ (by decide)).trans sr.1, fun k hk => ⟨(f1 _ _ (by decide)).trans (sr.2.1 k hk).1, (f1 _ _ (by decide)).trans (sr.2.1 k hk).2.1, (f1 _ _ (by decide)).trans (sr.2.1 k hk).2.2⟩, sr.2.2⟩
  obtain ⟨S2, u2, r2, f2⟩ := x9_lay1 (F := F) (by omega) hV.1 hh h0 (hRW.1.fr (fun k => f1 _ _ (by decide))) sr1
  refine ⟨S1, S2, _, hq, u1, g1, f1, u2, ?_, f2⟩
  have e0 : cXE (Wv (ntq T N h).1 0) (ntq T N h).2 20 (m0 + 1) 0 0 = cF (Wv (ntq T N h).1 0) (ntq T N h).2 20 (m0 + 1) 0 := cXF hq.1 _
  have es : ∀ d, d < 20 → cXE (Wv (ntq T N h).1 (d + 1)) (ntq T N h).2 20 (m0 + 1) 0 0 = cF (Wv (ntq T N h).1 (d + 1)) (ntq T N h).2 20 (m0 + 1) 0 := fun d hd => cXF (or_lt20 hq.1 (p2_lt20 hd)) _
  obtain ⟨a1, a2, a3, A, a4, a5, a6⟩ := r2
  exact ⟨a1.trans (congrArg nI e0), fun d hd => (a2 d hd).trans (congrArg nI (es d hd)), fun d hd => by
    have := a3 d hd
    dsimp only at this
    rw [e0, es d hd] at this
    exact this, A, a4, a5, fun d hd => by
    have := a6 d hd
    dsimp only at this
    rw [e0, es d hd] at this
    exact this⟩
