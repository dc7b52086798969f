/-! ===== nextKnock ===== -/
def ofH (c w : Nat) : Nat := if 2 * w ≤ c then c - 2 * w else 2 * w - c
theorem iabs_of {c w : Nat} (hc : c < 2000) (hw : w < 2000) : iabs (nI 2 * nI w - nI c) = nI (ofH c w) := by
  have e : nI 2 * nI w - nI c = iZ ((2 * w : Nat) - (c : Nat) : Int) := by
    rw [pk_mul, iZ_n (n := 2 * w) (by omega), iZ_n (n := c) (by omega)]
    unfold iZ
    exact (Int32.ofInt_sub _ _).symm
  rw [e, iabs_z (by unfold inR; omega)]
  unfold ofH
  split <;> exact congrArg nI (by omega)
def nkS (f : Nat → Nat) (c : Nat) : Nat → Nat → Int32 → Int32
  | 0, _, v => v
  | m + 1, i, v => nkS f c m (i + 1) (if f i = 0 then v else if f i = c then v else if v = -1 then nI i else if ofH c (f v.toNatClampNeg) ≤ ofH c (f i) then v else nI i)
section
variable {F : Nat}
theorem ofH_bd {c w : Nat} (hc : c < 2000) (hw : w < 2000) : ofH c w < 5000 := by
  unfold ofH
  split <;> omega
theorem x8_nk {S : mS} {f : Nat → Nat} {c : Nat} {a1 a2 : Int32} (hc : c < 2000) (hf : ∀ d, d < 20 → f d ≤ c) (h0 : S.1 369 0 = nI c) (hw : ∀ d, d < 20 → f_X2_countWith S 369 (nI d) = nI (f d)) (m : Nat) : ∀ (i k : Nat) {v : Int32}, i + m = 20 → m < k → (v = -1 ∨ ∃ b, b < 20 ∧ v = nI b) → lX8_nextKnock_29 F 0 a1 a2 k S v (nI i) = some (S, nkS f c m i v) := by
  induction m with
  | zero =>
    intro i k v hi hk hv
    obtain ⟨k, rfl⟩ : ∃ k', k = k' + 1 := ⟨k - 1, by omega⟩
    rw [u_X8_nextKnock_29, if_pos (nI_le (by omega) (by omega))]; rfl
  | succ m ih =>
    intro i k v hi hk hv
    obtain ⟨k, rfl⟩ : ∃ k', k = k' + 1 := ⟨k - 1, by omega⟩
    have hi' : i < 20 := by omega
    have fi := hf i hi'
    rw [u_X8_nextKnock_29, if_neg (nI_ge (by omega) (by omega)), hw i hi', h0, nI_add]
    show _ = some (S, nkS f c m (i + 1) _)
    by_cases z : f i = 0
    · rw [if_pos (nI_le (by omega) (by omega)), if_pos z]; exact ih (i + 1) k (by omega) (by omega) hv
    · rw [if_neg (nI_ge (by omega) (by omega)), if_neg z]
      by_cases y : f i = c
      · rw [if_pos (nI_le (by omega) (by omega)), if_pos y]; exact ih (i + 1) k (by omega) (by omega) hv
      · rw [if_neg (nI_ge (by omega) (by omega)), if_neg y]
        rcases hv with rfl | ⟨b, hb, rfl⟩
        · rw [if_pos rfl, if_pos rfl]
          exact ih (i + 1) k (by omega) (by omega) (Or.inr ⟨i, hi', rfl⟩)
        · have nm : ¬ nI b = -1 := by rw [n_m1 (by omega)]; exact fun h => h
          have fb := hf b hb
          have o1 := ofH_bd hc (show f b < 2000 by omega)
          have o2 := ofH_bd hc (show f i < 2000 by omega)
          rw [if_neg nm, if_neg nm, u_X2_offHalf, u_X2_offHalf, hw i hi', hw b hb, h0, iabs_of hc (by omega), iabs_of hc (by omega), nI_clamp (n := b) (by omega)]
          by_cases x : ofH c (f b) ≤ ofH c (f i)
          · rw [if_pos (nI_le x (by omega)), if_pos x]; exact ih (i + 1) k (by omega) (by omega) (Or.inr ⟨b, hb, rfl⟩)
          · rw [if_neg (nI_ge (by omega) (by omega)), if_neg x]; exact ih (i + 1) k (by omega) (by omega) (Or.inr ⟨i, hi', rfl⟩)
theorem x9_nk {S : mS} {f : Nat → Nat} {c : Nat} {a1 a2 : Int32} (hc : c < 2000) (hf : ∀ d, d < 20 → f d ≤ c) (h0 : S.1 375 27 = nI c) (hw : ∀ d, d < 20 → S.1 385 d = nI (f d)) (m : Nat) : ∀ (i k : Nat) {v w : Int32}, i + m = 20 → m < k → ((v = -1 ∧ w = nI 1000000000) ∨ ∃ b, b < 20 ∧ v = nI b ∧ w = nI (ofH c (f b))) → lX9_nextKnock_35 F 375 a1 a2 k S v w (nI i) = some (S, nkS f c m i v) := by
  induction m with
  | zero =>
    intro i k v w hi hk hv
    obtain ⟨k, rfl⟩ : ∃ k', k = k' + 1 := ⟨k - 1, by omega⟩
    rw [u_X9_nextKnock_35, if_pos (nI_le (by omega) (by omega))]; rfl
  | succ m ih =>
    intro i k v w hi hk hv
    obtain ⟨k, rfl⟩ : ∃ k', k = k' + 1 := ⟨k - 1, by omega⟩
    have hi' : i < 20 := by omega
    have fi := hf i hi'
    have o2 := ofH_bd hc (show f i < 2000 by omega)
    have e : lX9_nextKnock_35 F 375 a1 a2 (k + 1) S v w (nI i) = lX9_nextKnock_89 F (fun (S : mS) (v3 : Int32) (v4 : Int32) (v5 : Int32) => lX9_nextKnock_35 F 375 a1 a2 k S v3 v4 v5) 375 a1 a2 S v w (nI i) (nI (ofH c (f i))) := by
      rw [u_X9_nextKnock_35, if_neg (nI_ge (by omega) (by omega)), inb_n (n := i) (by omega) (by omega), ck_t, ck_t, ck_t, nI_clamp (n := i) (by omega), hw i hi', h0, pk_mul]
      unfold ofH
      by_cases h : 2 * f i ≤ c
      · rw [if_pos h, if_pos (nI_le h (by omega)), pk_sub h]
      · rw [if_neg h, if_neg (nI_ge (by omega) (by omega)), pk_sub (by omega)]
    rw [e, u_X9_nextKnock_89, inb_n (n := i) (by omega) (by omega), ck_t, ck_t, nI_clamp (n := i) (by omega), hw i hi', h0, nI_add]
    show _ = some (S, nkS f c m (i + 1) _)
    by_cases z : f i = 0
    · rw [z, if_pos rfl, if_pos rfl]; exact ih (i + 1) k (by omega) (by omega) hv
    · rw [if_neg (nI_neq z (by omega) (by omega)), if_neg z]
      by_cases y : f i = c
      · rw [if_pos (congrArg nI y), if_pos y]; exact ih (i + 1) k (by omega) (by omega) hv
      · rw [if_neg (nI_neq y (by omega) (by omega)), if_neg y]
        rcases hv with ⟨rfl, rfl⟩ | ⟨b, hb, rfl, rfl⟩
        · rw [if_pos rfl, if_pos (nI_lt (by omega) (by omega))]
          exact ih (i + 1) k (by omega) (by omega) (Or.inr ⟨i, hi', rfl, rfl⟩)
        · have nm : ¬ nI b = -1 := by rw [n_m1 (by omega)]; exact fun h => h
          have fb := hf b hb
          have o1 := ofH_bd hc (show f b < 2000 by omega)
          rw [if_neg nm, nI_clamp (n := b) (by omega)]
          by_cases x : ofH c (f b) ≤ ofH c (f i)
          · rw [if_neg (nI_nlt x (by omega)), if_pos x]; exact ih (i + 1) k (by omega) (by omega) (Or.inr ⟨b, hb, rfl, rfl⟩)
          · rw [if_pos (nI_lt (by omega) (by omega)), if_neg x]; exact ih (i + 1) k (by omega) (by omega) (Or.inr ⟨i, hi', rfl, rfl⟩)
end
theorem st_nextKnock : ∀ S, Inv S → ∀ a1 a2, Step μX8_nextKnock μX9_nextKnock Inv S [.int a1, .int a2] := by
  intro S hI a b
  obtain ⟨T, P, N, hCW, hRW, hWV, hC, hR, hW⟩ := hI.t
  obtain ⟨F, hF⟩ := big_F
  have w0 := hW.1
  have w2 := hW.2.2.1
  have w4 := hW.2.2.2.2.1
  have c5 : S.1 41 5 = nI (T 0 0) := hC.1
  have c7 : S.1 41 7 = nI (T 0 2) := hC.2.2.1
  have cs : ∀ h, h < T 0 0 → S.1 42 h = nI (T 1 h) := hC.2.2.2.2.2.1
  have r0 : S.1 376 0 = nI (T 0 0) := hR.1
  have r8 : S.1 376 8 = nI (T 0 2) := hR.2.1
  rcases tld_c a (n := T 0 0) (by omega) with z | ⟨h, hh, rfl, z⟩
  · have e1 : f_X8_nextKnock F S 0 a b = some (S, -1) := by rw [u_X8_nextKnock, u_X8_isGuess, x6_told hC hW, z]; rfl
    have e2 : f_X9_nextKnock F S 375 a b = some (S, -1) := by rw [u_X9_nextKnock, x9_isHouse hR hW, z]; rfl
    exact stepR hI (c_X8_nextKnock k_0 e1) (c_X9_nextKnock k_375 e2) (by decide) (by decide)
  rcases win_c (S := S) b 1 3 (by omega) (by omega) with y | ⟨m, h1, h2, rfl, y⟩
  · have e1 : f_X8_nextKnock F S 0 (nI h) b = some (S, -1) := by rw [u_X8_nextKnock, u_X8_isGuess, x6_told hC hW, z, y]; rfl
    have e2 : f_X9_nextKnock F S 375 (nI h) b = some (S, -1) := by rw [u_X9_nextKnock, x9_isHouse hR hW, z, bd_s, if_pos rfl, x9_isIn, y]; rfl
    exact stepR hI (c_X8_nextKnock k_0 e1) (c_X9_nextKnock k_375 e2) (by decide) (by decide)
  obtain ⟨m0, rfl⟩ : ∃ m0, m = m0 + 1 := ⟨m - 1, by omega⟩
  obtain ⟨S1, S2, q, hq, u1, g1, f1, u2, ⟨r1, r2, r3, A, r4, r5, r6⟩, f2⟩ := both_g (F := F) (by omega) hCW hRW hWV (h := h) (m0 := m0) (by omega) (by omega)
  have b0 := cF_bd (O := q.2) (m := m0 + 1) hq.1 (by omega)
  have y1 : f_X8_isWithin S1 (nI (m0 + 1)) (nI 1) (nI 3) = true := y
  have hR1 : RT S1 376 T := hR.fr (fun k => f1 _ _ (by decide))
  have e1 : f_X8_nextKnock F S 0 (nI h) (nI (m0 + 1)) = some (S1, nkS (fun d => cF (q.1 ||| 2 ^ d) q.2 20 (m0 + 1) 0) (cF q.1 q.2 20 (m0 + 1) 0) 20 0 (-1)) := by
    rw [u_X8_nextKnock, u_X8_isGuess, x6_told hC hW, z, y, if_pos rfl, if_pos rfl, if_pos rfl, u1, bd_s]
    exact x8_nk b0 r3 g1.2.1 (fun d hd => x2_cw g1 hq (by omega) hd) 20 0 F (by omega) (by omega) (Or.inl rfl)
  have e2 : f_X9_nextKnock F S1 375 (nI h) (nI (m0 + 1)) = some (S2, nkS (fun d => cF (q.1 ||| 2 ^ d) q.2 20 (m0 + 1) 0) (cF q.1 q.2 20 (m0 + 1) 0) 20 0 (-1)) := by
    rw [u_X9_nextKnock, x9_isHouse hR1 hW, z, bd_s, if_pos rfl, x9_isIn, y1, if_pos rfl, u2, bd_s]
    exact x9_nk b0 r3 r1 r2 20 0 F (by omega) (by omega) (Or.inl ⟨rfl, rfl⟩)
  exact stepS (S1 := S1) (S2 := S2) (r := nkS (fun d => cF (q.1 ||| 2 ^ d) q.2 20 (m0 + 1) 0) (cF q.1 q.2 20 (m0 + 1) 0) 20 0 (-1)) hI (c_X8_nextKnock k_0 e1) (c_X9_nextKnock k_375 e2) (cor_9 f1) (cor_R f2) (by decide) (by decide)
