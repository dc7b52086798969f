/-! ===== weddings ===== -/
section
variable {F : Nat} {T : Tw}
theorem x9_pF (hF : 40 < F) (hW : Wf T) (r : Nat) : ∀ (h : Nat) {S : mS} {M : Nat → Int32} {b : Int32 × (Nat → Int32)}, h + r = T 0 0 → RT S 376 T → Q9 S M b.2 → V9 (T 0 0) h M → ∃ L S', L ≤ 8 ^ r ∧ (∀ k, lX9_wed_32 F 375 (k + L) S b.1 (nI 1) = scn F k (F + h - T 0 0) h S' (pF T r h M (sm (shF T M) (T 0 0)) b).1) ∧ Q9 S' M (pF T r h M (sm (shF T M) (T 0 0)) b).2 ∧ F8 S S' := by
  have w0 := hW.1
  induction r with
  | zero =>
    intro h S M b hh hR hQ hV
    obtain ⟨S1, u1, p1, f1⟩ := x9_leaf hF hR hW hQ hV
    refine ⟨1, S1, Nat.le_refl 1, fun k => ?_, p1, f1⟩
    rw [u1 k, show F + h - T 0 0 = F by omega, show h = T 0 0 by omega]
    rfl
  | succ r ih =>
    intro h S M b hh hR hQ hV
    have hh' : h < T 0 0 := by omega
    have ge : F + (h + 1) - T 0 0 = (F + h - T 0 0) + 1 := by omega
    have x8 : 8 ^ (r + 1) = 8 ^ r * 8 := Nat.pow_succ 8 r
    obtain ⟨L1, S1, l1, u1, p1, f1⟩ := ih (h + 1) (by omega) hR hQ hV.up
    rw [ge] at u1
    have hR1 : RT S1 376 T := hR.fr (fun k => f1 _ _ (by decide) (by decide))
    have pe : pF T (r + 1) h M (sm (shF T M) (T 0 0)) b = if M h = -1 then if (T 0 1).testBit h = true then pF T r (h + 1) M (sm (shF T M) (T 0 0)) b else pL T (pF T r (h + 1)) h M (sm (shF T M) (T 0 0)) r (h + 1) (pF T r (h + 1) M (sm (shF T M) (T 0 0)) b) else pF T r (h + 1) M (sm (shF T M) (T 0 0)) b := rfl
    have lo : ((T 0 1).testBit h = true ∨ ∃ i, i < h ∧ S1.1 388 h = nI i) → pF T (r + 1) h M (sm (shF T M) (T 0 0)) b = pF T r (h + 1) M (sm (shF T M) (T 0 0)) b → ∃ L S', L ≤ 8 ^ (r + 1) ∧ (∀ k, lX9_wed_32 F 375 (k + L) S b.1 (nI 1) = scn F k (F + h - T 0 0) h S' (pF T (r + 1) h M (sm (shF T M) (T 0 0)) b).1) ∧ Q9 S' M (pF T (r + 1) h M (sm (shF T M) (T 0 0)) b).2 ∧ F8 S S' := fun e1 e2 => by
      rw [e2]
      exact ⟨L1, S1, by omega, fun k => (u1 k).trans (scn_lo hW hR1 hh' e1), p1, f1⟩
    by_cases l : (T 0 1).testBit h = true
    · exact lo (Or.inl l) (by rw [pe, if_pos l, ite_self])
    · have l' : (T 0 1).testBit h = false := by cases y : (T 0 1).testBit h; rfl; exact absurd y l
      rcases (hV h hh').2 (Nat.le_refl h) with mh | ⟨i, hi, mh⟩
      · have f2 : F8 S1 (sI S1 388 h (-1)) := fun u k c d => sq_u c
        obtain ⟨L2, S2, l2, u2, p2, f3⟩ := x9_tl (g := F + h - T 0 0) (X := 8 ^ r) hF hW hh' l' hV mh (rec := pF T r (h + 1)) (fun hR hQ hV => by
          obtain ⟨L, S', a, b, c⟩ := ih (h + 1) (by omega) hR hQ hV
          rw [ge] at b
          exact ⟨L, S', a, b, c⟩) r (h + 1) F (nI h) (-1) (S := sI S1 388 h (-1)) (b := pF T r (h + 1) M (sm (shF T M) (T 0 0)) b) (by omega) (by omega) (by omega) (hR1.fr (fun k => f2 _ _ (by decide) (by decide))) ⟨fun i hi => by
            by_cases c : i = h
            · subst c; rw [sq_hit, mh]
            · rw [sq_off (by omega)]; exact p1.1 i hi, fun i hi => by rw [sq_u (by decide)]; exact p1.2 i hi⟩
        have y : r * 8 ^ r ≤ 7 * 8 ^ r := Nat.mul_le_mul_right _ (by omega)
        rw [pe, if_pos mh, if_neg l]
        refine ⟨L2 + L1, S2, by omega, fun k => ?_, p2, (f1.trans f2).trans f3⟩
        rw [← Nat.add_assoc, u1, scn_un hW hR1 hh' l' ((p1.1 h (by omega)).trans mh), u2]
      · exact lo (Or.inr ⟨i, hi, (p1.1 h (by omega)).trans mh⟩) (by rw [pe, if_neg (by rw [mh, n_m1 (by omega)]; exact fun h => h)])
theorem x9_w2 (m : Nat) : ∀ (i k : Nat) {S : mS}, i + m = 7 → m < k → (∀ d, d < i → S.1 388 d = -1 ∧ S.1 389 d = -1) → ∃ S', (∀ K, lX9_wed_2 F K 375 k S (nI i) = K S' (-1) (nI 1)) ∧ Q9 S' (fun _ => -1) (fun _ => -1) ∧ F8 S S' := by
  induction m with
  | zero =>
    intro i k S hi hk h1
    obtain ⟨k, rfl⟩ : ∃ k', k = k' + 1 := ⟨k - 1, by omega⟩
    exact ⟨S, fun K => by rw [u_X9_wed_2, if_pos (nI_le (by omega) (by omega))], ⟨fun d hd => (h1 d (by omega)).1, fun d hd => (h1 d (by omega)).2⟩, F8.rfl' S⟩
  | succ m ih =>
    intro i k S hi hk h1
    obtain ⟨k, rfl⟩ : ∃ k', k = k' + 1 := ⟨k - 1, by omega⟩
    obtain ⟨S2, u2, p2, f2⟩ := ih (i + 1) k (S := sI (sI S 388 i (-1)) 389 i (-1)) (by omega) (by omega) (fun d hd => by
      by_cases e : d = i
      · subst e; exact ⟨by rw [sq_u (by decide), sq_hit], sq_hit _ _ _ _⟩
      · exact ⟨by rw [sq_u (by decide), sq_off (by omega)]; exact (h1 d (by omega)).1, by rw [sq_off (by omega), sq_u (by decide)]; exact (h1 d (by omega)).2⟩)
    refine ⟨S2, fun K => ?_, p2, F8.trans (fun u k a b => by rw [sq_u b, sq_u a]) f2⟩
    rw [u_X9_wed_2, if_neg (nI_ge (by omega) (by omega)), inb_n (n := i) (by omega) (by omega), ck_t, nI_clamp (n := i) (by omega), stp_s, ck_t, stp_s, nI_add, u2]
theorem sm_0 (n : Nat) (h7 : n ≤ 7) : sm (shF T (fun _ => -1)) n = 0 := by
  induction n with
  | zero => rfl
  | succ n ih =>
    show sm _ n + shF T (fun _ => -1) n = 0
    rw [ih (by omega)]
    unfold shF
    rw [if_pos ((by decide : ∀ i, i < 8 → (-1 : Int32) ≤ nI i) n (by omega))]
theorem x9_wed (hF : 4194304 ≤ F) (hW : Wf T) {S : mS} (hR : RT S 376 T) : ∃ S', f_X9_wed F S 375 = some (S', (wdB T).1) ∧ (∀ i, i < 7 → S'.1 389 i = (wdB T).2 i) ∧ F8 S S' := by
  have w0 := hW.1
  obtain ⟨S1, u1, p1, f1⟩ := x9_w2 (F := F) 7 0 F (S := S) (by omega) (by omega) (fun d hd => absurd hd (Nat.not_lt_zero d))
  obtain ⟨L, S2, l2, u2, p2, f2⟩ := x9_pF (F := F) (by omega) hW (T 0 0) 0 (S := S1) (M := fun _ => -1) (b := (-1, fun _ => -1)) (by omega) (hR.fr (fun k => f1 _ _ (by decide) (by decide))) p1 (fun i hi => ⟨Or.inl rfl, fun _ => Or.inl rfl⟩)
  have l3 : L ≤ 2097152 := Nat.le_trans l2 (Nat.le_trans (Nat.pow_le_pow_right (by decide) w0) (by decide))
  rw [sm_0 _ w0] at u2 p2
  have u3 := u2 (F - L)
  rw [show F - L + L = F by omega] at u3
  refine ⟨S2, ?_, p2.2, f1.trans f2⟩
  rw [u_X9_wed, u1]
  refine u3.trans ?_
  obtain ⟨k, hk⟩ : ∃ k, F - L = k + 1 := ⟨F - L - 1, by omega⟩
  obtain ⟨g, hg⟩ : ∃ g, F + 0 - T 0 0 = g + 1 := ⟨F + 0 - T 0 0 - 1, by omega⟩
  unfold scn
  rw [hk, hg, u_X9_nextRow_9, if_pos (by decide), bd_s, u_X9_wed_32, if_pos (show bI (S2, false).snd = nI 0 from rfl)]
  rfl
end
theorem cor_7 {S S1 : mS} (f : F7 S S1) : ∀ u k, cor u k → S1.1 u k = S.1 u k := fun u k c => f u k (by unfold cor at c; omega)
theorem cor_8 {S S1 : mS} (f : F8 S S1) : ∀ u k, cor u k → S1.1 u k = S.1 u k := fun u k c => f u k (by unfold cor at c; omega) (by unfold cor at c; omega)
theorem st_weddings : ∀ S, Inv S → ∀ a1, Step μX8_weddings μX9_weddings Inv S [.int a1] := by
  intro S hI a
  obtain ⟨T, P, N, hCW, hRW, hWV, hC, hR, hW⟩ := hI.t
  obtain ⟨F, hF⟩ := big_F
  have w0 := hW.1
  have w2 := hW.2.2.1
  have w4 := hW.2.2.2.2.1
  have c5 : S.1 41 5 = nI (T 0 0) := hC.1
  have c7 : S.1 41 7 = nI (T 0 2) := hC.2.2.1
  have cs : ∀ h, h < T 0 0 → S.1 42 h = nI (T 1 h) := hC.2.2.2.2.2.1
  have r0 : S.1 376 0 = nI (T 0 0) := hR.1
  have r8 : S.1 376 8 = nI (T 0 2) := hR.2.1
  obtain ⟨S1, u1, v1, v2, f1⟩ := x0_choose (F := F) (by omega) hW hC
  have hR1 : RT S1 376 T := hR.fr (fun k => f1 _ _ (by omega))
  obtain ⟨S2, u2, v3, f2⟩ := x9_wed hF hW hR1
  by_cases e : a = -1
  · have e1 : f_X8_weddings F S 0 a = some (S1, (wdB T).1) := by rw [u_X8_weddings, if_pos e, u_X8_weddings_22, u1, bd_s, if_pos e, v1]
    have e2 : f_X9_weddings F S1 375 a = some (S2, (wdB T).1) := by rw [u_X9_weddings, if_pos e, u_X9_weddings_16, u2, bd_s, if_pos e]
    exact stepS (S1 := S1) (S2 := S2) (r := (wdB T).1) hI (c_X8_weddings k_0 e1) (c_X9_weddings k_375 e2) (cor_7 f1) (cor_8 f2) (by decide) (by decide)
  rcases tld_c a (n := T 0 0) (by omega) with z | ⟨h, hh, rfl, z⟩
  · have e1 : f_X8_weddings F S 0 a = some (S, -2) := by rw [u_X8_weddings, if_neg e, x6_told hC hW, z]; rfl
    have e2 : f_X9_weddings F S 375 a = some (S, -2) := by rw [u_X9_weddings, if_neg e, x9_isHouse hR hW, z]; rfl
    exact stepR hI (c_X8_weddings k_0 e1) (c_X9_weddings k_375 e2) (by decide) (by decide)
  · have e1 : f_X8_weddings F S 0 (nI h) = some (S1, (wdB T).2 h) := by rw [u_X8_weddings, if_neg e, x6_told hC hW, z, if_pos rfl, u_X8_weddings_22, u1, bd_s, if_neg e, inb_n (n := h) (by omega) (by omega), ck_t, nI_clamp (n := h) (by omega), v2 h (by omega)]
    have e2 : f_X9_weddings F S1 375 (nI h) = some (S2, (wdB T).2 h) := by rw [u_X9_weddings, if_neg e, x9_isHouse hR1 hW, z, bd_s, if_pos rfl, u_X9_weddings_16, u2, bd_s, if_neg e, inb_n (n := h) (by omega) (by omega), ck_t, nI_clamp (n := h) (by omega), v3 h (by omega)]
    exact stepS (S1 := S1) (S2 := S2) (r := (wdB T).2 h) hI (c_X8_weddings k_0 e1) (c_X9_weddings k_375 e2) (cor_7 f1) (cor_8 f2) (by decide) (by decide)
