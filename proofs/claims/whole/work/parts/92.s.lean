/-! ===== sets: what was noted ===== -/
def nt1 (q : Nat × Nat) (d s : Nat) : Nat × Nat := if s = 1 then (q.1 ||| 2 ^ d, q.2) else (q.1, q.2 ||| 2 ^ d)
def ntB (T : Tw) (h : Nat) : Nat → Nat → Nat × Nat → Nat × Nat
  | 0, _, q => q
  | m + 1, i, q => ntB T h m (i + 1) (if T 4 i / 2 % 8 = h then nt1 q (T 4 i / 16 % 20) (T 4 i % 2) else q)
def ntS (N : Tw) (h : Nat) : Nat → Nat → Nat × Nat → Nat × Nat
  | 0, _, q => q
  | m + 1, i, q => ntS N h m (i + 1) (if N 1 i = h then nt1 q (N 2 i) (N 3 i) else q)
def q20 (q : Nat × Nat) : Prop := q.1 < 1048576 ∧ q.2 < 1048576
theorem nt1_20 {q : Nat × Nat} {d s : Nat} (hq : q20 q) (hd : d < 20) : q20 (nt1 q d s) := by
  unfold nt1
  by_cases e : s = 1
  · rw [if_pos e]; exact ⟨or_lt20 hq.1 (p2_lt20 hd), hq.2⟩
  · rw [if_neg e]; exact ⟨hq.1, or_lt20 hq.2 (p2_lt20 hd)⟩
def C2 (S : mS) (q : Nat × Nat) : Prop := S.1 369 1 = nI q.1 ∧ S.1 369 2 = nI q.2
def R2 (S : mS) (q : Nat × Nat) : Prop := S.1 375 25 = nI q.1 ∧ S.1 375 26 = nI q.2
def F9 (S S' : mS) : Prop := ∀ u k, u ≠ 369 → S'.1 u k = S.1 u k
def FR (S S' : mS) : Prop := ∀ u k, u ≠ 385 → (u ≠ 375 ∨ k < 25) → S'.1 u k = S.1 u k
theorem F9.rfl' (S : mS) : F9 S S := fun _ _ _ => rfl
theorem FR.rfl' (S : mS) : FR S S := fun _ _ _ _ => rfl
theorem F9.trans {S S1 S2 : mS} (a : F9 S S1) (b : F9 S1 S2) : F9 S S2 := fun u k h => (b u k h).trans (a u k h)
theorem FR.trans {S S1 S2 : mS} (a : FR S S1) (b : FR S1 S2) : FR S S2 := fun u k h g => (b u k h g).trans (a u k h g)
theorem nI_neq {a b : Nat} (h : ¬ a = b) (ha : a < 2 ^ 31) (hb : b < 2 ^ 31) : ¬ nI a = nI b := fun e => h (by
  simp (disch := omega) only [nI_eq] at e
  exact e)
section
variable {F : Nat}
theorem x2_note {S : mS} {q : Nat × Nat} (hC : C2 S q) {d s : Nat} (hd : d < 20) (hs : s < 2) : ∃ S', f_X2_note F S 369 (nI d) (nI s) = some S' ∧ C2 S' (nt1 q d s) ∧ F9 S S' := by
  obtain ⟨c1, c2⟩ := hC
  rw [u_X2_note, i_shl (by omega), c1, c2, fa_or, fa_or]
  rcases (show s = 0 ∨ s = 1 by omega) with rfl | rfl
  · exact ⟨sI S 369 2 (nI (q.2 ||| 2 ^ d)), by rw [if_pos rfl]; rfl, ⟨by rw [sq_off (by omega)]; exact c1, sq_hit _ _ _ _⟩, fun u k h => sq_u h⟩
  · exact ⟨sI S 369 1 (nI (q.1 ||| 2 ^ d)), by rw [if_neg (by decide)]; rfl, ⟨sq_hit _ _ _ _, by rw [sq_off (by omega)]; exact c2⟩, fun u k h => sq_u h⟩
theorem x9_note {S : mS} {q : Nat × Nat} (hC : R2 S q) {d s : Nat} (hd : d < 20) (hs : s < 2) : ∃ S', f_X9_note F S 375 (nI d) (nI s) = some S' ∧ R2 S' (nt1 q d s) ∧ FR S S' := by
  obtain ⟨c1, c2⟩ := hC
  rw [u_X9_note, i_shl (by omega), c1, c2, fa_or, fa_or]
  rcases (show s = 0 ∨ s = 1 by omega) with rfl | rfl
  · exact ⟨sI S 375 26 (nI (q.2 ||| 2 ^ d)), by rw [if_neg (by decide)]; rfl, ⟨by rw [sq_off (by omega)]; exact c1, sq_hit _ _ _ _⟩, fun u k h g => sq_off (by omega)⟩
  · exact ⟨sI S 375 25 (nI (q.1 ||| 2 ^ d)), by rw [if_pos rfl]; rfl, ⟨sq_hit _ _ _ _, by rw [sq_off (by omega)]; exact c2⟩, fun u k h g => sq_off (by omega)⟩
theorem bI_d {n : Nat} (hn : n < 2) : bI (decide (n = 1)) = nI n := by
  rcases (show n = 0 ∨ n = 1 by omega) with rfl | rfl <;> rfl
theorem x2_l13 {T : Tw} (hW : Wf T) {K : mS → Int32 → Option mS} {h : Nat} {a : Int32} (hh : h < 8) (m : Nat) : ∀ (i k : Nat) {S : mS} {q : Nat × Nat}, i + m = T 0 4 → m < k → CT S 41 T → C2 S q → q20 q → ∃ S', lX2_lookAt_13 F K 369 40 (nI h) a k S (nI i) = K S' (nI 0) ∧ C2 S' (ntB T h m i q) ∧ q20 (ntB T h m i q) ∧ F9 S S' := by
  have w4 := hW.2.2.2.2.1
  induction m with
  | zero =>
    intro i k S q hi hk hC hq hb
    obtain ⟨k, rfl⟩ : ∃ k', k = k' + 1 := ⟨k - 1, by omega⟩
    have c4 : S.1 (40 + 1) 4 = nI (T 0 4) := hC.2.2.2.2.1
    exact ⟨S, by rw [u_X2_lookAt_13, c4, if_pos (nI_le (by omega) (by omega))], hq, hb, F9.rfl' S⟩
  | succ m ih =>
    intro i k S q hi hk hC hq hb
    obtain ⟨k, rfl⟩ : ∃ k', k = k' + 1 := ⟨k - 1, by omega⟩
    have c4 : S.1 (40 + 1) 4 = nI (T 0 4) := hC.2.2.2.2.1
    have hi' : i < T 0 4 := by omega
    have b := hW.2.2.2.2.2.2 i hi'
    by_cases e : T 4 i / 2 % 8 = h
    · obtain ⟨S1, u1, c1, f1⟩ := x2_note (F := F) hq (d := T 4 i / 16 % 20) (s := T 4 i % 2) (by omega) (by omega)
      obtain ⟨S2, u2, c2, g2, f2⟩ := ih (i + 1) k (by omega) (by omega) (hC.fr (fun u k a b => f1 u k (by omega))) c1 (nt1_20 hb (by omega))
      refine ⟨S2, ?_, by show C2 S2 (ntB T h m (i + 1) _); rw [if_pos e]; exact c2, by show q20 (ntB T h m (i + 1) _); rw [if_pos e]; exact g2, f1.trans f2⟩
      rw [u_X2_lookAt_13, c4, if_neg (nI_ge hi' (by omega)), x6_houseK hC hW hi', bd_s, if_pos (congrArg nI e), x6_dayK hC hW hi', bd_s, x6_wasShut hC hW hi', bd_s, bI_d (by omega), nI_rem (by omega) (by omega) (by omega), u1, bd_s, nI_add, u2]
    · obtain ⟨S2, u2, c2, g2, f2⟩ := ih (i + 1) k (by omega) (by omega) hC hq hb
      refine ⟨S2, ?_, by show C2 S2 (ntB T h m (i + 1) _); rw [if_neg e]; exact c2, by show q20 (ntB T h m (i + 1) _); rw [if_neg e]; exact g2, f2⟩
      rw [u_X2_lookAt_13, c4, if_neg (nI_ge hi' (by omega)), x6_houseK hC hW hi', bd_s, if_neg (nI_neq e (by omega) (by omega)), nI_add, u2]
theorem x9_l12 {T : Tw} (hW : Wf T) {K : mS → Int32 → Option mS} {h : Nat} {a : Int32} (hh : h < 8) (m : Nat) : ∀ (i k : Nat) {S : mS} {q : Nat × Nat}, i + m = T 0 4 → m < k → RT S 376 T → R2 S q → q20 q → ∃ S', lX9_laySets_12 F K 375 (nI h) a k S (nI i) = K S' (nI 0) ∧ R2 S' (ntB T h m i q) ∧ FR S S' := by
  have w4 := hW.2.2.2.2.1
  induction m with
  | zero =>
    intro i k S q hi hk hC hq hb
    obtain ⟨k, rfl⟩ : ∃ k', k = k' + 1 := ⟨k - 1, by omega⟩
    have c4 : S.1 376 10 = nI (T 0 4) := hC.2.2.2.1
    exact ⟨S, by rw [u_X9_laySets_12, inb_n (n := 10) (by omega) (by omega), ck_t, nI_clamp (n := 10) (by omega), c4, if_pos (nI_le (by omega) (by omega))], hq, FR.rfl' S⟩
  | succ m ih =>
    intro i k S q hi hk hC hq hb
    obtain ⟨k, rfl⟩ : ∃ k', k = k' + 1 := ⟨k - 1, by omega⟩
    have c4 : S.1 376 10 = nI (T 0 4) := hC.2.2.2.1
    have hi' : i < T 0 4 := by omega
    have b := hW.2.2.2.2.2.2 i hi'
    by_cases e : T 4 i / 2 % 8 = h
    · obtain ⟨S1, u1, c1, f1⟩ := x9_note (F := F) hq (d := T 4 i / 16 % 20) (s := T 4 i % 2) (by omega) (by omega)
      obtain ⟨S2, u2, c2, f2⟩ := ih (i + 1) k (by omega) (by omega) (hC.fr (fun k => f1 _ _ (by decide) (Or.inl (by decide)))) c1 (nt1_20 hb (by omega))
      refine ⟨S2, ?_, by show R2 S2 (ntB T h m (i + 1) _); rw [if_pos e]; exact c2, f1.trans f2⟩
      rw [u_X9_laySets_12, inb_n (n := 10) (by omega) (by omega), ck_t, nI_clamp (n := 10) (by omega), c4, if_neg (nI_ge hi' (by omega)), x9_entry1 hC hW hi', bd_s, if_pos (congrArg nI e), x9_entry0 hC hW hi', bd_s, x9_entry2 hC hW hi', bd_s, nI_rem (by omega) (by omega) (by omega), u1, bd_s, nI_add, u2]
    · obtain ⟨S2, u2, c2, f2⟩ := ih (i + 1) k (by omega) (by omega) hC hq hb
      refine ⟨S2, ?_, by show R2 S2 (ntB T h m (i + 1) _); rw [if_neg e]; exact c2, f2⟩
      rw [u_X9_laySets_12, inb_n (n := 10) (by omega) (by omega), ck_t, nI_clamp (n := 10) (by omega), c4, if_neg (nI_ge hi' (by omega)), x9_entry1 hC hW hi', bd_s, if_neg (nI_neq e (by omega) (by omega)), nI_add, u2]
/-- seen, on the class's side -/
def SC (S : mS) (N : Tw) : Prop := S.1 40 9 = nI (N 0 3) ∧ (∀ k, k < N 0 3 → S.1 47 k = nI (N 1 k) ∧ S.1 48 k = nI (N 2 k) ∧ S.1 49 k = nI (N 3 k)) ∧ N 0 3 ≤ 8 ∧ ∀ k, k < N 0 3 → N 1 k < 7 ∧ N 2 k < 20 ∧ N 3 k < 2
def SR (S : mS) (N : Tw) : Prop := S.1 376 4 = nI (N 0 3) ∧ (∀ k, k < N 0 3 → S.1 376 (68 + 3 * k) = nI (N 1 k) ∧ S.1 376 (68 + 3 * k + 1) = nI (N 2 k) ∧ S.1 376 (68 + 3 * k + 2) = nI (N 3 k)) ∧ N 0 3 ≤ 8 ∧ ∀ k, k < N 0 3 → N 1 k < 7 ∧ N 2 k < 20 ∧ N 3 k < 2
theorem SC.fr {S S' : mS} {N : Tw} (h : SC S N) (f : F9 S S') : SC S' N := ⟨(f _ _ (by decide)).trans h.1, fun k hk => ⟨(f _ _ (by decide)).trans (h.2.1 k hk).1, (f _ _ (by decide)).trans (h.2.1 k hk).2.1, (f _ _ (by decide)).trans (h.2.1 k hk).2.2⟩, h.2.2⟩
theorem SR.fr {S S' : mS} {N : Tw} (h : SR S N) (f : FR S S') : SR S' N := ⟨(f _ _ (by decide) (Or.inl (by decide))).trans h.1, fun k hk => ⟨(f _ _ (by decide) (Or.inl (by decide))).trans (h.2.1 k hk).1, (f _ _ (by decide) (Or.inl (by decide))).trans (h.2.1 k hk).2.1, (f _ _ (by decide) (Or.inl (by decide))).trans (h.2.1 k hk).2.2⟩, h.2.2⟩
/-- what the class does behind both -/
def x2fin (S : mS) (a : Int32) : Option mS := stp (sI S 369 3 ((nI 20) - (f_J6_bitCount_0f7a4 S ((S.1 369 1) ||| (S.1 369 2))))) fun S1 => stp (sI S1 369 4 (a - (f_J6_bitCount_0f7a4 S1 (S1.1 369 1)))) fun S2 => if ((S2.1 369 1) &&& (S2.1 369 2)) = (nI 0) then (stp (sI S2 369 0 (f_X2_choices S2 (S2.1 369 3) (S2.1 369 4))) fun S3 => some S3) else (stp (sI S2 369 0 (nI 0)) fun S4 => some S4)
theorem x2_l72 {N : Tw} {h : Nat} {a : Int32} (hh : h < 8) (m : Nat) : ∀ (i k : Nat) {S : mS} {q : Nat × Nat}, i + m = N 0 3 → m < k → SC S N → C2 S q → q20 q → ∃ S', lX2_lookAt_72 F 369 40 (nI h) a k S (nI i) = x2fin S' a ∧ C2 S' (ntS N h m i q) ∧ q20 (ntS N h m i q) ∧ F9 S S' := by
  induction m with
  | zero =>
    intro i k S q hi hk hC hq hb
    obtain ⟨k, rfl⟩ : ∃ k', k = k' + 1 := ⟨k - 1, by omega⟩
    have w := hC.2.2.1
    exact ⟨S, by rw [u_X2_lookAt_72, hC.1, if_pos (nI_le (by omega) (by omega))]; rfl, hq, hb, F9.rfl' S⟩
  | succ m ih =>
    intro i k S q hi hk hC hq hb
    obtain ⟨k, rfl⟩ : ∃ k', k = k' + 1 := ⟨k - 1, by omega⟩
    have w := hC.2.2.1
    have hi' : i < N 0 3 := by omega
    obtain ⟨b1, b2, b3⟩ := hC.2.2.2 i hi'
    obtain ⟨s1, s2, s3⟩ := hC.2.1 i hi'
    by_cases e : N 1 i = h
    · obtain ⟨S1, u1, c1, f1⟩ := x2_note (F := F) hq (d := N 2 i) (s := N 3 i) (by omega) (by omega)
      obtain ⟨S2, u2, c2, g2, f2⟩ := ih (i + 1) k (by omega) (by omega) (hC.fr f1) c1 (nt1_20 hb (by omega))
      refine ⟨S2, ?_, by show C2 S2 (ntS N h m (i + 1) _); rw [if_pos e]; exact c2, by show q20 (ntS N h m (i + 1) _); rw [if_pos e]; exact g2, f1.trans f2⟩
      rw [u_X2_lookAt_72, hC.1, if_neg (nI_ge hi' (by omega)), inb_n (n := i) (by omega) (by omega), ck_t, ck_t, ck_t, nI_clamp (n := i) (by omega), show S.1 (40 + 7) i = nI (N 1 i) from s1, show S.1 (40 + 8) i = nI (N 2 i) from s2, show S.1 (40 + 9) i = nI (N 3 i) from s3, if_pos (congrArg nI e), nI_add]
      rcases (show N 3 i = 0 ∨ N 3 i = 1 by omega) with z | z
      · rw [z] at u1 ⊢
        rw [if_neg (by decide), u1, bd_s, u2]
      · rw [z] at u1 ⊢
        rw [if_pos rfl, u1, bd_s, u2]
    · obtain ⟨S2, u2, c2, g2, f2⟩ := ih (i + 1) k (by omega) (by omega) hC hq hb
      refine ⟨S2, ?_, by show C2 S2 (ntS N h m (i + 1) _); rw [if_neg e]; exact c2, by show q20 (ntS N h m (i + 1) _); rw [if_neg e]; exact g2, f2⟩
      rw [u_X2_lookAt_72, hC.1, if_neg (nI_ge hi' (by omega)), inb_n (n := i) (by omega) (by omega), ck_t, nI_clamp (n := i) (by omega), show S.1 (40 + 7) i = nI (N 1 i) from s1, if_neg (nI_neq e (by omega) (by omega)), nI_add, u2]
theorem x9_l60 {N : Tw} {K : mS → Int32 → Option mS} {h : Nat} {a : Int32} (hh : h < 8) (m : Nat) : ∀ (i k : Nat) {S : mS} {q : Nat × Nat}, i + m = N 0 3 → m < k → SR S N → R2 S q → q20 q → ∃ S', lX9_laySets_60 F K 375 (nI h) a k S (nI i) = K (sI (sI S' 375 27 (nI 0)) 375 28 (nI 1048575)) (nI 0) ∧ R2 S' (ntS N h m i q) ∧ FR S S' := by
  induction m with
  | zero =>
    intro i k S q hi hk hC hq hb
    obtain ⟨k, rfl⟩ : ∃ k', k = k' + 1 := ⟨k - 1, by omega⟩
    have w := hC.2.2.1
    exact ⟨S, by rw [u_X9_laySets_60, inb_n (n := 4) (by omega) (by omega), ck_t, nI_clamp (n := 4) (by omega), hC.1, if_pos (nI_le (by omega) (by omega))]; rfl, hq, FR.rfl' S⟩
  | succ m ih =>
    intro i k S q hi hk hC hq hb
    obtain ⟨k, rfl⟩ : ∃ k', k = k' + 1 := ⟨k - 1, by omega⟩
    have w := hC.2.2.1
    have hi' : i < N 0 3 := by omega
    obtain ⟨b1, b2, b3⟩ := hC.2.2.2 i hi'
    obtain ⟨s1, s2, s3⟩ := hC.2.1 i hi'
    by_cases e : N 1 i = h
    · obtain ⟨S1, u1, c1, f1⟩ := x9_note (F := F) hq (d := N 2 i) (s := N 3 i) (by omega) (by omega)
      obtain ⟨S2, u2, c2, f2⟩ := ih (i + 1) k (by omega) (by omega) (hC.fr f1) c1 (nt1_20 hb (by omega))
      refine ⟨S2, ?_, by show R2 S2 (ntS N h m (i + 1) _); rw [if_pos e]; exact c2, f1.trans f2⟩
      rw [u_X9_laySets_60]
      simp (disch := omega) only [hC.1, s1, s2, s3, ck_t, bd_s, ↓stp_s, inb_n, nI_clamp, nI_add, pk_mul, pk_div, pk_sub, nrem, nI_leI, nI_ltI, nI_eq, n_m1, m1_n, m1_lt, n_lt_m1, n_le_m1, m1_le, m1_e1, m2_n, if_true, if_false, if_pos, if_neg, e]
      rw [u1]; exact u2
    · obtain ⟨S2, u2, c2, f2⟩ := ih (i + 1) k (by omega) (by omega) hC hq hb
      refine ⟨S2, ?_, by show R2 S2 (ntS N h m (i + 1) _); rw [if_neg e]; exact c2, f2⟩
      rw [u_X9_laySets_60]
      simp (disch := omega) only [hC.1, s1, s2, s3, ck_t, bd_s, ↓stp_s, inb_n, nI_clamp, nI_add, pk_mul, pk_div, pk_sub, nrem, nI_leI, nI_ltI, nI_eq, n_m1, m1_n, m1_lt, n_lt_m1, n_le_m1, m1_le, m1_e1, m2_n, if_true, if_false, if_pos, if_neg, e]
      exact u2
end
