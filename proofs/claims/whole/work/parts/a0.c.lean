/-! ===== the class reads a clause ===== -/
def XC (S : mS) (t : Nat) (E : Tw) (z : Nat) : Prop := S.1 t 5 = nI (E 0 0) ∧ S.1 t 1 = nI z ∧ (∀ c, c < E 0 0 → S.1 (t + 4) (4 * c) = nI (kdS (E 1 c)) ∧ (3 ≤ E 1 c → S.1 (t + 4) (4 * c + 1) = nI (E 2 c)) ∧ (E 1 c = 3 ∨ E 1 c = 5 ∨ E 1 c = 7 → S.1 (t + 4) (4 * c + 2) = nI (E 3 c)) ∧ (E 1 c = 3 → S.1 (t + 4) (4 * c + 3) = nI (E 4 c))) ∧ (∀ l, l < 3 → S.1 (t + 2) l = nI (E 6 l) ∧ S.1 (t + 3) l = nI (E 7 l)) ∧ ∀ p, p < z → S.1 (t + 1) p = nI (E 5 p)
def CK (S0 S : mS) (n : Nat) (κ vl ps : Nat → Nat) (i : Nat) (E : Tw) (z : Nat) : Prop := TK S n κ vl ps ∧ S.1 2 1 = nI 0 ∧ S.1 2 2 = -1 ∧ S.1 2 7 = nI i ∧ i ≤ n ∧ z ≤ i ∧ XC S 3 E z ∧ ∀ u k, ¬ (2 ≤ u ∧ u ≤ 7) → S.1 u k = S0.1 u k
def av (l : List Nat) (k : Nat) : Int32 := if k < l.length then nI (l.getD k 0) else -1
def apS (S : mS) (k : Nat) (a b c d : Int32) : mS := sI (sI (sI (sI (sI S 7 (4 * k) a) 7 (4 * k + 1) b) 7 (4 * k + 2) c) 7 (4 * k + 3) d) 3 5 (nI (k + 1))
section
variable {F n w0 i : Nat} {κ vl ps : Nat → Nat} {S0 S : mS} {f j : Nat}
theorem x5_apc {k : Nat} (h : S.1 3 5 = nI k) (hk : k < 24) (a b c d : Int32) : f_X5_appendClause F S 3 a b c d = some (apS S k a b c d) := by
  rw [u_X5_appendClause, h, if_neg (nI_ge hk (by omega)), pk_mul, Nat.mul_comm k 4, nI_add, nI_add, nI_add, inb_n (by omega) (by omega), ck_t, stp_s, inb_n (by omega) (by omega), ck_t, stp_s, inb_n (by omega) (by omega), ck_t, stp_s, inb_n (by omega) (by omega), ck_t, stp_s, stp_s, nI_clamp (by omega), nI_clamp (by omega), nI_clamp (by omega), nI_clamp (by omega), sq_u (by decide), sq_u (by decide), sq_u (by decide), sq_u (by decide), h, nI_add]
  rfl
theorem apS_o {k u m : Nat} {a b c d : Int32} (h : ¬ (u = 3 ∧ m = 5)) (h2 : ¬ (u = 7 ∧ 4 * k ≤ m ∧ m ≤ 4 * k + 3)) : (apS S k a b c d).1 u m = S.1 u m := by
  unfold apS
  rw [sq_off (by omega), sq_off (by omega), sq_off (by omega), sq_off (by omega), sq_off (by omega)]
theorem apS_5 {k : Nat} {a b c d : Int32} : (apS S k a b c d).1 3 5 = nI (k + 1) := sq_hit _ _ _ _
theorem apS_r {k : Nat} {a b c d : Int32} : (apS S k a b c d).1 7 (4 * k) = a ∧ (apS S k a b c d).1 7 (4 * k + 1) = b ∧ (apS S k a b c d).1 7 (4 * k + 2) = c ∧ (apS S k a b c d).1 7 (4 * k + 3) = d := by
  unfold apS
  refine ⟨?_, ?_, ?_, ?_⟩
  · rw [sq_off (by omega), sq_off (by omega), sq_off (by omega), sq_off (by omega), sq_hit]
  · rw [sq_off (by omega), sq_off (by omega), sq_off (by omega), sq_hit]
  · rw [sq_off (by omega), sq_off (by omega), sq_hit]
  · rw [sq_off (by omega), sq_hit]
theorem d4_apc (h : DQ S0 S ps f j) (a b c d : Int32) : ∃ S', f_X5_appendClause F S 3 a b c d = some S' ∧ DQ S0 S' ps f j := by
  obtain ⟨h1, h2, h3, ⟨z, z1, z2⟩, ⟨k, k1, k2⟩, h5⟩ := id h
  by_cases q : k = 24
  · refine ⟨S, ?_, h⟩
    rw [u_X5_appendClause, k2, if_pos (nI_le (by omega) (by omega))]
  · refine ⟨_, x5_apc k2 (by omega) a b c d, ?_, h2, ?_, ⟨z, z1, ?_⟩, ⟨k + 1, by omega, apS_5⟩, fun u m y => ?_⟩
    · rw [apS_o (by omega) (by omega)]; exact h1
    · rw [apS_o (by omega) (by omega)]; exact h3
    · rw [apS_o (by omega) (by omega)]; exact z2
    · rw [apS_o (by omega) (by omega)]; exact h5 u m y
theorem DQ.up {S1 : mS} (h : DQ S1 S ps f j) (e : ∀ u k, ¬ (2 ≤ u ∧ u ≤ 7) → S1.1 u k = S0.1 u k) : DQ S0 S ps f j := ⟨h.1, h.2.1, h.2.2.1, h.2.2.2.1, h.2.2.2.2.1, fun u k y => (h.2.2.2.2.2 u k y).trans (e u k y)⟩
/-- a deed, live or behind a fault -/
def WD (S0 S : mS) (n w0 : Nat) (ps : Nat → Nat) (r : tR) : Prop := (r.1 = 0 → CQ S0 S n w0 r.2.1 []) ∧ (r.1 ≠ 0 → DQ S0 S ps r.1 r.2.1)
theorem w_num (hT : TK S0 n κ vl ps) (hk : ∃ k, k ≤ 24 ∧ S0.1 3 5 = nI k) {r : tR} (h : WD S0 S n w0 ps r) {lo hi : Nat} (hl : lo < 20000) (hh : hi < 20000) : ∃ S' v, f_X4_expectNumber F S 2 (nI lo) (nI hi) = some (S', v) ∧ WD S0 S' n w0 ps (tB r (tNm κ vl lo hi)) ∧ ((tB r (tNm κ vl lo hi)).1 = 0 → v = nI (vl r.2.1)) := by
  by_cases e : r.1 = 0
  · rw [tB_0 e]
    unfold tNm
    rcases x4_num (F := F) hT hk (h.1 e) hl hh with ⟨a, b, c, S1, x, y⟩ | ⟨a, b, S1, v, x, y⟩ | ⟨a, S1, v, x, y⟩
    · rw [if_pos a, if_pos ⟨b, c⟩]
      exact ⟨S1, _, x, ⟨fun _ => y, fun z => absurd rfl z⟩, fun _ => rfl⟩
    · rw [if_pos a, if_neg b]
      exact ⟨S1, v, x, ⟨fun z => absurd z (by show ¬ 2 = 0; omega), fun _ => y⟩, fun z => absurd z (by show ¬ 2 = 0; omega)⟩
    · rw [if_neg a]
      exact ⟨S1, v, x, ⟨fun z => absurd z (by show ¬ 1 = 0; omega), fun _ => y⟩, fun z => absurd z (by show ¬ 1 = 0; omega)⟩
  · rw [tB_n e]
    exact ⟨S, -1, d4_num (h.2 e) _ _, h, fun z => absurd z e⟩
theorem w_exp (hT : TK S0 n κ vl ps) (hk : ∃ k, k ≤ 24 ∧ S0.1 3 5 = nI k) {r : tR} (h : WD S0 S n w0 ps r) {a : Nat} (ha : 1 < a ∧ a < 100) : ∃ S', f_X4_expect F S 2 (nI a) = some S' ∧ WD S0 S' n w0 ps (tB r (tEx κ a)) := by
  by_cases e : r.1 = 0
  · rw [tB_0 e]
    obtain ⟨S1, x, y1, y2⟩ := x4_expect (F := F) hT hk (h.1 e) (a := a) (by omega)
    refine ⟨S1, x, ?_⟩
    unfold tEx at y1 y2 ⊢
    split
    · rename_i q
      rw [if_pos q] at y1
      exact ⟨y1, fun z => absurd rfl z⟩
    · rename_i q
      rw [if_neg q] at y2
      exact ⟨fun z => absurd z (by show ¬ 1 = 0; omega), y2⟩
  · rw [tB_n e]
    exact ⟨S, d4_expect (h.2 e) ha, h⟩
theorem w_apc {r : tR} (h : WD S0 S n w0 ps r) {k v0 v1 v2 v3 : Int32} (hs : r.1 = 0 → v1 = av r.2.2 0 ∧ v2 = av r.2.2 1 ∧ v3 = av r.2.2 2) (E : v0 = k) : (r.1 = 0 → ∃ S1, CQ S0 S1 n w0 r.2.1 [] ∧ f_X5_appendClause F S 3 v0 v1 v2 v3 = f_X5_appendClause F S1 3 k (av r.2.2 0) (av r.2.2 1) (av r.2.2 2)) ∧ (r.1 ≠ 0 → ∃ S', f_X5_appendClause F S 3 v0 v1 v2 v3 = some S' ∧ DQ S0 S' ps r.1 r.2.1) := by
  refine ⟨fun e => ⟨S, h.1 e, ?_⟩, fun e => d4_apc (h.2 e) _ _ _ _⟩
  obtain ⟨a, b, c⟩ := hs e
  rw [E, a, b, c]
theorem WD_0 (h : CQ S0 S n w0 i []) : WD S0 S n w0 ps (0, i, []) := ⟨fun _ => h, fun z => absurd rfl z⟩
theorem tB_i {i : Nat} {c : List Nat} {k : Nat → List Nat → tR} : tB (0, i, c) k = k i c := tB_0 rfl
theorem x4_deed (hT : TK S0 n κ vl ps) (hk : ∃ k, k ≤ 24 ∧ S0.1 3 5 = nI k) (h : CQ S0 S n w0 i []) {s : Nat} (hs : 3 ≤ s ∧ s < 9) : ((tDd κ vl s i).1 = 0 → ∃ S1, CQ S0 S1 n w0 (tDd κ vl s i).2.1 [] ∧ f_X4_readDeed F S 2 (nI (kdS s)) = f_X5_appendClause F S1 3 (nI (kdS s)) (av (tDd κ vl s i).2.2 0) (av (tDd κ vl s i).2.2 1) (av (tDd κ vl s i).2.2 2)) ∧ ((tDd κ vl s i).1 ≠ 0 → ∃ S', f_X4_readDeed F S 2 (nI (kdS s)) = some S' ∧ DQ S0 S' ps (tDd κ vl s i).1 (tDd κ vl s i).2.1) := by
  have w := WD_0 (ps := ps) h
  have two : ∀ (hi1 wd : Nat), hi1 < 20000 → 1 < wd ∧ wd < 100 → ∀ a1 : Int32, ((tB (tB (tNm κ vl 0 hi1 i []) (tEx κ wd)) (tNm κ vl 0 6)).1 = 0 → ∃ S1, CQ S0 S1 n w0 (tB (tB (tNm κ vl 0 hi1 i []) (tEx κ wd)) (tNm κ vl 0 6)).2.1 [] ∧ (bd (f_X4_expectNumber F S 2 (nI 0) (nI hi1)) fun q1 => lX4_readDeed_116 F 2 a1 q1.1 q1.2 (-1) (nI wd)) = f_X5_appendClause F S1 3 a1 (av (tB (tB (tNm κ vl 0 hi1 i []) (tEx κ wd)) (tNm κ vl 0 6)).2.2 0) (av (tB (tB (tNm κ vl 0 hi1 i []) (tEx κ wd)) (tNm κ vl 0 6)).2.2 1) (av (tB (tB (tNm κ vl 0 hi1 i []) (tEx κ wd)) (tNm κ vl 0 6)).2.2 2)) ∧ ((tB (tB (tNm κ vl 0 hi1 i []) (tEx κ wd)) (tNm κ vl 0 6)).1 ≠ 0 → ∃ S', (bd (f_X4_expectNumber F S 2 (nI 0) (nI hi1)) fun q1 => lX4_readDeed_116 F 2 a1 q1.1 q1.2 (-1) (nI wd)) = some S' ∧ DQ S0 S' ps (tB (tB (tNm κ vl 0 hi1 i []) (tEx κ wd)) (tNm κ vl 0 6)).1 (tB (tB (tNm κ vl 0 hi1 i []) (tEx κ wd)) (tNm κ vl 0 6)).2.1) := by
    intro hi1 wd hh1 hwd a1
    obtain ⟨S1, v1, x1, y1, z1⟩ := w_num (F := F) hT hk w (lo := 0) (hi := hi1) (by omega) hh1
    rw [tB_i] at y1 z1
    obtain ⟨S2, x2, y2⟩ := w_exp (F := F) hT hk y1 hwd
    obtain ⟨S3, v3, x3, y3, z3⟩ := w_num (F := F) hT hk y2 (lo := 0) (hi := 6) (by omega) (by omega)
    rw [x1, bd_s, u_X4_readDeed_116, x2, bd_s, x3, bd_s, bd_id]
    refine w_apc y3 (fun e => ?_) rfl
    obtain ⟨e1, e2⟩ := tB_z e
    obtain ⟨e3, e4⟩ := tB_z e1
    have q1 := z1 e3
    have q3 := z3 e
    rw [tB_0 e1, (tNm_0 e2).2.2, tB_0 e3, (tEx_0 e4).2, (tNm_0 e3).2.2]
    rw [tB_0 e3, (tEx_0 e4).2, (tNm_0 e3).2.2] at q3
    exact ⟨q1, q3, rfl⟩
  have one : ∀ (lo hi1 : Nat), lo < 20000 → hi1 < 20000 → ∀ a1 : Int32, ((tNm κ vl lo hi1 i []).1 = 0 → ∃ S1, CQ S0 S1 n w0 (tNm κ vl lo hi1 i []).2.1 [] ∧ (bd (f_X4_expectNumber F S 2 (nI lo) (nI hi1)) fun q9 => bd (f_X5_appendClause F q9.1 3 a1 q9.2 (-1) (-1)) fun q10 => some q10) = f_X5_appendClause F S1 3 a1 (av (tNm κ vl lo hi1 i []).2.2 0) (av (tNm κ vl lo hi1 i []).2.2 1) (av (tNm κ vl lo hi1 i []).2.2 2)) ∧ ((tNm κ vl lo hi1 i []).1 ≠ 0 → ∃ S', (bd (f_X4_expectNumber F S 2 (nI lo) (nI hi1)) fun q9 => bd (f_X5_appendClause F q9.1 3 a1 q9.2 (-1) (-1)) fun q10 => some q10) = some S' ∧ DQ S0 S' ps (tNm κ vl lo hi1 i []).1 (tNm κ vl lo hi1 i []).2.1) := by
    intro lo hi1 hl1 hh1 a1
    obtain ⟨S1, v1, x1, y1, z1⟩ := w_num (F := F) hT hk w (lo := lo) (hi := hi1) hl1 hh1
    rw [tB_i] at y1 z1
    rw [x1, bd_s, bd_id]
    refine w_apc y1 (fun e => ?_) rfl
    have q1 := z1 e
    rw [(tNm_0 e).2.2]
    exact ⟨q1, rfl, rfl⟩
  rw [u_X4_readDeed]
  unfold tDd
  have hcase : s = 3 ∨ s = 4 ∨ s = 5 ∨ s = 6 ∨ s = 7 ∨ s = 8 := by omega
  rcases hcase with rfl | rfl | rfl | rfl | rfl | rfl
  · rw [if_pos rfl, if_neg (show ¬ nI (kdS 3) = nI 16 by decide), if_pos (show nI (kdS 3) = nI 18 by decide)]
    obtain ⟨S1, v1, x1, y1, z1⟩ := w_num (F := F) hT hk w (lo := 0) (hi := 19) (by omega) (by omega)
    rw [tB_i] at y1 z1
    obtain ⟨S2, x2, y2⟩ := w_exp (F := F) hT hk y1 (a := 19) (by omega)
    obtain ⟨S3, v3, x3, y3, z3⟩ := w_num (F := F) hT hk y2 (lo := 0) (hi := 9999) (by omega) (by omega)
    obtain ⟨S4, x4, y4⟩ := w_exp (F := F) hT hk y3 (a := 20) (by omega)
    obtain ⟨S5, v5, x5, y5, z5⟩ := w_num (F := F) hT hk y4 (lo := 0) (hi := 99) (by omega) (by omega)
    rw [x1, bd_s, x2, bd_s, x3, bd_s, x4, bd_s, x5, bd_s, bd_id]
    refine w_apc y5 (fun e => ?_) rfl
    obtain ⟨a1, a2⟩ := tB_z e
    obtain ⟨b1, b2⟩ := tB_z a1
    obtain ⟨c1, c2⟩ := tB_z b1
    obtain ⟨d1, d2⟩ := tB_z c1
    have q1 := z1 d1
    have q3 := z3 b1
    have q5 := z5 e
    rw [tB_0 d1, (tEx_0 d2).2, (tNm_0 d1).2.2] at q3
    rw [tB_0 b1, (tEx_0 b2).2, tB_0 c1, (tNm_0 c2).2.2, tB_0 d1, (tEx_0 d2).2, (tNm_0 d1).2.2] at q5
    rw [tB_0 a1, (tNm_0 a2).2.2, tB_0 b1, (tEx_0 b2).2, tB_0 c1, (tNm_0 c2).2.2, tB_0 d1, (tEx_0 d2).2, (tNm_0 d1).2.2]
    exact ⟨q1, q3, q5⟩
  · rw [if_neg (by decide), if_neg (by decide), if_neg (by decide), if_neg (by decide), if_neg (show ¬ nI (kdS 4) = nI 16 by decide), if_neg (show ¬ nI (kdS 4) = nI 18 by decide), if_neg (show ¬ nI (kdS 4) = nI 30 by decide), u_X4_readDeed_86]
    simp only [if_neg (show ¬ nI (kdS 4) = nI 28 by decide), if_neg (show ¬ nI (kdS 4) = nI 30 by decide)]
    exact one 0 6 (by omega) (by omega) _
  · rw [if_neg (by decide), if_pos rfl, if_neg (show ¬ nI (kdS 5) = nI 16 by decide), if_neg (show ¬ nI (kdS 5) = nI 18 by decide), if_neg (show ¬ nI (kdS 5) = nI 30 by decide), u_X4_readDeed_86]
    have := two 6 31 (by omega) (by omega) (nI (kdS 5))
    simp only [u_X4_readDeed_102, if_pos (show nI (kdS 5) = nI 28 by decide)]
    exact this
  · rw [if_neg (by decide), if_neg (by decide), if_neg (by decide), if_neg (by decide), if_neg (show ¬ nI (kdS 6) = nI 16 by decide), if_neg (show ¬ nI (kdS 6) = nI 18 by decide), if_neg (show ¬ nI (kdS 6) = nI 30 by decide), u_X4_readDeed_86]
    simp only [if_neg (show ¬ nI (kdS 6) = nI 28 by decide), if_neg (show ¬ nI (kdS 6) = nI 30 by decide)]
    exact one 0 6 (by omega) (by omega) _
  · rw [if_neg (by decide), if_neg (by decide), if_pos rfl, if_neg (show ¬ nI (kdS 7) = nI 16 by decide), if_neg (show ¬ nI (kdS 7) = nI 18 by decide), if_pos (show nI (kdS 7) = nI 30 by decide), u_X4_readDeed_86]
    have := two 19 32 (by omega) (by omega) (nI (kdS 7))
    simp only [u_X4_readDeed_102, if_neg (show ¬ nI (kdS 7) = nI 28 by decide), if_pos (show nI (kdS 7) = nI 30 by decide)]
    exact this
  · rw [if_neg (by decide), if_neg (by decide), if_neg (by decide), if_pos rfl, if_pos (show nI (kdS 8) = nI 16 by decide)]
    exact one 1 60 (by omega) (by omega) _
end
section
variable {F n i z : Nat} {κ vl ps : Nat → Nat} {S0 S : mS} {E : Tw}
theorem CK.cq (h : CK S0 S n κ vl ps i E z) : CQ S S n z i [] := ⟨h.2.1, h.2.2.2.1, h.2.2.2.2.2.2.1.2.1, fun k hk => absurd hk (Nat.not_lt_zero _), h.2.2.2.2.2.1, h.2.2.2.2.1, fun _ _ _ _ _ => rfl⟩
theorem TK.fr {S' : mS} (h : TK S n κ vl ps) (e : S'.1 2 6 = S.1 2 6) (e8 : ∀ k, S'.1 8 k = S.1 8 k) (e9 : ∀ k, S'.1 9 k = S.1 9 k) (e10 : ∀ k, S'.1 10 k = S.1 10 k) : TK S' n κ vl ps := ⟨h.1, e.trans h.2.1, fun j hj => by rw [e8, e9]; exact h.2.2.1 j hj, fun j hj hk => by rw [e10]; exact h.2.2.2.1 j hj hk, h.2.2.2.2⟩
/-- may a clause begin so -/
theorem x4_cst (hP : XP E z) (h : CK S0 S n κ vl ps i E z) : (tSf E (srtK (κ i)) = 0 → f_X4_canStart F S 2 (nI (κ i)) = some (S, true)) ∧ (tSf E (srtK (κ i)) ≠ 0 → ∃ S', f_X4_canStart F S 2 (nI (κ i)) = some (S', false) ∧ DQ S S' ps (tSf E (srtK (κ i))) i) := by
  have hT := h.1
  have kb := hT.b i
  have hX := h.2.2.2.2.2.2.1
  have e24 := hP.1
  have hk : ∃ k, k ≤ 24 ∧ S.1 3 5 = nI k := ⟨_, e24, hX.1⟩
  have bad : ∀ f, 0 < f ∧ f ≤ 6 → ∃ S', (bd (f_X4_fail F S 2 (nI f)) fun q1 => if (q1.1 2 1) = (nI 0) then (some (q1, true)) else (some (q1, false))) = some (S', false) ∧ DQ S S' ps f i := fun f hf => by
    obtain ⟨S1, x, y⟩ := x4_fail (F := F) hT hk h.cq hf
    exact ⟨S1, by rw [x, bd_s, if_neg y.nz], y⟩
  have c64 : (E 0 0 = 24 → ∃ S', lX4_canStart_64 F 2 (nI (κ i)) S = some (S', false) ∧ DQ S S' ps 6 i) ∧ (E 0 0 ≠ 24 → lX4_canStart_64 F 2 (nI (κ i)) S = some (S, true)) := by
    rw [u_X4_canStart_64, hX.1]
    constructor
    · intro e
      rw [if_neg (nI_nlt (by omega) (by omega))]
      exact bad 6 (by omega)
    · intro e
      rw [if_pos (nI_lt (by omega) (by omega)), h.2.1, if_pos rfl]
  have il : f_X4_isLaw S (nI (κ i)) = decide (24 ≤ κ i ∧ κ i ≤ 26) := by rw [u_X4_isLaw, win_n (by omega) (by omega) (by omega)]
  rw [u_X4_canStart, il, win_n (by omega) (by omega) (by omega), ifn (by omega) (by omega), ifn (by omega) (by omega), u_X4_canStart_38, il]
  rcases srt_kd (κ i) kb with y | ⟨y1, y2⟩
  · have nk : ¬ (24 ≤ κ i ∧ κ i ≤ 26) ∧ ¬ (27 ≤ κ i ∧ κ i ≤ 30) ∧ κ i ≠ 18 ∧ κ i ≠ 16 := by
      refine ⟨fun q => ?_, fun q => ?_, fun q => ?_, fun q => ?_⟩
      · exact absurd y ((by decide : ∀ k, k < 38 → 24 ≤ k ∧ k ≤ 26 → ¬ srtK k = 9) _ kb q)
      · exact absurd y ((by decide : ∀ k, k < 38 → 27 ≤ k ∧ k ≤ 30 → ¬ srtK k = 9) _ kb q)
      · rw [q] at y; exact absurd y (by decide)
      · rw [q] at y; exact absurd y (by decide)
    have ef : tSf E (srtK (κ i)) = 1 := if_pos y
    rw [ef, decide_eq_false nk.1, if_neg Bool.false_ne_true, decide_eq_false nk.2.1, if_neg Bool.false_ne_true, if_neg nk.2.2.1, if_neg nk.2.2.2]
    exact ⟨fun q => absurd q (by omega), fun _ => bad 1 (by omega)⟩
  · by_cases s3 : srtK (κ i) < 3
    · have kl : 24 ≤ κ i ∧ κ i ≤ 26 ∧ srtK (κ i) = κ i - 24 := by
        have : kdS (srtK (κ i)) = 24 + srtK (κ i) := if_pos s3
        omega
      have hs : f_X5_has F S 3 (nI (κ i)) = some (decide (E 6 (srtK (κ i)) < E 7 (srtK (κ i)))) := by
        have a := hX.2.2.2.1 (srtK (κ i)) s3
        have b := hP.2.2.1 (srtK (κ i)) s3
        have zz := h.2.2.2.2.2.1
        have nn := h.2.2.2.2.1
        have n3 := hT.1
        rw [u_X5_has, pk_sub (by omega), ← kl.2.2, inb_n (by omega) (by omega), ck_t, ck_t, nI_clamp (by omega), a.1, a.2]
        by_cases q : E 6 (srtK (κ i)) < E 7 (srtK (κ i))
        · rw [if_neg (nI_ge q (by omega)), decide_eq_true q]
        · rw [if_pos (nI_le (by omega) (by omega)), decide_eq_false q]
      rw [decide_eq_true (show 24 ≤ κ i ∧ κ i ≤ 26 from ⟨kl.1, kl.2.1⟩), if_pos rfl, hs, bd_s]
      by_cases q : E 6 (srtK (κ i)) < E 7 (srtK (κ i))
      · have ef : tSf E (srtK (κ i)) = 4 := by
          unfold tSf
          rw [if_neg (by omega), if_pos ⟨s3, q⟩]
        rw [ef, decide_eq_true q, if_pos rfl]
        exact ⟨fun w => absurd w (by omega), fun _ => bad 4 (by omega)⟩
      · rw [decide_eq_false q, if_neg Bool.false_ne_true]
        by_cases e : E 0 0 = 24
        · have ef : tSf E (srtK (κ i)) = 6 := by
            unfold tSf
            rw [if_neg (by omega), if_neg (fun w => q w.2), if_pos e]
          rw [ef]
          exact ⟨fun w => absurd w (by omega), fun _ => c64.1 e⟩
        · have ef : tSf E (srtK (κ i)) = 0 := by
            unfold tSf
            rw [if_neg (by omega), if_neg (fun w => q w.2), if_neg e]
          rw [ef]
          exact ⟨fun _ => c64.2 e, fun w => absurd rfl w⟩
    · have nl : ¬ (24 ≤ κ i ∧ κ i ≤ 26) := fun q => s3 ((by decide : ∀ k, k < 38 → 24 ≤ k ∧ k ≤ 26 → srtK k < 3) _ kb q)
      have k4 : (27 ≤ κ i ∧ κ i ≤ 30) ∨ κ i = 18 ∨ κ i = 16 := (by decide : ∀ k, k < 38 → srtK k < 9 → ¬ srtK k < 3 → (27 ≤ k ∧ k ≤ 30) ∨ k = 18 ∨ k = 16) _ kb y1 s3
      have key : (tSf E (srtK (κ i)) = 0 → lX4_canStart_64 F 2 (nI (κ i)) S = some (S, true)) ∧ (tSf E (srtK (κ i)) ≠ 0 → ∃ S', lX4_canStart_64 F 2 (nI (κ i)) S = some (S', false) ∧ DQ S S' ps (tSf E (srtK (κ i))) i) := by
        by_cases e : E 0 0 = 24
        · have ef : tSf E (srtK (κ i)) = 6 := by
            unfold tSf
            rw [if_neg (by omega), if_neg (fun w => s3 w.1), if_pos e]
          rw [ef]
          exact ⟨fun w => absurd w (by omega), fun _ => c64.1 e⟩
        · have ef : tSf E (srtK (κ i)) = 0 := by
            unfold tSf
            rw [if_neg (by omega), if_neg (fun w => s3 w.1), if_neg e]
          rw [ef]
          exact ⟨fun _ => c64.2 e, fun w => absurd rfl w⟩
      rw [decide_eq_false nl, if_neg Bool.false_ne_true, if_neg Bool.false_ne_true]
      by_cases a : 27 ≤ κ i ∧ κ i ≤ 30
      · rw [decide_eq_true a, if_pos rfl]; exact key
      · rw [decide_eq_false a, if_neg Bool.false_ne_true]
        by_cases b : κ i = 18
        · rw [if_pos b]; exact key
        · rw [if_neg b, if_pos (by omega)]; exact key
end
