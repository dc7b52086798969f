/-! ===== sets: the reference counts one by one ===== -/
def Wv (W j : Nat) : Nat := if j = 0 then W else W ||| 2 ^ (j - 1)
theorem Wv_s (W d : Nat) : Wv W (d + 1) = W ||| 2 ^ d := rfl
theorem okS_v {W O s d : Nat} : okS (W ||| 2 ^ d) O s = (okS W O s && s.testBit d) := by
  rw [Bool.eq_iff_iff, Bool.and_eq_true, okS_t, okS_t]
  constructor
  · rintro ⟨h1, h2⟩
    refine ⟨⟨fun i hi => h1 i ?_, h2⟩, h1 d ?_⟩
    · rw [fb_bit_set, hi]; rfl
    · rw [fb_bit_set, decide_eq_true rfl, Bool.or_true]
  · rintro ⟨⟨h1, h2⟩, h3⟩
    refine ⟨fun i hi => ?_, h2⟩
    rw [fb_bit_set, Bool.or_eq_true, decide_eq_true_eq] at hi
    rcases hi with t | t
    · exact h1 i t
    · rw [t]; exact h3
def R3 (S : mS) (g : Nat → Nat) : Prop := S.1 375 27 = nI (g 0) ∧ (∀ d, d < 20 → S.1 385 d = nI (g (d + 1))) ∧ (∀ d, d < 20 → g (d + 1) ≤ g 0) ∧ ∃ A, A < 1048576 ∧ S.1 375 28 = nI A ∧ ∀ d, d < 20 → (A.testBit d = true ↔ g (d + 1) = g 0)
section
variable {F : Nat}
theorem x9_c43 {s : Nat} (hs : s < 1048576) (m : Nat) : ∀ (i k : Nat) {S : mS}, i + m = 20 → m < k → ∃ S', lX9_count_43 F 375 (nI s) k S (nI i) = some S' ∧ (∀ d, S'.1 385 d = if i ≤ d ∧ d < 20 then S.1 385 d + nI (if s.testBit d then 1 else 0) else S.1 385 d) ∧ ∀ u k, u ≠ 385 → S'.1 u k = S.1 u k := by
  induction m with
  | zero =>
    intro i k S hi hk
    obtain ⟨k, rfl⟩ : ∃ k', k = k' + 1 := ⟨k - 1, by omega⟩
    exact ⟨S, by rw [u_X9_count_43, if_pos (nI_le (by omega) (by omega))], fun d => by rw [if_neg (by omega)], fun _ _ _ => rfl⟩
  | succ m ih =>
    intro i k S hi hk
    obtain ⟨k, rfl⟩ : ∃ k', k = k' + 1 := ⟨k - 1, by omega⟩
    obtain ⟨S2, u2, c2, f2⟩ := ih (i + 1) k (S := sI S 385 i (S.1 385 i + nI (if s.testBit i then 1 else 0))) (by omega) (by omega)
    refine ⟨S2, ?_, fun d => ?_, fun u k h => (f2 u k h).trans (sq_u h)⟩
    · rw [u_X9_count_43, if_neg (nI_ge (by omega) (by omega)), inb_n (n := i) (by omega) (by omega), ck_t, ck_t, nI_clamp (n := i) (by omega), i_bit (by omega) (by omega), stp_s, nI_add, u2]
    · rw [c2]
      by_cases e : d = i
      · subst e; rw [if_neg (show ¬ (d + 1 ≤ d ∧ d < 20) by omega), if_pos (show d ≤ d ∧ d < 20 by omega), sq_hit]
      · rw [sq_off (by omega)]
        by_cases z : i ≤ d ∧ d < 20
        · rw [if_pos (by omega), if_pos z]
        · rw [if_neg (by omega), if_neg z]
theorem x9_count (hF : 40 < F) {S : mS} {q : Nat × Nat} {g : Nat → Nat} {s : Nat} (h2 : R2 S q) (h3 : R3 S g) (hq : q20 q) (hs : s < 1048576) : ∃ S', f_X9_count F S 375 (nI s) = some S' ∧ R2 S' q ∧ R3 S' (fun j => g j + if okS (Wv q.1 j) q.2 s = true then 1 else 0) ∧ FR S S' := by
  have ok0 : okS (Wv q.1 0) q.2 s = okS q.1 q.2 s := rfl
  have oks : ∀ d, okS (Wv q.1 (d + 1)) q.2 s = (okS q.1 q.2 s && s.testBit d) := fun d => okS_v
  obtain ⟨a1, a2, a3, A, a4, a5, a6⟩ := h3
  by_cases ok : okS q.1 q.2 s = true
  · have ok' := ok
    unfold okS at ok'
    rw [Bool.and_eq_true, decide_eq_true_eq, decide_eq_true_eq] at ok'
    obtain ⟨S2, u2, c2, f2⟩ := x9_c43 (F := F) hs 20 0 F (S := sI (sI S 375 27 (nI (g 0 + 1))) 375 28 (nI (A &&& s))) (by omega) (by omega)
    refine ⟨S2, ?_, ⟨?_, ?_⟩, ⟨?_, fun d hd => ?_, fun d hd => ?_, A &&& s, Nat.lt_of_le_of_lt Nat.and_le_left a4, ?_, fun d hd => ?_⟩, fun u k h g => ?_⟩
    · rw [u_X9_count, h2.1, h2.2, i_dif, nx_and, ok'.1, ok'.2, if_pos rfl, if_pos rfl, a1, nI_add, stp_s, sq_off (by omega), a5, nx_and, stp_s, u2]
    · rw [f2 _ _ (by decide), sq_off (by omega), sq_off (by omega)]; exact h2.1
    · rw [f2 _ _ (by decide), sq_off (by omega), sq_off (by omega)]; exact h2.2
    · show _ = nI (g 0 + if okS (Wv q.1 0) q.2 s = true then 1 else 0)
      rw [f2 _ _ (by decide), sq_off (by omega), sq_hit, ok0, if_pos ok]
    · show _ = nI (g (d + 1) + if okS (Wv q.1 (d + 1)) q.2 s = true then 1 else 0)
      rw [c2, if_pos (by omega), sq_off (by omega), sq_off (by omega), a2 d hd, nI_add, oks, ok, Bool.true_and]
    · show g (d + 1) + (if okS (Wv q.1 (d + 1)) q.2 s = true then 1 else 0) ≤ g 0 + (if okS (Wv q.1 0) q.2 s = true then 1 else 0)
      rw [ok0, if_pos ok]
      have := a3 d hd
      split <;> omega
    · rw [f2 _ _ (by decide), sq_hit]
    · show _ ↔ g (d + 1) + (if okS (Wv q.1 (d + 1)) q.2 s = true then 1 else 0) = g 0 + (if okS (Wv q.1 0) q.2 s = true then 1 else 0)
      rw [ok0, if_pos ok, oks, ok, Bool.true_and, Nat.testBit_and, Bool.and_eq_true, a6 d hd]
      have := a3 d hd
      by_cases z : s.testBit d = true
      · rw [if_pos z]; exact ⟨fun h => by omega, fun h => ⟨by omega, z⟩⟩
      · rw [if_neg z]; exact ⟨fun h => absurd h.2 z, fun h => by omega⟩
    · rw [f2 _ _ h, sq_off (by omega), sq_off (by omega)]
  · refine ⟨S, ?_, h2, ?_, FR.rfl' S⟩
    · rw [u_X9_count, h2.1, h2.2, i_dif, nx_and]
      by_cases e : q.1 ^^^ (q.1 &&& s) = 0
      · by_cases e2 : q.2 &&& s = 0
        · exact absurd (by unfold okS; rw [Bool.and_eq_true, decide_eq_true_eq, decide_eq_true_eq]; exact ⟨e, e2⟩) ok
        · rw [e, if_pos rfl, if_neg (nI_neq e2 (Nat.lt_of_le_of_lt Nat.and_le_right (by omega)) (by omega))]
      · rw [if_neg (nI_neq e (Nat.lt_of_le_of_lt (dif_le _ _) (Nat.lt_trans hq.1 (by decide))) (by omega))]
    · have e : (fun j => g j + if okS (Wv q.1 j) q.2 s = true then 1 else 0) = g := funext (fun j => by
        cases j with
        | zero => show g 0 + (if okS (Wv q.1 0) q.2 s = true then 1 else 0) = g 0; rw [ok0, if_neg ok, Nat.add_zero]
        | succ d => show g (d + 1) + (if okS (Wv q.1 (d + 1)) q.2 s = true then 1 else 0) = g (d + 1); rw [oks, if_neg (by rw [Bool.and_eq_true]; exact fun h => ok h.1), Nat.add_zero])
      rw [e]
      exact ⟨a1, a2, a3, A, a4, a5, a6⟩
theorem cXE_0 {W O m P x : Nat} : cXE W O m 0 P x = if okS W O P = true then 1 else 0 := by cases m <;> rfl
theorem cXE_z {W O k P x : Nat} : cXE W O 0 (k + 1) P x = 0 := rfl
theorem cXE_s {W O m k P x : Nat} : cXE W O (m + 1) (k + 1) P x = cXE W O m k (P ||| 2 ^ x) (x + 1) + cXE W O m (k + 1) P (x + 1) := rfl
theorem R3.to {S : mS} {g g' : Nat → Nat} (h : R3 S g) (e : ∀ j, g j = g' j) : R3 S g' := by rw [← funext e]; exact h
theorem x9_214n {K : mS → Int32 → Int32 → Option mS} {a1 : Int32} {m k : Nat} {S : mS} {v3 v4 v5 : Int32} (hm : m = 1 ∨ m = 2) (hk : 0 < k) : lX9_laySets_214 F K 375 a1 (nI m) k S v3 v4 v5 = K S v3 (v4 + nI 1) := by
  obtain ⟨k, rfl⟩ : ∃ k', k = k' + 1 := ⟨k - 1, by omega⟩
  rw [u_X9_laySets_214, if_neg (nI_neq (show ¬ m = 3 by omega) (by omega) (by omega)), ite_self]
theorem x9_l214 (hF : 40 < F) {K : mS → Int32 → Int32 → Option mS} {a1 : Int32} {q : Nat × Nat} (hq : q20 q) {a b : Nat} (ha : a < 20) (hb : b < 20) (m : Nat) : ∀ (i k : Nat) {S : mS} {g : Nat → Nat}, i + m = 20 → m < k → R2 S q → R3 S g → ∃ S', lX9_laySets_214 F K 375 a1 (nI 3) k S (nI a) (nI b) (nI i) = K S' (nI a) (nI (b + 1)) ∧ R2 S' q ∧ R3 S' (fun j => g j + cXE (Wv q.1 j) q.2 m 1 (2 ^ a ||| 2 ^ b) i) ∧ FR S S' := by
  induction m with
  | zero =>
    intro i k S g hi hk h2 h3
    obtain ⟨k, rfl⟩ : ∃ k', k = k' + 1 := ⟨k - 1, by omega⟩
    exact ⟨S, by rw [u_X9_laySets_214, if_pos (nI_le (by omega) (by omega)), nI_add], h2, h3.to (fun j => rfl), FR.rfl' S⟩
  | succ m ih =>
    intro i k S g hi hk h2 h3
    obtain ⟨k, rfl⟩ : ∃ k', k = k' + 1 := ⟨k - 1, by omega⟩
    obtain ⟨S1, u1, c1, d1, f1⟩ := x9_count hF h2 h3 hq (s := 2 ^ a ||| 2 ^ b ||| 2 ^ i) (or_lt20 (or_lt20 (p2_lt20 ha) (p2_lt20 hb)) (p2_lt20 (by omega)))
    obtain ⟨S2, u2, c2, d2, f2⟩ := ih (i + 1) k (by omega) (by omega) c1 d1
    refine ⟨S2, ?_, c2, d2.to (fun j => ?_), f1.trans f2⟩
    · rw [u_X9_laySets_214, if_neg (nI_ge (by omega) (by omega)), if_pos rfl, i_shl (by omega), i_shl (by omega), i_shl (by omega), fa_or, fa_or, u1, bd_s, nI_add (a := i), u2]
    · rw [cXE_s, cXE_0, Nat.add_assoc]
theorem x9_l179 (hF : 40 < F) {K : mS → Int32 → Option mS} {a1 : Int32} {q : Nat × Nat} (hq : q20 q) {a m0 : Nat} (ha : a < 20) (h0 : m0 = 1 ∨ m0 = 2) (m : Nat) : ∀ (i k : Nat) {S : mS} {g : Nat → Nat}, i + m = 20 → m < k → R2 S q → R3 S g → ∃ S', lX9_laySets_179 F K 375 a1 (nI (m0 + 1)) k S (nI a) (nI i) = K S' (nI (a + 1)) ∧ R2 S' q ∧ R3 S' (fun j => g j + cXE (Wv q.1 j) q.2 m m0 (2 ^ a) i) ∧ FR S S' := by
  induction m with
  | zero =>
    intro i k S g hi hk h2 h3
    obtain ⟨k, rfl⟩ : ∃ k', k = k' + 1 := ⟨k - 1, by omega⟩
    refine ⟨S, by rw [u_X9_laySets_179, if_pos (nI_le (by omega) (by omega)), nI_add], h2, h3.to (fun j => ?_), FR.rfl' S⟩
    rcases h0 with rfl | rfl <;> rfl
  | succ m ih =>
    intro i k S g hi hk h2 h3
    obtain ⟨k, rfl⟩ : ∃ k', k = k' + 1 := ⟨k - 1, by omega⟩
    rcases h0 with rfl | rfl
    · obtain ⟨S1, u1, c1, d1, f1⟩ := x9_count hF h2 h3 hq (s := 2 ^ a ||| 2 ^ i) (or_lt20 (p2_lt20 ha) (p2_lt20 (by omega)))
      obtain ⟨S2, u2, c2, d2, f2⟩ := ih (i + 1) k (by omega) (by omega) c1 d1
      refine ⟨S2, ?_, c2, d2.to (fun j => ?_), f1.trans f2⟩
      · rw [u_X9_laySets_179, if_neg (nI_ge (by omega) (by omega)), if_neg (by decide), if_pos rfl, i_shl (by omega), i_shl (by omega), fa_or, u1, bd_s, show nI (1 + 1) = nI 2 from rfl, x9_214n (Or.inr rfl) (by omega), nI_add (a := i)]
        exact u2
      · rw [cXE_s, cXE_0, Nat.add_assoc]
    · obtain ⟨S1, u1, c1, d1, f1⟩ := x9_l214 hF (K := fun (S : mS) (v3 : Int32) (v4 : Int32) => lX9_laySets_179 F K 375 a1 (nI (2 + 1)) k S v3 v4) (a1 := a1) hq ha (b := i) (by omega) m (i + 1) F (by omega) (by omega) h2 h3
      obtain ⟨S2, u2, c2, d2, f2⟩ := ih (i + 1) k (by omega) (by omega) c1 d1
      refine ⟨S2, ?_, c2, d2.to (fun j => ?_), f1.trans f2⟩
      · rw [u_X9_laySets_179, if_neg (nI_ge (by omega) (by omega)), if_neg (by decide), if_neg (by decide), nI_add (a := i)]
        exact u1.trans u2
      · rw [cXE_s, Nat.add_assoc]
theorem x9_179n {K : mS → Int32 → Option mS} {a1 : Int32} {k : Nat} {S : mS} {v3 v4 : Int32} (hk : 0 < k) : lX9_laySets_179 F K 375 a1 (nI 1) k S v3 v4 = K S (v3 + nI 1) := by
  obtain ⟨k, rfl⟩ : ∃ k', k = k' + 1 := ⟨k - 1, by omega⟩
  rw [u_X9_laySets_179, if_pos (show nI 1 ≤ nI 1 by decide), ite_self]
theorem x9_l156 (hF : 40 < F) {a1 : Int32} {q : Nat × Nat} (hq : q20 q) {m0 : Nat} (h0 : m0 < 3) (m : Nat) : ∀ (i k : Nat) {S : mS} {g : Nat → Nat}, i + m = 20 → m < k → R2 S q → R3 S g → ∃ S', lX9_laySets_156 F 375 a1 (nI (m0 + 1)) k S (nI i) = some S' ∧ R2 S' q ∧ R3 S' (fun j => g j + cXE (Wv q.1 j) q.2 m (m0 + 1) 0 i) ∧ FR S S' := by
  induction m with
  | zero =>
    intro i k S g hi hk h2 h3
    obtain ⟨k, rfl⟩ : ∃ k', k = k' + 1 := ⟨k - 1, by omega⟩
    exact ⟨S, by rw [u_X9_laySets_156, if_pos (nI_le (by omega) (by omega))], h2, h3.to (fun j => rfl), FR.rfl' S⟩
  | succ m ih =>
    intro i k S g hi hk h2 h3
    obtain ⟨k, rfl⟩ : ∃ k', k = k' + 1 := ⟨k - 1, by omega⟩
    by_cases e : m0 = 0
    · subst e
      obtain ⟨S1, u1, c1, d1, f1⟩ := x9_count hF h2 h3 hq (s := 2 ^ i) (p2_lt20 (by omega))
      obtain ⟨S2, u2, c2, d2, f2⟩ := ih (i + 1) k (by omega) (by omega) c1 d1
      refine ⟨S2, ?_, c2, d2.to (fun j => ?_), f1.trans f2⟩
      · rw [u_X9_laySets_156, if_neg (nI_ge (by omega) (by omega)), if_pos rfl, i_shl (by omega), u1, bd_s, show nI (0 + 1) = nI 1 from rfl, x9_179n (by omega), nI_add (a := i)]
        exact u2
      · rw [cXE_s, cXE_0, Nat.add_assoc, Nat.zero_or]
    · obtain ⟨S1, u1, c1, d1, f1⟩ := x9_l179 hF (K := fun (S : mS) (v3 : Int32) => lX9_laySets_156 F 375 a1 (nI (m0 + 1)) k S v3) (a1 := a1) hq (a := i) (m0 := m0) (by omega) (by omega) m (i + 1) F (by omega) (by omega) h2 h3
      obtain ⟨S2, u2, c2, d2, f2⟩ := ih (i + 1) k (by omega) (by omega) c1 d1
      refine ⟨S2, ?_, c2, d2.to (fun j => ?_), f1.trans f2⟩
      · rw [u_X9_laySets_156, if_neg (nI_ge (by omega) (by omega)), if_neg (nI_neq (show ¬ m0 + 1 = 1 by omega) (by omega) (by omega)), nI_add (a := i)]
        exact u1.trans u2
      · rw [cXE_s, Nat.add_assoc, Nat.zero_or]
theorem x9_l135 {K : mS → Int32 → Option mS} {a1 a2 : Int32} (m : Nat) : ∀ (i k : Nat) {S : mS}, i + m = 20 → m < k → ∃ S', lX9_laySets_135 F K 375 a1 a2 k S (nI i) = K S' (nI 0) ∧ (∀ d, S'.1 385 d = if i ≤ d ∧ d < 20 then nI 0 else S.1 385 d) ∧ ∀ u k, u ≠ 385 → S'.1 u k = S.1 u k := by
  induction m with
  | zero =>
    intro i k S hi hk
    obtain ⟨k, rfl⟩ : ∃ k', k = k' + 1 := ⟨k - 1, by omega⟩
    exact ⟨S, by rw [u_X9_laySets_135, if_pos (nI_le (by omega) (by omega))], fun d => by rw [if_neg (by omega)], fun _ _ _ => rfl⟩
  | succ m ih =>
    intro i k S hi hk
    obtain ⟨k, rfl⟩ : ∃ k', k = k' + 1 := ⟨k - 1, by omega⟩
    obtain ⟨S2, u2, c2, f2⟩ := ih (i + 1) k (S := sI S 385 i (nI 0)) (by omega) (by omega)
    refine ⟨S2, ?_, fun d => ?_, fun u k h => (f2 u k h).trans (sq_u h)⟩
    · rw [u_X9_laySets_135, if_neg (nI_ge (by omega) (by omega)), inb_n (n := i) (by omega) (by omega), ck_t, nI_clamp (n := i) (by omega), stp_s, nI_add, u2]
    · rw [c2]
      by_cases e : d = i
      · subst e; rw [if_neg (show ¬ (d + 1 ≤ d ∧ d < 20) by omega), if_pos (show d ≤ d ∧ d < 20 by omega), sq_hit]
      · rw [sq_off (by omega)]
        by_cases z : i ≤ d ∧ d < 20
        · rw [if_pos (by omega), if_pos z]
        · rw [if_neg (by omega), if_neg z]
/-- what both have noted of house h -/
def ntq (T N : Tw) (h : Nat) : Nat × Nat := ntS N h (N 0 3) 0 (ntB T h (T 0 4) 0 (0, 0))
theorem q20_0 : q20 (0, 0) := ⟨by decide, by decide⟩
theorem ntB_20 {T : Tw} {h : Nat} (m : Nat) : ∀ (i : Nat) {q : Nat × Nat}, q20 q → q20 (ntB T h m i q) := by
  induction m with
  | zero => exact fun i q hq => hq
  | succ m ih =>
    intro i q hq
    show q20 (ntB T h m (i + 1) _)
    refine ih (i + 1) ?_
    split
    · exact nt1_20 hq (Nat.mod_lt _ (by decide))
    · exact hq
theorem ntS_20 {N : Tw} {h : Nat} (b : ∀ k, k < N 0 3 → N 2 k < 20) (m : Nat) : ∀ (i : Nat) {q : Nat × Nat}, i + m = N 0 3 → q20 q → q20 (ntS N h m i q) := by
  induction m with
  | zero => exact fun i q _ hq => hq
  | succ m ih =>
    intro i q hi hq
    show q20 (ntS N h m (i + 1) _)
    refine ih (i + 1) (by omega) ?_
    split
    · exact nt1_20 hq (b i (by omega))
    · exact hq
theorem x9_lay1 (hF : 40 < F) {T N : Tw} (hW : Wf T) {S : mS} {h m0 : Nat} (hh : h < 8) (h0 : m0 < 3) (hR : RT S 376 T) (hS : SR S N) : ∃ S', f_X9_laySets F S 375 (nI h) (nI (m0 + 1)) = some S' ∧ R3 S' (fun j => cXE (Wv (ntq T N h).1 j) (ntq T N h).2 20 (m0 + 1) 0 0) ∧ FR S S' := by
  have w4 := hW.2.2.2.2.1
  have w3 := hS.2.2.1
  have f0 : FR S (sI (sI S 375 25 (nI 0)) 375 26 (nI 0)) := fun u k h g => by rw [sq_off (by omega), sq_off (by omega)]
  obtain ⟨S1, u1, c1, f1⟩ := x9_l12 (F := F) hW (K := fun (S : mS) (v3 : Int32) => lX9_laySets_60 F (fun (S : mS) (v3 : Int32) => lX9_laySets_135 F (fun (S : mS) (v3 : Int32) => lX9_laySets_156 F 375 (nI h) (nI (m0 + 1)) F S v3) 375 (nI h) (nI (m0 + 1)) F S v3) 375 (nI h) (nI (m0 + 1)) F S v3) (a := nI (m0 + 1)) hh (T 0 4) 0 F (S := sI (sI S 375 25 (nI 0)) 375 26 (nI 0)) (q := (0, 0)) (by omega) (by omega) (hR.fr (fun k => f0 _ _ (by decide) (Or.inl (by decide)))) ⟨by rw [sq_off (by omega), sq_hit], sq_hit _ _ _ _⟩ q20_0
  have q1 : q20 (ntB T h (T 0 4) 0 (0, 0)) := ntB_20 _ 0 q20_0
  obtain ⟨S2, u2, c2, f2⟩ := x9_l60 (F := F) (K := fun (S : mS) (v3 : Int32) => lX9_laySets_135 F (fun (S : mS) (v3 : Int32) => lX9_laySets_156 F 375 (nI h) (nI (m0 + 1)) F S v3) 375 (nI h) (nI (m0 + 1)) F S v3) (a := nI (m0 + 1)) hh (N 0 3) 0 F (by omega) (by omega) ((hS.fr f0).fr f1) c1 q1
  have q2 : q20 (ntq T N h) := ntS_20 (fun k hk => (hS.2.2.2 k hk).2.1) _ 0 (by omega) q1
  obtain ⟨S3, u3, c3, f3⟩ := x9_l135 (F := F) (K := fun (S : mS) (v3 : Int32) => lX9_laySets_156 F 375 (nI h) (nI (m0 + 1)) F S v3) (a1 := nI h) (a2 := nI (m0 + 1)) 20 0 F (S := sI (sI S2 375 27 (nI 0)) 375 28 (nI 1048575)) (by omega) (by omega)
  have c3' : R2 S3 (ntq T N h) := ⟨by rw [f3 _ _ (by decide), sq_off (by omega), sq_off (by omega)]; exact c2.1, by rw [f3 _ _ (by decide), sq_off (by omega), sq_off (by omega)]; exact c2.2⟩
  have d3 : R3 S3 (fun _ => 0) := ⟨by rw [f3 _ _ (by decide), sq_off (by omega), sq_hit], fun d hd => by rw [c3, if_pos (by omega)], fun _ _ => Nat.le_refl 0, 1048575, by decide, by rw [f3 _ _ (by decide), sq_hit], fun d hd => ⟨fun _ => rfl, fun _ => (by decide : ∀ d, d < 20 → (1048575 : Nat).testBit d = true) d hd⟩⟩
  obtain ⟨S4, u4, c4, d4, f4⟩ := x9_l156 hF (a1 := nI h) q2 h0 20 0 F (by omega) (by omega) c3' d3
  refine ⟨S4, ?_, d4.to (fun j => Nat.zero_add _), ((f0.trans f1).trans f2).trans (FR.trans (fun u k h g => ?_) f4)⟩
  · rw [u_X9_laySets, stp_s, stp_s, u1]
    exact u2.trans (u3.trans u4)
  · rw [f3 _ _ h, sq_off (by omega), sq_off (by omega)]
end
