/-! ===== both sides from one world to one world; house ===== -/
/-- the texts that stand, and the class's text without laws -/
def TX (S : mS) (E : Nat → Tw) (n : Nat) : Prop := (∀ i, i < n → TR S i (E i)) ∧ (∀ l, l < 3 → S.1 34 l = nI 0 ∧ S.1 35 l = nI 0)
theorem TX.fr {S S' : mS} {E : Nat → Tw} {n : Nat} (hn : n ≤ 4) (h : TX S E n) (e : ∀ u k, u ≤ 36 ∨ u = 378 → S'.1 u k = S.1 u k) : TX S' E n := ⟨fun i hi => (h.1 i hi).fr (by omega) (fun u k a b => e _ _ (by omega)) (fun k => e _ _ (by omega)), fun l hl => by rw [e 34 l (by omega), e 35 l (by omega)]; exact h.2 l hl⟩
theorem TX.fc {S S' : mS} {E : Nat → Tw} {n : Nat} (hn : n ≤ 4) (h : TX S E n) (f : Fc S S') : TX S' E n := h.fr hn (fun u k c => f u k (by omega))
theorem TX.fr' {S S' : mS} {E : Nat → Tw} {n : Nat} (hn : n ≤ 4) (h : TX S E n) (f : Fr S S') : TX S' E n := h.fr hn (fun u k c => f u k (by omega))
def Sim {α : Type} (f8 f9 : mS → Option (mS × α)) (E : Nat → Tw) (T : Tw) (P : Nat → Tw) (N : Tw) (Q : Tw → (Nat → Tw) → Tw → α → Prop) : Prop := ∃ T' P' N' r, (∀ S, CW S 40 T P N → TX S E (N 0 2) → ∃ S1, f8 S = some (S1, r) ∧ CW S1 40 T' P' N' ∧ Fc S S1) ∧ (∀ S, RW S 376 T P N → TX S E (N 0 2) → ∃ S2, f9 S = some (S2, r) ∧ RW S2 376 T' P' N' ∧ Fr S S2) ∧ WV T' P' N' ∧ N' 0 2 = N 0 2 ∧ N' 0 5 = N 0 5 ∧ Q T' P' N' r
theorem InvW.tx {S : mS} {T : Tw} {P : Nat → Tw} {N : Tw} {T1 : Tw} {P1 : Nat → Tw} {N1 : Tw} {E : Nat → Tw} (h : InvW S T P N T1 P1 N1 E) : TX S E (N 0 2) := ⟨h.2.2.2.2.2.2.2.1, h.2.2.2.2.2.2.2.2.2.2⟩
theorem Sim.run {α : Type} {f8 f9 : mS → Option (mS × α)} {S : mS} {T : Tw} {P : Nat → Tw} {N : Tw} {T1 : Tw} {P1 : Nat → Tw} {N1 : Tw} {E : Nat → Tw} {Q : Tw → (Nat → Tw) → Tw → α → Prop} (h : Sim f8 f9 E T P N Q) (hI : InvW S T P N T1 P1 N1 E) : ∃ S1 S2 r, f8 S = some (S1, r) ∧ f9 S1 = some (S2, r) ∧ Inv S2 := by
  obtain ⟨T', P', N', r, h8, h9, hv, e2, e5, -⟩ := h
  obtain ⟨S1, u1, c1, f1⟩ := h8 S hI.1 hI.tx
  obtain ⟨S2, u2, c2, f2⟩ := h9 S1 (hI.2.1.fc f1) (hI.tx.fc hI.2.2.1.2.2.1.2.2.1 f1)
  exact ⟨S1, S2, r, u1, u2, (hI.next c1 f1 c2 f2 hv e2).inv⟩
theorem Sim.same {α : Type} {f8 f9 : mS → Option (mS × α)} {E : Nat → Tw} {T : Tw} {P : Nat → Tw} {N : Tw} {Q : Tw → (Nat → Tw) → Tw → α → Prop} (hv : WV T P N) (r : α) (h8 : ∀ S, CW S 40 T P N → f8 S = some (S, r)) (h9 : ∀ S, RW S 376 T P N → f9 S = some (S, r)) (hQ : Q T P N r) : Sim f8 f9 E T P N Q := ⟨T, P, N, r, fun S hc _ => ⟨S, h8 S hc, hc, Fc.rfl' S⟩, fun S hc _ => ⟨S, h9 S hc, hc, Fr.rfl' S⟩, hv, rfl, rfl, hQ⟩
def bo (a : Int32) : Nat := if a = -1 then 0 else 2 ^ a.toNatClampNeg
theorem dn_eq (S : mS) (a : Int32) : f_X9_isIn S a (-1) (nI 19) = f_X8_isDateOrNone S a := by
  rw [u_X8_isDateOrNone, u_X8_isDate, x9_isIn, u_X8_isWithin, u_X8_isWithin]
  by_cases e : a = -1
  · subst e; rfl
  · rw [if_neg e]
    have : (a < -1) = (a < nI 0) := propext (by
      rw [Int32.lt_iff_toInt_lt, Int32.lt_iff_toInt_lt, show (-1 : Int32).toInt = -1 from by decide, show (nI 0).toInt = 0 from by decide]
      have : a.toInt ≠ -1 := fun h => e (Int32.toInt_inj.mp (by rw [h]; decide))
      omega)
    simp only [this, if_tf]
theorem dn_c (S : mS) (a : Int32) : f_X8_isDateOrNone S a = false ∨ (f_X8_isDateOrNone S a = true ∧ (a = -1 ∨ ∃ d, d < 20 ∧ a = nI d)) := by
  rw [u_X8_isDateOrNone, u_X8_isDate]
  by_cases e : a = -1
  · exact Or.inr ⟨if_pos e, Or.inl e⟩
  · rw [if_neg e, if_tf]
    rcases dat_c S a with h | ⟨d, hd, rfl, h⟩
    · exact Or.inl h
    · exact Or.inr ⟨h, Or.inr ⟨d, hd, rfl⟩⟩
theorem bo_b (S : mS) {a : Int32} (h : a = -1 ∨ ∃ d, d < 20 ∧ a = nI d) : f_X8_bitOf S a = nI (bo a) ∧ (if nI 0 ≤ a then nI 1 <<< (a &&& 31) else nI 0) = nI (bo a) ∧ bo a < 1048576 ∧ pcf 20 (bo a) ≤ 1 ∧ (a < nI 0) = (a = -1) := by
  rcases h with rfl | ⟨d, hd, rfl⟩
  · exact ⟨rfl, rfl, by decide, by decide, by decide⟩
  · have e : bo (nI d) = 2 ^ d := by
      unfold bo
      rw [if_neg (by rw [n_m1 (by omega)]; exact fun q => q), nI_clamp (by omega)]
    rw [e, u_X8_bitOf, i_shl (by omega), if_neg (by rw [n_m1 (by omega)]; exact fun q => q), if_pos (nI_le (Nat.zero_le _) (by omega))]
    have hp : ∀ d, d < 20 → pcf 20 (2 ^ d) ≤ 1 := by decide +kernel
    refine ⟨rfl, rfl, p2_lt20 hd, hp d hd, ?_⟩
    rw [n_m1 (by omega)]
    exact eq_false (nI_pos (by omega))
theorem ct_orle (p q : Nat → Bool) : ∀ n, fb_ct (fun k => p k || q k) n ≤ fb_ct p n + fb_ct q n
  | 0 => Nat.le_refl _
  | n + 1 => by
    have := ct_orle p q n
    rw [fb_ct_succ, fb_ct_succ, fb_ct_succ]
    cases p n <;> cases q n <;> simp <;> omega
theorem pcf_or (a b : Nat) : pcf 20 (a ||| b) ≤ pcf 20 a + pcf 20 b := by
  rw [pcf_ct, pcf_ct, pcf_ct]
  refine Nat.le_trans (Nat.le_of_eq (fb_ct_cong (fun k _ => Nat.testBit_or a b k))) (ct_orle _ _ 20)
/-- a house more -/
def hsT (T : Tw) (m p f : Nat) : Tw := tu (tu (tu (tu T 0 0 (T 0 0 + 1)) 1 (T 0 0) m) 2 (T 0 0) p) 3 (T 0 0) f
def hsN (T N : Tw) (m p f : Nat) : Tw := tu (tu (tu N 6 (T 0 0) m) 7 (T 0 0) p) 8 (T 0 0) f
section
variable {T : Tw} {m p f : Nat}
theorem hs_00 : hsT T m p f 0 0 = T 0 0 + 1 := rfl
theorem hs_0 {k : Nat} (h : k ≠ 0) : hsT T m p f 0 k = T 0 k := by
  unfold hsT
  simp (disch := omega) only [sq_hit, sq_off, tu_hit, tu_off]
theorem hs_4 {k : Nat} : hsT T m p f 4 k = T 4 k := rfl
theorem hs_1n : hsT T m p f 1 (T 0 0) = m ∧ hsT T m p f 2 (T 0 0) = p ∧ hsT T m p f 3 (T 0 0) = f := by
  unfold hsT
  simp (disch := omega) only [sq_hit, sq_off, tu_hit, tu_off]
  exact ⟨trivial, trivial, trivial⟩
theorem hs_1 {i k : Nat} (hi : i ≠ 0) (h : k ≠ T 0 0) : hsT T m p f i k = T i k := by
  unfold hsT
  simp (disch := omega) only [sq_hit, sq_off, tu_hit, tu_off]
theorem hs_Wf (h : Wf T) (h7 : T 0 0 < 7) (hm : m < 1048576) (hm3 : pcf 20 m ≤ 3) (hp : p ≤ 9999) (hf : f ≤ 99) : Wf (hsT T m p f) := by
  obtain ⟨a0, a1, a2, a3, a4, a5, a6⟩ := h
  refine ⟨by rw [hs_00]; omega, ?_, ?_, ?_, ?_, fun h hh => ?_, fun k hk => ?_⟩
  · rw [hs_0 (by decide), hs_00]
    exact Nat.lt_trans a1 (Nat.pow_lt_pow_right (by decide) (Nat.lt_succ_self _))
  · rw [hs_0 (by decide)]; exact a2
  · rw [hs_0 (by decide)]; exact a3
  · rw [hs_0 (by decide)]; exact a4
  · rw [hs_00] at hh
    by_cases q : h = T 0 0
    · rw [q, hs_1n.1, hs_1n.2.1, hs_1n.2.2]
      exact ⟨hm, hm3, hp, hf⟩
    · rw [hs_1 (by decide) q, hs_1 (by decide) q, hs_1 (by decide) q]
      exact a5 h (by omega)
  · rw [hs_0 (by decide)] at hk
    exact a6 k hk
theorem hs_WV {P : Nat → Tw} {N : Tw} (h : WV T P N) (h7 : T 0 0 < 7) (hm : m < 1048576) (hm3 : pcf 20 m ≤ 3) (hp : p ≤ 9999) (hf : f ≤ 99) : WV (hsT T m p f) P (hsN T N m p f) := by
  obtain ⟨h1, h2, ⟨a1, a2, a3, a4, a5, a6⟩, h4, h5, h6⟩ := h
  have le : ∀ j, j < N 0 0 → P j 0 0 ≤ T 0 0 := by
    have : ∀ d j, j + d + 1 = N 0 0 → P j 0 0 ≤ T 0 0 := by
      intro d
      induction d with
      | zero =>
        intro j hj
        have y := (h6 j (by omega)).1
        unfold nxt at y
        rw [if_neg (by omega)] at y
        exact y
      | succ d ih =>
        intro j hj
        have y := (h6 j (by omega)).1
        unfold nxt at y
        rw [if_pos (by omega)] at y
        exact Nat.le_trans y (ih (j + 1) (by omega))
    exact fun j hj => this (N 0 0 - j - 1) j (by omega)
  have en : ∀ i k, k ≠ T 0 0 → hsN T N m p f i k = N i k := fun i k hk => by
    unfold hsN
    simp (disch := omega) only [sq_hit, sq_off, tu_hit, tu_off]
  have e0 : hsN T N m p f 0 0 = N 0 0 := rfl
  refine ⟨hs_Wf h1 h7 hm hm3 hp hf, h2, ⟨a1, a2, a3, a4, a5, a6⟩, h4, h5, fun j hj => ?_⟩
  rw [e0] at hj ⊢
  have y := h6 j hj
  unfold nxt at y ⊢
  by_cases q : j + 1 < N 0 0
  · rw [if_pos q] at y ⊢
    refine ⟨y.1, fun h g1 g2 => ?_⟩
    have := le (j + 1) q
    rw [en 6 h (by omega), en 7 h (by omega), en 8 h (by omega)]
    exact y.2 h g1 g2
  · rw [if_neg q] at y ⊢
    refine ⟨by rw [hs_00]; exact Nat.le_succ_of_le y.1, fun h g1 g2 => ?_⟩
    rw [hs_00] at g2
    by_cases z : h = T 0 0
    · rw [z, hs_1n.1, hs_1n.2.1, hs_1n.2.2]
      unfold hsN
      simp (disch := omega) only [sq_hit, sq_off, tu_hit, tu_off]
      exact ⟨trivial, trivial, trivial⟩
    · rw [hs_1 (by decide) z, hs_1 (by decide) z, hs_1 (by decide) z, en 6 h z, en 7 h z, en 8 h z]
      exact y.2 h g1 (by omega)
end
theorem x6_settle {F : Nat} {S : mS} {T : Tw} {P : Nat → Tw} {N : Tw} {m p f : Nat} (hC : CW S 40 T P N) (hV : WV T P N) (h7 : T 0 0 < 7) : ∃ S', f_X6_settle F S 41 (nI m) (nI p) (nI f) = some (S', nI (T 0 0)) ∧ CW S' 40 (hsT T m p f) P (hsN T N m p f) ∧ Fc S S' := by
  obtain ⟨b0, b1, b2, b5, b3, b4⟩ := hV.2.2.1
  obtain ⟨h1, h2, h3, ⟨h4, h5, h6, h7', h8, h9⟩, h10, h11⟩ := hC
  obtain ⟨t1, t2, t3, t4, t5, t6, t7, t8, t9⟩ := h1
  have c5 : S.1 41 5 = nI (T 0 0) := t1
  have u : f_X6_settle F S 41 (nI m) (nI p) (nI f) = some (sI (sI (sI (sI S 42 (T 0 0) (nI m)) 43 (T 0 0) (nI p)) 44 (T 0 0) (nI f)) 41 5 (nI (T 0 0 + 1)), nI (T 0 0)) := by
    rw [u_X6_settle]
    simp (disch := omega) only [sq_hit, sq_off, c5, ck_t, bd_s, ↓stp_s, inb_n, nI_clamp, nI_add, pk_mul, pk_div, pk_sub, nrem, nI_leI, nI_ltI, nI_eq, n_m1, m1_n, m1_lt, n_lt_m1, n_le_m1, m1_le, m1_e1, m2_n, if_true, if_false, if_pos, if_neg]
    simp only [Nat.reduceAdd, Nat.add_sub_cancel]
  have e : ∀ u k, u < 41 ∨ 44 < u → (sI (sI (sI (sI S 42 (T 0 0) (nI m)) 43 (T 0 0) (nI p)) 44 (T 0 0) (nI f)) 41 5 (nI (T 0 0 + 1))).1 u k = S.1 u k := fun u k h => by
    simp (disch := omega) only [sq_hit, sq_off, tu_hit, tu_off]
  refine ⟨_, u, ⟨⟨?_, ?_, ?_, ?_, ?_, fun h hh => ?_, fun h hh => ?_, fun h hh => ?_, fun k hk => ?_⟩, fun j hj => ?_, fun i hi => ?_, ⟨?_, ?_, ?_, ?_, ?_, ?_⟩, fun k hk => ?_, fun k hk => ?_⟩, fun u k h => e _ _ (by omega)⟩
  · show (sI _ 41 5 _).1 41 5 = _
    rw [sq_hit, hs_00]
  · rw [hs_0 (by decide)]; simp (disch := omega) only [sq_hit, sq_off, tu_hit, tu_off]; exact t2
  · rw [hs_0 (by decide)]; simp (disch := omega) only [sq_hit, sq_off, tu_hit, tu_off]; exact t3
  · rw [hs_0 (by decide)]; simp (disch := omega) only [sq_hit, sq_off, tu_hit, tu_off]; exact t4
  · rw [hs_0 (by decide)]; simp (disch := omega) only [sq_hit, sq_off, tu_hit, tu_off]; exact t5
  · rw [hs_00] at hh
    by_cases q : h = T 0 0
    · rw [q, hs_1n.1]; simp (disch := omega) only [sq_hit, sq_off, tu_hit, tu_off]
    · rw [hs_1 (by decide) q]; simp (disch := omega) only [sq_hit, sq_off, tu_hit, tu_off]; exact t6 h (by omega)
  · rw [hs_00] at hh
    by_cases q : h = T 0 0
    · rw [q, hs_1n.2.1]; simp (disch := omega) only [sq_hit, sq_off, tu_hit, tu_off]
    · rw [hs_1 (by decide) q]; simp (disch := omega) only [sq_hit, sq_off, tu_hit, tu_off]; exact t7 h (by omega)
  · rw [hs_00] at hh
    by_cases q : h = T 0 0
    · rw [q, hs_1n.2.2]; simp (disch := omega) only [sq_hit, sq_off, tu_hit, tu_off]
    · rw [hs_1 (by decide) q]; simp (disch := omega) only [sq_hit, sq_off, tu_hit, tu_off]; exact t8 h (by omega)
  · rw [hs_0 (by decide)] at hk
    rw [hs_4, e _ _ (by omega)]; exact t9 k hk
  · exact (h2 j hj).fr (fun u k a b => e _ _ (by have : hsN T N m p f 0 1 = N 0 1 := rfl; omega))
  · rw [e _ _ (by omega)]; exact h3 i hi
  · rw [e _ _ (by omega)]; exact h4
  · rw [e _ _ (by omega)]; exact h5
  · rw [e _ _ (by omega)]; exact h6
  · rw [e _ _ (by omega)]; exact h7'
  · rw [e _ _ (by omega)]; exact h8
  · rw [e _ _ (by omega)]; exact h9
  · rw [e _ _ (by omega), e _ _ (by omega), e _ _ (by omega)]; exact h10 k hk
  · rw [e _ _ (by omega), e _ _ (by omega)]; exact h11 k hk
theorem x9_h137 {F : Nat} {S : mS} {T : Tw} {P : Nat → Tw} {N : Tw} {m p f : Nat} {a1 a2 a3 s0 s1 : Int32} (hF : 20 < F) (hR : RW S 376 T P N) (hV : WV T P N) (h7 : T 0 0 < 7) (hm : s1 ||| s0 = nI m) : ∃ S', lX9_house_137 F 375 a1 a2 a3 (nI p) (nI f) S (nI (T 0 0)) s0 s1 (nI 4) (nI (T 0 0)) = some (S', nI (T 0 0)) ∧ RW S' 376 (hsT T m p f) P (hsN T N m p f) ∧ Fr S S' := by
  obtain ⟨b0, b1, b2, b5, b3, b4⟩ := hV.2.2.1
  obtain ⟨h1, h2, ⟨h4, h5, h6, h7', h8⟩, h10, h11, h12⟩ := hR
  obtain ⟨n, hn⟩ : ∃ n, n = T 0 0 := ⟨_, rfl⟩
  let g : Nat → Int32 := fun j => if j = 12 + 8 * n + 6 then nI f else if j = 12 + 8 * n + 5 then nI p else if j = 12 + 8 * n + 4 then nI m else S.1 376 j
  let g' : Nat → Int32 := fun j => if j = 0 then nI (n + 1) else bgg g n j
  have u : lX9_house_137 F 375 a1 a2 a3 (nI p) (nI f) S (nI (T 0 0)) s0 s1 (nI 4) (nI (T 0 0)) = some (sF S 376 g', nI (T 0 0)) := by
    have e1 : sI (sI (sI S 376 (12 + 8 * n + 4) (nI m)) 376 (12 + 8 * n + 5) (nI p)) 376 (12 + 8 * n + 6) (nI f) = sF S 376 g := by
      have z := sF_I S 376 (S.1 376) (12 + 8 * n + 4) (nI m)
      rw [← sF_e] at z
      rw [z, sF_I, sF_I]
    have e2 : bgg g n 0 = nI n := by
      unfold bgg
      rw [if_neg (by omega), if_neg (by omega)]
      show (if 0 = 12 + 8 * n + 6 then _ else _) = _
      rw [if_neg (by omega), if_neg (by omega), if_neg (by omega), hn]; exact h1.1
    rw [u_X9_house_137, hm, ← hn, x9_put _ _ (by omega) (by omega), bd_s, x9_put _ _ (by omega) (by omega), bd_s, x9_put _ _ (by omega) (by omega), bd_s, e1, x9_beg (by omega) _ (by omega), bd_s, inb_n (by omega) (by omega), ck_t, ck_t, nI_clamp (by omega), sF_c, e2, stp_s, sF_I, nI_add]
  have e : ∀ k, k ≠ 0 → k < 12 + 8 * n ∨ 12 + 8 * n + 8 ≤ k → g' k = S.1 376 k := fun k h0 hk => by
    show (if k = 0 then _ else bgg g n k) = _
    unfold bgg
    rw [if_neg h0, if_neg (by omega), if_neg (by omega)]
    show (if k = 12 + 8 * n + 6 then _ else _) = _
    rw [if_neg (by omega), if_neg (by omega), if_neg (by omega)]
  have eb : ∀ i, i < 3 → g' (12 + 8 * n + i) = g (12 + 8 * n + i + 4) := fun i hi => by
    show (if 12 + 8 * n + i = 0 then _ else bgg g n (12 + 8 * n + i)) = _
    unfold bgg
    rw [if_neg (by omega), if_neg (by omega), if_pos (by omega)]
  have e3 : g' (12 + 8 * n + 3) = nI 0 := by
    show (if 12 + 8 * n + 3 = 0 then _ else bgg g n (12 + 8 * n + 3)) = _
    unfold bgg
    rw [if_neg (by omega), if_pos rfl]
  have et : ∀ i, 4 ≤ i → g' (12 + 8 * n + i) = if i < 8 then g (12 + 8 * n + i) else g' (12 + 8 * n + i) := fun i hi => by
    by_cases q : i < 8
    · rw [if_pos q]
      show (if 12 + 8 * n + i = 0 then _ else bgg g n (12 + 8 * n + i)) = _
      unfold bgg
      rw [if_neg (by omega), if_neg (by omega), if_neg (by omega)]
    · rw [if_neg q]
  have g4 : g (12 + 8 * n + 4) = nI m := by
    show (if 12 + 8 * n + 4 = 12 + 8 * n + 6 then _ else _) = _
    rw [if_neg (by omega), if_neg (by omega), if_pos rfl]
  have g5 : g (12 + 8 * n + 5) = nI p := by
    show (if 12 + 8 * n + 5 = 12 + 8 * n + 6 then _ else _) = _
    rw [if_neg (by omega), if_pos rfl]
  have g6 : g (12 + 8 * n + 6) = nI f := if_pos rfl
  have w0 := hV.1.1
  rw [← hn] at h7
  refine ⟨_, u, ⟨⟨?_, ?_, ?_, ?_, fun h hh => ?_, fun h hh => ?_, fun h hh => ?_, fun h hh => ?_, fun k hk => ?_⟩, fun j hj => ?_, ⟨?_, ?_, ?_, ?_, ?_⟩, fun k hk => ?_, fun k hk => ?_, fun h hh => ?_⟩, fun u k hu => sF_u (by omega)⟩
  · rw [sF_c, hs_00, ← hn]; rfl
  · rw [sF_c, e _ (by omega) (by omega), hs_0 (by decide)]; exact h1.2.1
  · rw [sF_c, e _ (by omega) (by omega), hs_0 (by decide)]; exact h1.2.2.1
  · rw [sF_c, e _ (by omega) (by omega), hs_0 (by decide)]; exact h1.2.2.2.1
  · rw [hs_00] at hh
    by_cases q : h = n
    · rw [q, sF_c, show 12 + 8 * n = 12 + 8 * n + 0 from rfl, eb 0 (by omega), g4, hn, hs_1n.1]
    · rw [sF_c, e _ (by omega) (by omega), hs_1 (by decide) (by omega)]; exact h1.2.2.2.2.1 h (by omega)
  · rw [hs_00] at hh
    by_cases q : h = n
    · rw [q, sF_c, eb 1 (by omega), g5, hn, hs_1n.2.1]
    · rw [sF_c, e _ (by omega) (by omega), hs_1 (by decide) (by omega)]; exact h1.2.2.2.2.2.1 h (by omega)
  · rw [hs_00] at hh
    by_cases q : h = n
    · rw [q, sF_c, eb 2 (by omega), g6, hn, hs_1n.2.2]
    · rw [sF_c, e _ (by omega) (by omega), hs_1 (by decide) (by omega)]; exact h1.2.2.2.2.2.2.1 h (by omega)
  · rw [hs_00] at hh
    rw [hs_0 (by decide)]
    by_cases q : h = n
    · rw [q, sF_c, e3, hV.1.gf (by omega)]; rfl
    · rw [sF_c, e _ (by omega) (by omega)]; exact h1.2.2.2.2.2.2.2.1 h (by omega)
  · rw [hs_0 (by decide)] at hk
    rw [sF_c, e _ (by omega) (by omega), hs_4]; exact h1.2.2.2.2.2.2.2.2 k hk
  · have hj' : j < N 0 0 := hj
    exact (h2 j hj').frk (hV.2.1 j hj') (fun k a b => by rw [sF_c, e _ (by omega) (by omega)])
  · rw [sF_c, e _ (by omega) (by omega)]; exact h4
  · rw [sF_c, e _ (by omega) (by omega)]; exact h5
  · rw [sF_c, e _ (by omega) (by omega)]; exact h6
  · rw [sF_c, e _ (by omega) (by omega)]; exact h7'
  · rw [sF_c, e _ (by omega) (by omega)]; exact h8
  · have hk' : k < N 0 3 := hk
    rw [sF_c, sF_c, sF_c, e _ (by omega) (by omega), e _ (by omega) (by omega), e _ (by omega) (by omega)]; exact h10 k hk
  · have hk' : k < N 0 4 := hk
    rw [sF_c, sF_c, e _ (by omega) (by omega), e _ (by omega) (by omega)]; exact h11 k hk
  · rw [hs_00] at hh
    by_cases q : h = n
    · rw [q, sF_c, sF_c, sF_c, et 4 (by omega), et 5 (by omega), et 6 (by omega), if_pos (by omega), if_pos (by omega), if_pos (by omega), g4, g5, g6, hn]
      unfold hsN
      simp (disch := omega) only [sq_hit, sq_off, tu_hit, tu_off]
      exact ⟨trivial, trivial, trivial⟩
    · have en : ∀ i, hsN T N m p f i h = N i h := fun i => by
        unfold hsN
        simp (disch := omega) only [sq_hit, sq_off, tu_hit, tu_off]
      rw [sF_c, sF_c, sF_c, e _ (by omega) (by omega), e _ (by omega) (by omega), e _ (by omega) (by omega), en, en, en]; exact h12 h (by omega)
theorem sim_house {F : Nat} (hF : 20 < F) {E : Nat → Tw} {T : Tw} {P : Nat → Tw} {N : Tw} (hV : WV T P N) (a b c p f : Int32) : Sim (fun S => f_X8_house F S 0 a b c p f) (fun S => f_X9_house F S 375 a b c p f) E T P N (fun _ _ _ r => r = -1 ∨ ∃ n, n < 7 ∧ r = nI n) := by
  have w0 := hV.1.1
  let S0 : mS := (fun _ _ => 0, fun _ _ => 0)
  have i8 : ∀ S a l h, f_X8_isWithin S a l h = f_X8_isWithin S0 a l h := fun _ _ _ _ => rfl
  have d8 : ∀ S a, f_X8_isDateOrNone S a = f_X8_isDateOrNone S0 a := fun _ _ => rfl
  have s8 : ∀ S a b, f_X8_isSameDate S a b = f_X8_isSameDate S0 a b := fun _ _ _ => rfl
  have nop : (∀ S, CW S 40 T P N → f_X8_house F S 0 a b c p f = some (S, -1)) → (∀ S, RW S 376 T P N → f_X9_house F S 375 a b c p f = some (S, -1)) → Sim (fun S => f_X8_house F S 0 a b c p f) (fun S => f_X9_house F S 375 a b c p f) E T P N (fun _ _ _ r => r = -1 ∨ ∃ n, n < 7 ∧ r = nI n) := fun h8 h9 => Sim.same hV (-1) h8 h9 (Or.inl rfl)
  rcases dn_c S0 a with z | ⟨z, va⟩
  · refine nop (fun S hS => ?_) (fun S hS => ?_)
    · rw [u_X8_house, d8 S a, z]; rfl
    · rw [u_X9_house, dn_eq, d8 S a, z]; rfl
  rcases dn_c S0 b with z2 | ⟨z2, vb⟩
  · refine nop (fun S hS => ?_) (fun S hS => ?_)
    · rw [u_X8_house, d8 S a, d8 S b, z, z2]; rfl
    · rw [u_X9_house, dn_eq, dn_eq, d8 S a, d8 S b, z, z2]; rfl
  rcases dn_c S0 c with z3 | ⟨z3, vc⟩
  · refine nop (fun S hS => ?_) (fun S hS => ?_)
    · rw [u_X8_house, d8 S a, d8 S b, d8 S c, z, z2, z3]; rfl
    · rw [u_X9_house, dn_eq, dn_eq, dn_eq, d8 S a, d8 S b, d8 S c, z, z2, z3]; rfl
  obtain ⟨p1, p2, p3, p4, p5⟩ := bo_b S0 va
  obtain ⟨q1, q2, q3, q4, q5⟩ := bo_b S0 vb
  obtain ⟨r1, r2, r3, r4, r5⟩ := bo_b S0 vc
  have sd : ∀ S x y, f_X8_isSameDate S x y = decide (¬ x = -1 ∧ x = y) := fun S x y => by
    rw [u_X8_isSameDate]
    by_cases e : x = -1
    · rw [if_pos e, decide_eq_false (fun h => h.1 e)]
    · rw [if_neg e]
      by_cases e2 : x = y
      · rw [if_pos e2, decide_eq_true ⟨e, e2⟩]
      · rw [if_neg e2, decide_eq_false (fun h => e2 h.2)]
  have h8 : ∀ S, f_X8_house F S 0 a b c p f = if (¬ a = -1 ∧ a = b) ∨ (¬ a = -1 ∧ a = c) ∨ (¬ b = -1 ∧ b = c) then some (S, -1) else (if f_X8_isWithin S0 p (nI 0) (nI 9999) = true then (if f_X8_isWithin S0 f (nI 0) (nI 99) = true then bd (f_X6_settle F S 41 (nI (bo a ||| bo b ||| bo c)) p f) (fun q1 => some (q1.1, q1.2)) else some (S, -1)) else some (S, -1)) := fun S => by
    rw [u_X8_house, d8 S a, d8 S b, d8 S c, z, z2, z3, if_pos rfl, if_pos rfl, if_pos rfl, sd, sd, sd, (bo_b S va).1, (bo_b S vb).1, (bo_b S vc).1, fa_or, fa_or]
    simp only [decide_eq_true_eq]
    by_cases y1 : ¬ a = -1 ∧ a = b
    · rw [if_pos y1, if_pos (Or.inl y1)]
    · rw [if_neg y1]
      by_cases y2 : ¬ a = -1 ∧ a = c
      · rw [if_pos y2, if_pos (Or.inr (Or.inl y2))]
      · rw [if_neg y2]
        by_cases y3 : ¬ b = -1 ∧ b = c
        · rw [if_pos y3, if_pos (Or.inr (Or.inr y3))]
        · rw [if_neg y3, if_neg (show ¬ ((¬ a = -1 ∧ a = b) ∨ (¬ a = -1 ∧ a = c) ∨ (¬ b = -1 ∧ b = c)) from fun h => by rcases h with h | h | h; exact y1 h; exact y2 h; exact y3 h)]
          rfl
  have ik : ∀ (q : Prop) [Decidable q] (α β : Type) (k : α → β) (x y : α), (if q then k x else k y) = k (if q then x else y) := fun q _ α β k x y => by split <;> rfl
  have h9 : ∀ S, RW S 376 T P N → f_X9_house F S 375 a b c p f = if (¬ a = -1 ∧ a = b) ∨ (¬ a = -1 ∧ a = c) ∨ (¬ b = -1 ∧ b = c) then some (S, -1) else (if f_X8_isWithin S0 p (nI 0) (nI 9999) = true then (if f_X8_isWithin S0 f (nI 0) (nI 99) = true then (if nI (T 0 0) = nI 7 then some (S, -1) else lX9_house_137 F 375 a b c p f S (nI (T 0 0)) (nI (bo c)) (nI (bo a ||| bo b)) (nI 4) (nI (T 0 0))) else some (S, -1)) else some (S, -1)) := fun S hS => by
    let K : mS → Option (mS × Int32) := fun (S : mS) => lX9_house_55 F (fun (S : mS) (v6 : Int32) (s0 : Int32) (s1 : Int32) (s2 : Int32) => lX9_house_114 F (fun (S : mS) (v6 : Int32) (s0 : Int32) (s1 : Int32) (s2 : Int32) (s3 : Int32) => lX9_house_125 F (fun (S : mS) (v6 : Int32) (s0 : Int32) (s1 : Int32) (s2 : Int32) (s3 : Int32) => lX9_house_137 F 375 a b c p f S v6 s0 s1 s2 s3) 375 a b c p f S v6 s0 s1 s2 s3) 375 a b c p f S v6 s0 s1 s2) 375 a b c p f S
    have hK : K S = (if f_X8_isWithin S0 p (nI 0) (nI 9999) = true then (if f_X8_isWithin S0 f (nI 0) (nI 99) = true then (if nI (T 0 0) = nI 7 then some (S, -1) else lX9_house_137 F 375 a b c p f S (nI (T 0 0)) (nI (bo c)) (nI (bo a ||| bo b)) (nI 4) (nI (T 0 0))) else some (S, -1)) else some (S, -1)) := by
      have k125 : ∀ v6 s0 s1 s2 s3, lX9_house_125 F (fun (S : mS) (v6 : Int32) (s0 : Int32) (s1 : Int32) (s2 : Int32) (s3 : Int32) => lX9_house_137 F 375 a b c p f S v6 s0 s1 s2 s3) 375 a b c p f S v6 s0 s1 s2 s3 = lX9_house_137 F 375 a b c p f S v6 (nI (bo c)) (s1 ||| s0) s2 s3 := fun v6 s0 s1 s2 s3 => by
        rw [u_X9_house_125, ik _ _ _ (fun x => lX9_house_137 F 375 a b c p f S v6 x (s1 ||| s0) s2 s3), r2]
      have k114 : ∀ v6 s0 s1 s2, lX9_house_114 F (fun (S : mS) (v6 : Int32) (s0 : Int32) (s1 : Int32) (s2 : Int32) (s3 : Int32) => lX9_house_125 F (fun (S : mS) (v6 : Int32) (s0 : Int32) (s1 : Int32) (s2 : Int32) (s3 : Int32) => lX9_house_137 F 375 a b c p f S v6 s0 s1 s2 s3) 375 a b c p f S v6 s0 s1 s2 s3) 375 a b c p f S v6 s0 s1 s2 = lX9_house_137 F 375 a b c p f S v6 (nI (bo c)) (s0 ||| nI (bo b)) s1 s2 := fun v6 s0 s1 s2 => by
        rw [u_X9_house_114]
        simp only [k125]
        rw [ik _ _ _ (fun x => lX9_house_137 F 375 a b c p f S v6 (nI (bo c)) (s0 ||| x) s1 s2), q2]
      show lX9_house_55 F _ 375 a b c p f S = _
      rw [u_X9_house_55, inb_n (by omega) (by omega), ck_t, nI_clamp (by omega), hS.1.1, ck_t]
      simp only [k114]
      rw [ik _ _ _ (fun x => lX9_house_137 F 375 a b c p f S (nI (T 0 0)) (nI (bo c)) (x ||| nI (bo b)) (nI 4) (nI (T 0 0))), p2, fa_or]
      rfl
    have hH : lX9_house_44 F K 375 a b c p f S = if ¬ b = -1 ∧ b = c then some (S, -1) else K S := by
      rw [u_X9_house_44]
      simp only [q5]
      by_cases y1 : b = -1
      · rw [if_pos y1, if_neg (fun h => h.1 y1)]
      · rw [if_neg y1]
        by_cases y2 : b = c
        · rw [if_pos y2, if_pos ⟨y1, y2⟩]
        · rw [if_neg y2, if_neg (fun h => y2 h.2)]
    rw [u_X9_house, dn_eq, dn_eq, dn_eq, d8 S a, d8 S b, d8 S c, z, z2, z3, if_pos rfl, if_pos rfl, if_pos rfl, ← hK]
    show (if a < nI 0 then lX9_house_44 F K 375 a b c p f S else if a = b then some (S, -1) else if a = c then some (S, -1) else lX9_house_44 F K 375 a b c p f S) = _
    simp only [p5, hH]
    by_cases y0 : a = -1
    · rw [if_pos y0]
      by_cases y3 : ¬ b = -1 ∧ b = c
      · rw [if_pos y3, if_pos (Or.inr (Or.inr y3))]
      · rw [if_neg y3, if_neg (show ¬ ((¬ a = -1 ∧ a = b) ∨ (¬ a = -1 ∧ a = c) ∨ (¬ b = -1 ∧ b = c)) from fun h => by rcases h with h | h | h; exact h.1 y0; exact h.1 y0; exact y3 h)]
    · rw [if_neg y0]
      by_cases y1 : a = b
      · rw [if_pos y1, if_pos (Or.inl ⟨y0, y1⟩)]
      · rw [if_neg y1]
        by_cases y2 : a = c
        · rw [if_pos y2, if_pos (Or.inr (Or.inl ⟨y0, y2⟩))]
        · rw [if_neg y2]
          by_cases y3 : ¬ b = -1 ∧ b = c
          · rw [if_pos y3, if_pos (Or.inr (Or.inr y3))]
          · rw [if_neg y3, if_neg (show ¬ ((¬ a = -1 ∧ a = b) ∨ (¬ a = -1 ∧ a = c) ∨ (¬ b = -1 ∧ b = c)) from fun h => by rcases h with h | h | h; exact y1 h.2; exact y2 h.2; exact y3 h)]
  by_cases y : (¬ a = -1 ∧ a = b) ∨ (¬ a = -1 ∧ a = c) ∨ (¬ b = -1 ∧ b = c)
  · exact nop (fun S hS => by rw [h8, if_pos y]) (fun S hS => by rw [h9 S hS, if_pos y])
  rcases win_c (S := S0) p 0 9999 (by omega) (by omega) with x1 | ⟨pp, -, hp, rfl, x1⟩
  · exact nop (fun S hS => by rw [h8, if_neg y, x1]; rfl) (fun S hS => by rw [h9 S hS, if_neg y, x1]; rfl)
  rcases win_c (S := S0) f 0 99 (by omega) (by omega) with x2 | ⟨ff, -, hf, rfl, x2⟩
  · exact nop (fun S hS => by rw [h8, if_neg y, x1, x2]; rfl) (fun S hS => by rw [h9 S hS, if_neg y, x1, x2]; rfl)
  by_cases y7 : T 0 0 = 7
  · exact nop (fun S hS => by rw [h8, if_neg y, x1, x2, if_pos rfl, if_pos rfl, u_X6_settle, show S.1 41 5 = nI (T 0 0) from hS.1.1, y7, if_neg (by decide), bd_s]) (fun S hS => by rw [h9 S hS, if_neg y, x1, x2, if_pos rfl, if_pos rfl, y7, if_pos rfl])
  · have hm := or_lt20 (or_lt20 p3 q3) r3
    have hm3 : pcf 20 (bo a ||| bo b ||| bo c) ≤ 3 := by
      have := pcf_or (bo a ||| bo b) (bo c)
      have := pcf_or (bo a) (bo b)
      omega
    refine ⟨hsT T (bo a ||| bo b ||| bo c) pp ff, P, hsN T N (bo a ||| bo b ||| bo c) pp ff, nI (T 0 0), fun S hS _ => ?_, fun S hS _ => ?_, hs_WV hV (by omega) hm hm3 hp hf, rfl, rfl, Or.inr ⟨T 0 0, (by omega), rfl⟩⟩
    · obtain ⟨S1, u1, c1, f1⟩ := x6_settle (F := F) (m := bo a ||| bo b ||| bo c) (p := pp) (f := ff) hS hV (by omega)
      refine ⟨S1, ?_, c1, f1⟩
      show f_X8_house F S 0 a b c (nI pp) (nI ff) = _
      rw [h8, if_neg y, x1, x2, if_pos rfl, if_pos rfl, u1, bd_s]
    · obtain ⟨S2, u2, c2, f2⟩ := x9_h137 (F := F) (m := bo a ||| bo b ||| bo c) (p := pp) (f := ff) (a1 := a) (a2 := b) (a3 := c) (s0 := nI (bo c)) (s1 := nI (bo a ||| bo b)) hF hS hV (by omega) (fa_or _ _)
      refine ⟨S2, ?_, c2, f2⟩
      show f_X9_house F S 375 a b c (nI pp) (nI ff) = _
      rw [h9 S hS, if_neg y, x1, x2, if_pos rfl, if_pos rfl, if_neg (fun w => y7 ((nI_eq (by omega) (by omega)).mp w)), u2]
theorem st_house : ∀ S, Inv S → ∀ a1 a2 a3 a4 a5, Step μX8_house μX9_house Inv S [.int a1, .int a2, .int a3, .int a4, .int a5] := by
  intro S hI a b c p f
  obtain ⟨T, P, N, T1, P1, N1, E, hI⟩ := hI
  obtain ⟨F, hF⟩ := big_F
  obtain ⟨S1, S2, r, h1, h2, h3⟩ := (sim_house (F := F) (by omega) hI.2.2.1 a b c p f).run hI
  exact stepW (S1 := S1) (S2 := S2) (r := r) (c_X8_house k_0 h1) (c_X9_house k_375 h2) h3 (by decide) (by decide)
