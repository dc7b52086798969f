/-! ===== frames, and the small writers: by, end, seen, gossip, feed ===== -/
/-- what the class leaves alone as it works at its present world -/
def Fc (S S' : mS) : Prop := ∀ u k, (u ≤ 36 ∨ (202 ≤ u ∧ u ≤ 363) ∨ 375 ≤ u) → S'.1 u k = S.1 u k
/-- what the reference leaves alone as it works at its present row -/
def Fr (S S' : mS) : Prop := ∀ u k, (u ≤ 374 ∨ (377 ≤ u ∧ u ≤ 379) ∨ (u = 375 ∧ 4 ≤ k ∧ k ≤ 6)) → S'.1 u k = S.1 u k
theorem Fc.rfl' (S : mS) : Fc S S := fun _ _ _ => rfl
theorem Fr.rfl' (S : mS) : Fr S S := fun _ _ _ => rfl
theorem Fc.trans {S S1 S2 : mS} (h : Fc S S1) (h2 : Fc S1 S2) : Fc S S2 := fun u k c => (h2 u k c).trans (h u k c)
theorem Fr.trans {S S1 S2 : mS} (h : Fr S S1) (h2 : Fr S1 S2) : Fr S S2 := fun u k c => (h2 u k c).trans (h u k c)
theorem InvW.next {S S1 S2 : mS} {T : Tw} {P : Nat → Tw} {N : Tw} {T1 : Tw} {P1 : Nat → Tw} {N1 : Tw} {E : Nat → Tw} {T' : Tw} {P' : Nat → Tw} {N' : Tw} (h : InvW S T P N T1 P1 N1 E) (hc : CW S1 40 T' P' N') (fc : Fc S S1) (hr : RW S2 376 T' P' N') (fr : Fr S1 S2) (hv : WV T' P' N') (ht : N' 0 2 = N 0 2) : InvW S2 T' P' N' T1 P1 N1 E := by
  obtain ⟨h1, h2, h3, h4, h5, h6, h7, h8, h9⟩ := h
  have x2 := h3.2.2.1
  have e : ∀ u k, (u ≤ 36 ∨ (202 ≤ u ∧ u ≤ 363) ∨ (377 ≤ u ∧ u ≤ 379) ∨ (u = 375 ∧ 4 ≤ k ∧ k ≤ 6)) → S2.1 u k = S.1 u k := fun u k c => (fr u k (by omega)).trans (fc u k (by omega))
  refine ⟨hc.fr (fun u k a b => fr u k (by omega)), hr, hv, h4.fr (fun u k a b => e u k (by omega)), h5.fr (fun k => e _ _ (by omega)), h6, by omega, fun i hi => (h8 i (by omega)).fr (by omega) (fun u k a b => e u k (by omega)) (fun k => e _ _ (by omega)), ?_⟩
  obtain ⟨g1, g2, g3⟩ := h9
  have a1 : ∀ k, S2.1 379 k = S.1 379 k := fun k => e _ _ (by omega)
  have b1 : ∀ k, S2.1 1 k = S.1 1 k := fun k => e 1 k (by omega)
  have b2 : ∀ k, S2.1 34 k = S.1 34 k := fun k => e 34 k (by omega)
  have b3 : ∀ k, S2.1 35 k = S.1 35 k := fun k => e 35 k (by omega)
  unfold TF
  rw [e 0 1 (by omega), e 0 2 (by omega), e 2 1 (by omega), e 2 2 (by omega), e 375 4 (by omega), e 375 5 (by omega), e 375 6 (by omega)]
  simp only [a1, b1, b2, b3]
  exact ⟨g1, g2, g3⟩
theorem InvW.inv {S : mS} {T : Tw} {P : Nat → Tw} {N : Tw} {T1 : Tw} {P1 : Nat → Tw} {N1 : Tw} {E : Nat → Tw} (h : InvW S T P N T1 P1 N1 E) : Inv S := ⟨T, P, N, T1, P1, N1, E, h⟩
/-- a number of the world changed: N with one cell put -/
def tu (N : Tw) (i j v : Nat) : Tw := fun u k => if u = i ∧ k = j then v else N u k
theorem tu_hit (N : Tw) (i j v : Nat) : tu N i j v i j = v := if_pos ⟨rfl, rfl⟩
theorem tu_off {N : Tw} {i j v u k : Nat} (h : u ≠ i ∨ k ≠ j) : tu N i j v u k = N u k := if_neg (fun q => by rcases h with h | h; exact h q.1; exact h q.2)
theorem tu_u {N : Tw} {i j v u k : Nat} (h : u ≠ i) : tu N i j v u k = N u k := tu_off (Or.inl h)
theorem tu_k {N : Tw} {i j v k : Nat} (h : k ≠ j) : tu N i j v i k = N i k := tu_off (Or.inr h)
theorem rul_0 : rul 0 = -1 := rfl
theorem rul_s (n : Nat) : rul (n + 1) = nI n := by
  unfold rul
  rw [if_neg (by omega), Nat.add_sub_cancel]
theorem RT.frk {S S' : mS} {c : Nat} {T : Tw} (hW : Wf T) (h : RT S c T) (e : ∀ k, (k = 0 ∨ (8 ≤ k ∧ k ≤ 10) ∨ (12 ≤ k ∧ k ≤ 67) ∨ 2268 ≤ k) → S'.1 c k = S.1 c k) : RT S' c T := by
  have w0 := hW.1
  obtain ⟨h1, h2, h3, h4, h5, h6, h7, h8, h9⟩ := h
  refine ⟨?_, ?_, ?_, ?_, fun i hi => ?_, fun i hi => ?_, fun i hi => ?_, fun i hi => ?_, fun i hi => ?_⟩ <;> rw [e _ (by omega)]
  · exact h1
  · exact h2
  · exact h3
  · exact h4
  · exact h5 i hi
  · exact h6 i hi
  · exact h7 i hi
  · exact h8 i hi
  · exact h9 i hi
theorem RS.frk {S S' : mS} {c j : Nat} {U : Tw} (hW : Wf U) (h : RS S c j U) (e : ∀ k, 108 + 72 * j ≤ k → k < 180 + 72 * j → S'.1 c k = S.1 c k) : RS S' c j U := by
  have w0 := hW.1
  have w4 := hW.2.2.2.2.1
  obtain ⟨h1, h2, h3, h4, h5, h6⟩ := h
  refine ⟨?_, ?_, ?_, ?_, fun i hi => ⟨?_, ?_, ?_, ?_⟩, fun i hi => ?_⟩ <;> rw [e _ (by omega) (by omega)]
  · exact h1
  · exact h2
  · exact h3
  · exact h4
  · exact (h5 i hi).1
  · exact (h5 i hi).2.1
  · exact (h5 i hi).2.2.1
  · exact (h5 i hi).2.2.2
  · exact h6 i hi
theorem CW.n {S S' : mS} {T : Tw} {P : Nat → Tw} {N N' : Tw} (h : CW S 40 T P N) (e0 : N' 0 0 = N 0 0) (e1 : N' 0 1 = N 0 1) (e1b : N 0 1 < 30) (e : ∀ u k, (u = 40 ∧ (k = 2 ∨ k = 3)) ∨ (41 ≤ u ∧ u ≤ 46) ∨ (52 ≤ u ∧ u ≤ 201) → S'.1 u k = S.1 u k) (s : S'.1 40 4 = nI (N' 0 2) ∧ S'.1 40 5 = rul (N' 0 5) ∧ S'.1 40 9 = nI (N' 0 3) ∧ S'.1 40 12 = nI (N' 0 4)) (s1 : ∀ k, k < N' 0 3 → S'.1 47 k = nI (N' 1 k) ∧ S'.1 48 k = nI (N' 2 k) ∧ S'.1 49 k = nI (N' 3 k)) (s2 : ∀ k, k < N' 0 4 → S'.1 50 k = nI (N' 4 k) ∧ S'.1 51 k = nI (N' 5 k)) : CW S' 40 T P N' := by
  obtain ⟨h1, h2, h3, ⟨h4, h5, h6, h7, h8, h9⟩, h10, h11⟩ := h
  refine ⟨h1.fr (fun u k a b => e u k (by omega)), fun j hj => ?_, fun i hi => ?_, ⟨?_, ?_, s.1, s.2.1, s.2.2.1, s.2.2.2⟩, s1, s2⟩
  · rw [e1]
    exact (h2 j (by omega)).fr (fun u k a b => e u k (by omega))
  · rw [e _ _ (by omega)]; exact h3 i hi
  · rw [e _ _ (by omega), e1]; exact h4
  · rw [e _ _ (by omega), e0]; exact h5
theorem RW.n {S S' : mS} {T : Tw} {P : Nat → Tw} {N N' : Tw} (h : RW S 376 T P N) (hV : WV T P N) (e0 : N' 0 0 = N 0 0) (e6 : ∀ k, N' 6 k = N 6 k ∧ N' 7 k = N 7 k ∧ N' 8 k = N 8 k) (e : ∀ k, (k = 0 ∨ k = 3 ∨ (8 ≤ k ∧ k ≤ 67) ∨ 108 ≤ k) → S'.1 376 k = S.1 376 k) (s : S'.1 376 1 = nI (N' 0 2) ∧ S'.1 376 2 = rul (N' 0 5) ∧ S'.1 376 4 = nI (N' 0 3) ∧ S'.1 376 5 = nI (N' 0 4)) (s1 : ∀ k, k < N' 0 3 → S'.1 376 (68 + 3 * k) = nI (N' 1 k) ∧ S'.1 376 (68 + 3 * k + 1) = nI (N' 2 k) ∧ S'.1 376 (68 + 3 * k + 2) = nI (N' 3 k)) (s2 : ∀ k, k < N' 0 4 → S'.1 376 (92 + 2 * k) = nI (N' 4 k) ∧ S'.1 376 (92 + 2 * k + 1) = nI (N' 5 k)) : RW S' 376 T P N' := by
  obtain ⟨h1, h2, ⟨h4, h5, h6, h7, h8⟩, h10, h11, h12⟩ := h
  have w0 := hV.1.1
  refine ⟨h1.frk hV.1 (fun k hk => e k (by omega)), fun j hj => (h2 j (by omega)).frk (hV.2.1 j (by omega)) (fun k a b => e k (by omega)), ⟨s.1, s.2.1, ?_, s.2.2.1, s.2.2.2⟩, s1, s2, fun i hi => ?_⟩
  · rw [e _ (by omega), e0]; exact h6
  · rw [e _ (by omega), e _ (by omega), e _ (by omega), (e6 i).1, (e6 i).2.1, (e6 i).2.2]; exact h12 i hi
theorem WV.n {T : Tw} {P : Nat → Tw} {N N' : Tw} (h : WV T P N) (e0 : N' 0 0 = N 0 0) (e1 : N' 0 1 = N 0 1) (e6 : ∀ k, N' 6 k = N 6 k ∧ N' 7 k = N 7 k ∧ N' 8 k = N 8 k) (b : N' 0 2 ≤ 4 ∧ N' 0 5 ≤ N' 0 2 ∧ N' 0 3 ≤ 8 ∧ N' 0 4 ≤ 8) (s1 : ∀ k, k < N' 0 3 → N' 1 k < 7 ∧ N' 2 k < 20 ∧ N' 3 k < 2) (s2 : ∀ k, k < N' 0 4 → N' 4 k < 7 ∧ N' 5 k < 7) : WV T P N' := by
  obtain ⟨h1, h2, ⟨a1, a2, a3, a4, a5, a6⟩, h4, h5, h6⟩ := h
  refine ⟨h1, fun j hj => h2 j (by omega), ⟨by omega, by omega, b.1, b.2.1, b.2.2.1, b.2.2.2⟩, s1, s2, fun j hj => ?_⟩
  rw [e0]
  have q := h6 j (by omega)
  refine ⟨q.1, fun h g1 g2 => ?_⟩
  rw [(e6 h).1, (e6 h).2.1, (e6 h).2.2]
  exact q.2 h g1 g2
/-- a world whose numbers change on both sides -/
theorem stepN {μ1 μ2 : mM} {d1 d2 : Nat} {S S1 S2 : mS} {as : List Value} {r : Int32} {T : Tw} {P : Nat → Tw} {N : Tw} {T1 : Tw} {P1 : Nat → Tw} {N1 : Tw} {E : Nat → Tw} {T' : Tw} {P' : Nat → Tw} {N' : Tw} (hI : InvW S T P N T1 P1 N1 E) (h1 : mCt μ1 d1 0 0 E0 S (.ref 0 :: as) (mQe S1 (some (.int r)))) (h2 : mCt μ2 d2 0 0 E0 S1 (.ref 375 :: as) (mQe S2 (some (.int r)))) (hc : CW S1 40 T' P' N') (fc : Fc S S1) (hr : RW S2 376 T' P' N') (fr : Fr S1 S2) (hv : WV T' P' N') (ht : N' 0 2 = N 0 2) (e1 : d1 ≤ 200) (e2 : d2 ≤ 200) : Step μ1 μ2 Inv S as := stepW h1 h2 (hI.next hc fc hr fr hv ht).inv e1 e2
theorem RW.fc {S S1 : mS} {T : Tw} {P : Nat → Tw} {N : Tw} (h : RW S 376 T P N) (fc : Fc S S1) : RW S1 376 T P N := h.fr (fun k => fc _ _ (by omega))
theorem CW.fr' {S S1 : mS} {T : Tw} {P : Nat → Tw} {N : Tw} (h : CW S 40 T P N) (fr : Fr S S1) : CW S1 40 T P N := h.fr (fun u k a b => fr u k (by omega))
theorem fc_sI {S : mS} {t k : Nat} {v : Int32} (h : (37 ≤ t ∧ t ≤ 201) ∨ (364 ≤ t ∧ t ≤ 374)) : Fc S (sI S t k v) := fun u j c => sq_u (by omega)
theorem fr_sI {S : mS} {k : Nat} {v : Int32} : Fr S (sI S 376 k v) := fun u j c => sq_u (by omega)
theorem fr_sI5 {S : mS} {k : Nat} {v : Int32} (h : 7 ≤ k) : Fr S (sI S 375 k v) := fun u j c => sq_off (by omega)
theorem fr_sI8 {S : mS} {t k : Nat} {v : Int32} (h : 380 ≤ t) : Fr S (sI S t k v) := fun u j c => sq_u (by omega)
theorem fr_sJ {S : mS} {t k : Nat} {v : Int64} : Fr S (sJ S t k v) := fun u j c => rfl
theorem st_by : ∀ S, Inv S → ∀ a1, Step μX8_by μX9_by Inv S [.int a1] := by
  intro S hI a
  obtain ⟨T, P, N, T1, P1, N1, E, hI⟩ := hI
  have hCW := hI.1
  have hRW := hI.2.1
  have hWV := hI.2.2.1
  obtain ⟨b0, b1, b2, b5, b3, b4⟩ := hWV.2.2.1
  obtain ⟨g2, g3, g4, g5, g9, g12⟩ := hCW.2.2.2.1
  obtain ⟨q1, q2, q3, q4, q5⟩ := hRW.2.2.1
  have key : ∀ r, r ≤ N 0 2 → a = rul r → f_X8_by 0 S 0 a = some (sI S 40 5 a, true) → f_X9_by 0 (sI S 40 5 a) 375 a = some (sI (sI S 40 5 a) 376 2 a, true) → Step μX8_by μX9_by Inv S [.int a] := by
    intro r hr ha h1 h2
    have fc : Fc S (sI S 40 5 a) := fc_sI (by omega)
    refine stepN (S1 := sI S 40 5 a) (S2 := sI (sI S 40 5 a) 376 2 a) (P' := P) (N' := tu N 0 5 r) hI (c_X8_by k_0 h1) (c_X9_by k_375 h2) (hCW.n rfl rfl b1 (fun u k c => sq_off (by omega)) ⟨g4, by rw [ha]; exact sq_hit _ _ _ _, g9, g12⟩ hCW.2.2.2.2.1 hCW.2.2.2.2.2) fc ((hRW.fc fc).n hWV rfl (fun k => ⟨rfl, rfl, rfl⟩) (fun k c => sq_off (by omega)) ⟨q1, by rw [ha]; exact sq_hit _ _ _ _, q4, q5⟩ (fun k hk => ?_) (fun k hk => ?_)) fr_sI (hWV.n rfl rfl (fun k => ⟨rfl, rfl, rfl⟩) ⟨b2, hr, b3, b4⟩ hWV.2.2.2.1 hWV.2.2.2.2.1) rfl (by decide) (by decide)
    · simp (disch := omega) only [sq_hit, sq_off, tu_hit, tu_off]; exact hRW.2.2.2.1 k hk
    · simp (disch := omega) only [sq_hit, sq_off, tu_hit, tu_off]; exact hRW.2.2.2.2.1 k hk
  have r1 : (sI S 40 5 a).1 376 1 = nI (N 0 2) := q1
  have e9 : f_X9_by 0 (sI S 40 5 a) 375 a = if f_X8_isWithin S a (-1) (nI (N 0 2) - nI 1) = true then some (sI (sI S 40 5 a) 376 2 a, true) else some (sI S 40 5 a, false) := by
    rw [u_X9_by, inb_n (by omega) (by omega), inb_n (by omega) (by omega), ck_t, ck_t, nI_clamp (by omega), nI_clamp (by omega), r1]
    rfl
  have e9' : f_X9_by 0 S 375 a = if f_X8_isWithin S a (-1) (nI (N 0 2) - nI 1) = true then some (sI S 376 2 a, true) else some (S, false) := by
    rw [u_X9_by, inb_n (by omega) (by omega), inb_n (by omega) (by omega), ck_t, ck_t, nI_clamp (by omega), nI_clamp (by omega), q1]
    rfl
  have e8 : f_X8_by 0 S 0 a = if a = -1 then some (sI S 40 5 a, true) else if tld (N 0 2) a = true then some (sI S 40 5 a, true) else some (S, false) := by
    rw [u_X8_by, u_X8_isText, g4, win_tld a (by omega)]
    by_cases e : a = -1
    · rw [if_pos e, if_pos e]; rfl
    · rw [if_neg e, if_neg e]
      rcases tld_c a (n := N 0 2) (by omega) with z | ⟨j, hj, rfl, z⟩
      · rw [z]; rfl
      · rw [z, if_pos rfl, if_neg (nI_ge (show j < 4 by omega) (by omega)), if_pos rfl, if_pos rfl]; rfl
  have w : f_X8_isWithin S a (-1) (nI (N 0 2) - nI 1) = (decide (a = -1) || tld (N 0 2) a) := by
    by_cases e : a = -1
    · subst e
      rw [decide_eq_true rfl, Bool.true_or, u_X8_isWithin, if_neg (by decide), if_neg]
      rw [Int32.lt_iff_toInt_lt, pk_sub_toInt (by omega) (by omega), show (-1 : Int32).toInt = -1 from by decide]
      omega
    · rw [decide_eq_false e, Bool.false_or, ← win_tld (S := S) a (show N 0 2 < 2 ^ 30 by omega), u_X8_isWithin, u_X8_isWithin]
      have : (a < -1) = (a < nI 0) := propext (by
        rw [Int32.lt_iff_toInt_lt, Int32.lt_iff_toInt_lt, show (-1 : Int32).toInt = -1 from by decide, show (nI 0).toInt = 0 from by decide]
        have : a.toInt ≠ -1 := fun h => e (Int32.toInt_inj.mp (by rw [h]; decide))
        omega)
      simp only [this]
  rw [w] at e9 e9'
  by_cases e : a = -1
  · rw [decide_eq_true e, Bool.true_or, if_pos rfl] at e9
    rw [if_pos e] at e8
    exact key 0 (by omega) (by rw [e]; rfl) e8 e9
  · rw [decide_eq_false e, Bool.false_or] at e9 e9'
    rw [if_neg e] at e8
    rcases tld_c a (n := N 0 2) (by omega) with z | ⟨j, hj, rfl, z⟩
    · rw [z, if_neg (by decide)] at e8 e9'
      exact stepR ⟨T, P, N, T1, P1, N1, E, hI⟩ (c_X8_by k_0 e8) (c_X9_by k_375 e9') (by decide) (by decide)
    · rw [z, if_pos rfl] at e8 e9
      exact key (j + 1) (by omega) (rul_s j).symm e8 e9
