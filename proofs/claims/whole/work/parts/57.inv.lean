/-! ===== the invariant ===== -/
def rul (r : Nat) : Int32 := if r = 0 then -1 else nI (r - 1)
/-- the reference's j-th step holds the town U -/
def RS (S : mS) (c j : Nat) (U : Tw) : Prop := S.1 c (108 + 72 * j) = nI (U 0 0) ∧ S.1 c (108 + 72 * j + 1) = nI (U 0 2) ∧ S.1 c (108 + 72 * j + 2) = nI (U 0 3) ∧ S.1 c (108 + 72 * j + 3) = nI (U 0 4) ∧ (∀ h, h < U 0 0 → S.1 c (108 + 72 * j + 4 + 4 * h) = nI (U 1 h) ∧ S.1 c (108 + 72 * j + 4 + 4 * h + 1) = nI (U 2 h) ∧ S.1 c (108 + 72 * j + 4 + 4 * h + 2) = nI (U 3 h) ∧ S.1 c (108 + 72 * j + 4 + 4 * h + 3) = nI (if (U 0 1).testBit h then 1 else 0)) ∧ (∀ k, k < U 0 4 → S.1 c (108 + 72 * j + 32 + k) = nI (U 4 k))
/-- N 0: steps, the eldest's place, texts, seen, gossip, ruling (0: none, else its number and 1); N 1, 2, 3: seen; N 4, 5: gossip; N 6, 7, 8: as told -/
def CW (S : mS) (w : Nat) (T : Tw) (P : Nat → Tw) (N : Tw) : Prop := CT S (w + 1) T ∧ (∀ j, j < N 0 0 → CT S (w + 12 + 5 * ((N 0 1 + j) % 30)) (P j)) ∧ (∀ i, i < 30 → ∃ n, n ≤ 7 ∧ S.1 (w + 12 + 5 * i) 5 = nI n) ∧ (S.1 w 2 = nI (N 0 1) ∧ S.1 w 3 = nI (N 0 0) ∧ S.1 w 4 = nI (N 0 2) ∧ S.1 w 5 = rul (N 0 5) ∧ S.1 w 9 = nI (N 0 3) ∧ S.1 w 12 = nI (N 0 4)) ∧ (∀ k, k < N 0 3 → S.1 (w + 7) k = nI (N 1 k) ∧ S.1 (w + 8) k = nI (N 2 k) ∧ S.1 (w + 9) k = nI (N 3 k)) ∧ (∀ k, k < N 0 4 → S.1 (w + 10) k = nI (N 4 k) ∧ S.1 (w + 11) k = nI (N 5 k))
def RW (S : mS) (c : Nat) (T : Tw) (P : Nat → Tw) (N : Tw) : Prop := RT S c T ∧ (∀ j, j < N 0 0 → RS S c j (P j)) ∧ (S.1 c 1 = nI (N 0 2) ∧ S.1 c 2 = rul (N 0 5) ∧ S.1 c 3 = nI (N 0 0) ∧ S.1 c 4 = nI (N 0 3) ∧ S.1 c 5 = nI (N 0 4)) ∧ (∀ k, k < N 0 3 → S.1 c (68 + 3 * k) = nI (N 1 k) ∧ S.1 c (68 + 3 * k + 1) = nI (N 2 k) ∧ S.1 c (68 + 3 * k + 2) = nI (N 3 k)) ∧ (∀ k, k < N 0 4 → S.1 c (92 + 2 * k) = nI (N 4 k) ∧ S.1 c (92 + 2 * k + 1) = nI (N 5 k)) ∧ (∀ h, h < T 0 0 → S.1 c (12 + 8 * h + 4) = nI (N 6 h) ∧ S.1 c (12 + 8 * h + 5) = nI (N 7 h) ∧ S.1 c (12 + 8 * h + 6) = nI (N 8 h))
def nxt (T : Tw) (P : Nat → Tw) (c j : Nat) : Tw := if j + 1 < c then P (j + 1) else T
def AsTold (U V N : Tw) : Prop := U 0 0 ≤ V 0 0 ∧ ∀ h, U 0 0 ≤ h → h < V 0 0 → V 1 h = N 6 h ∧ V 2 h = N 7 h ∧ V 3 h = N 8 h
def WV (T : Tw) (P : Nat → Tw) (N : Tw) : Prop := Wf T ∧ (∀ j, j < N 0 0 → Wf (P j)) ∧ (N 0 0 ≤ 30 ∧ N 0 1 < 30 ∧ N 0 2 ≤ 4 ∧ N 0 5 ≤ N 0 2 ∧ N 0 3 ≤ 8 ∧ N 0 4 ≤ 8) ∧ (∀ k, k < N 0 3 → N 1 k < 7 ∧ N 2 k < 20 ∧ N 3 k < 2) ∧ (∀ k, k < N 0 4 → N 4 k < 7 ∧ N 5 k < 7) ∧ (∀ j, j < N 0 0 → AsTold (P j) (nxt T P (N 0 0) j) N)
/-- words of a law's code: what the reference has for the class's word -/
def rOp (w : Nat) : Nat := if w < 10000 then 0 else if w = 10038 then 2 else if w = 10007 then 3 else if w = 10008 then 4 else if w = 10009 then 5 else if w = 10010 then 6 else if w = 10037 then 7 else if w = 10003 then 10 else if w = 10014 then 11 else if w = 10004 then 12 else if w = 10015 then 13 else if w = 10005 then 14 else if w = 10006 then 15 else if w = 10036 then 16 else if w = 10035 then 20 else if w = 10034 then 21 else if w = 10033 then 22 else 1
def rVal (w : Nat) : Nat := if w < 10000 then w else if 10016 ≤ w ∧ w < 10024 then w - 10016 else 0
/-- how many truths and numbers lie on the piles behind a word -/
def tyw (w : Nat) (s : Nat × Nat) : Option (Nat × Nat) :=
  if w < 10000 ∨ (10016 ≤ w ∧ w < 10024) then some (s.1, s.2 + 1)
  else if w = 10038 then (if 1 ≤ s.2 then some s else none)
  else if (10007 ≤ w ∧ w ≤ 10010) ∨ w = 10037 then (if 2 ≤ s.2 then some (s.1, s.2 - 1) else none)
  else if (10003 ≤ w ∧ w ≤ 10006) ∨ w = 10014 ∨ w = 10015 ∨ w = 10036 then (if s.2 = 2 then some (s.1 + 1, 0) else none)
  else if w = 10035 then (if 1 ≤ s.1 ∧ s.2 = 0 then some s else none)
  else if w = 10033 ∨ w = 10034 then (if 2 ≤ s.1 ∧ s.2 = 0 then some (s.1 - 1, 0) else none)
  else none
/-- the words from i on, m of them -/
def tyr (K : Nat → Nat) : Nat → Nat → Nat × Nat → Option (Nat × Nat)
  | 0, _, s => some s
  | m + 1, i, s => (tyw (K i) s).bind (tyr K m (i + 1))
/-- the class's kinds of clauses by the reference's sorts -/
def kdS (s : Nat) : Nat := if s < 3 then 24 + s else if s = 3 then 18 else if s = 8 then 16 else 23 + s
/-- E 0: clauses; E 1: sorts; E 2, 3, 4: their numbers; E 5: code; E 6, 7: where a law's code begins, ends -/
def TR (S : mS) (i : Nat) (E : Tw) : Prop := E 0 0 ≤ 24 ∧ S.1 (12 + 5 * i) 5 = nI (E 0 0) ∧ S.1 378 (705 * i) = nI (E 0 0) ∧ (∀ c, c < E 0 0 → E 1 c < 9 ∧ S.1 (12 + 5 * i + 4) (4 * c) = nI (kdS (E 1 c)) ∧ S.1 378 (705 * i + 1 + 4 * c) = nI (E 1 c))
  ∧ (∀ c, c < E 0 0 → 3 ≤ E 1 c → S.1 (12 + 5 * i + 4) (4 * c + 1) = nI (E 2 c) ∧ S.1 378 (705 * i + 1 + 4 * c + 1) = nI (E 2 c) ∧ E 2 c < 10000 ∧ (E 1 c = 3 → E 2 c < 20) ∧ (E 1 c = 4 → E 2 c < 7) ∧ (E 1 c = 5 → E 2 c < 7) ∧ (E 1 c = 6 → E 2 c < 7) ∧ (E 1 c = 7 → E 2 c < 20) ∧ (E 1 c = 8 → 1 ≤ E 2 c ∧ E 2 c ≤ 60))
  ∧ (∀ c, c < E 0 0 → E 1 c = 3 ∨ E 1 c = 5 ∨ E 1 c = 7 → S.1 (12 + 5 * i + 4) (4 * c + 2) = nI (E 3 c) ∧ S.1 378 (705 * i + 1 + 4 * c + 2) = nI (E 3 c) ∧ E 3 c < 10000 ∧ (E 1 c ≠ 3 → E 3 c < 7))
  ∧ (∀ c, c < E 0 0 → E 1 c = 3 → S.1 (12 + 5 * i + 4) (4 * c + 3) = nI (E 4 c) ∧ S.1 378 (705 * i + 1 + 4 * c + 3) = nI (E 4 c) ∧ E 4 c < 100)
  ∧ (∀ l, l < 3 → S.1 (12 + 5 * i + 2) l = nI (E 6 l) ∧ S.1 (12 + 5 * i + 3) l = nI (E 7 l) ∧ E 7 l ≤ 300 ∧ E 6 l ≤ 300)
  ∧ (∀ c, c < E 0 0 → E 1 c < 3 → E 6 (E 1 c) < E 7 (E 1 c) ∧ S.1 378 (705 * i + 1 + 4 * c + 1) = nI (E 6 (E 1 c)) ∧ S.1 378 (705 * i + 1 + 4 * c + 2) = nI (E 7 (E 1 c)))
  ∧ (∀ l, l < 3 → E 6 l < E 7 l → (∃ c, c < E 0 0 ∧ E 1 c = l) ∧ tyr (E 5) (E 7 l - E 6 l) (E 6 l) (0, 0) = some (if l = 2 then (1, 0) else (0, 1)))
  ∧ (∀ p, p < 300 → (∃ l, l < 3 ∧ E 6 l ≤ p ∧ p < E 7 l) → S.1 (12 + 5 * i + 1) p = nI (E 5 p) ∧ E 5 p < 10039 ∧ S.1 378 (705 * i + 97 + 2 * p) = nI (rOp (E 5 p)) ∧ S.1 378 (705 * i + 97 + 2 * p + 1) = nI (rVal (E 5 p)))
/-- the tape, the latest fault, the class's text without laws -/
def TF (S : mS) : Prop := (∃ L, L ≤ 300 ∧ S.1 0 1 = nI L ∧ S.1 375 4 = nI L ∧ ∀ k, k < L → ∃ b, b < 256 ∧ S.1 1 k = nI b ∧ S.1 379 k = nI b) ∧ ((S.1 0 2 = nI 0 ∧ S.1 375 5 = -1 ∧ S.1 375 6 = -1) ∨ (S.1 0 2 = nI 1 ∧ S.1 2 1 = S.1 375 5 ∧ S.1 2 2 = S.1 375 6)) ∧ (∀ l, l < 3 → S.1 34 l = nI 0 ∧ S.1 35 l = nI 0)
def InvW (S : mS) (T : Tw) (P : Nat → Tw) (N : Tw) (T1 : Tw) (P1 : Nat → Tw) (N1 : Tw) (E : Nat → Tw) : Prop := CW S 40 T P N ∧ RW S 376 T P N ∧ WV T P N ∧ CW S 202 T1 P1 N1 ∧ RW S 377 T1 P1 N1 ∧ WV T1 P1 N1 ∧ N1 0 2 ≤ N 0 2 ∧ (∀ i, i < N 0 2 → TR S i (E i)) ∧ TF S
def Inv (S : mS) : Prop := ∃ (T : Tw) (P : Nat → Tw) (N : Tw) (T1 : Tw) (P1 : Nat → Tw) (N1 : Tw) (E : Nat → Tw), InvW S T P N T1 P1 N1 E
/-- what counts of a state -/
def cor (u k : Nat) : Prop := u ≤ 36 ∨ (40 ≤ u ∧ u ≤ 363) ∨ (376 ≤ u ∧ u ≤ 379) ∨ (u = 375 ∧ 4 ≤ k ∧ k ≤ 6)
theorem CT.fr {S S' : mS} {t : Nat} {T : Tw} (h : CT S t T) (e : ∀ u k, t ≤ u → u ≤ t + 4 → S'.1 u k = S.1 u k) : CT S' t T := by
  obtain ⟨h1, h2, h3, h4, h5, h6, h7, h8, h9⟩ := h
  refine ⟨?_, ?_, ?_, ?_, ?_, fun i hi => ?_, fun i hi => ?_, fun i hi => ?_, fun i hi => ?_⟩ <;> rw [e _ _ (by omega) (by omega)]
  · exact h1
  · exact h2
  · exact h3
  · exact h4
  · exact h5
  · exact h6 i hi
  · exact h7 i hi
  · exact h8 i hi
  · exact h9 i hi
theorem RT.fr {S S' : mS} {c : Nat} {T : Tw} (h : RT S c T) (e : ∀ k, S'.1 c k = S.1 c k) : RT S' c T := by
  obtain ⟨h1, h2, h3, h4, h5, h6, h7, h8, h9⟩ := h
  refine ⟨?_, ?_, ?_, ?_, fun i hi => ?_, fun i hi => ?_, fun i hi => ?_, fun i hi => ?_, fun i hi => ?_⟩ <;> rw [e]
  · exact h1
  · exact h2
  · exact h3
  · exact h4
  · exact h5 i hi
  · exact h6 i hi
  · exact h7 i hi
  · exact h8 i hi
  · exact h9 i hi
theorem RS.fr {S S' : mS} {c j : Nat} {T : Tw} (h : RS S c j T) (e : ∀ k, S'.1 c k = S.1 c k) : RS S' c j T := by
  unfold RS at *
  simp only [e]
  exact h
theorem RW.fr {S S' : mS} {c : Nat} {T : Tw} {P : Nat → Tw} {N : Tw} (h : RW S c T P N) (e : ∀ k, S'.1 c k = S.1 c k) : RW S' c T P N := by
  obtain ⟨h1, h2, h3⟩ := h
  refine ⟨h1.fr e, fun j hj => (h2 j hj).fr e, ?_⟩
  simp only [e]
  exact h3
theorem CW.fr {S S' : mS} {w : Nat} {T : Tw} {P : Nat → Tw} {N : Tw} (h : CW S w T P N) (e : ∀ u k, w ≤ u → u ≤ w + 161 → S'.1 u k = S.1 u k) : CW S' w T P N := by
  obtain ⟨h1, h2, h3, ⟨h4, h5, h6, h7, h8, h9⟩, h10, h11⟩ := h
  refine ⟨h1.fr (fun u k a b => e u k (by omega) (by omega)), fun j hj => (h2 j hj).fr (fun u k a b => e u k (by omega) (by omega)), fun i hi => ?_, ⟨?_, ?_, ?_, ?_, ?_, ?_⟩, fun k hk => ?_, fun k hk => ?_⟩
  · rw [e _ _ (by omega) (by omega)]; exact h3 i hi
  · rw [e _ _ (by omega) (by omega)]; exact h4
  · rw [e _ _ (by omega) (by omega)]; exact h5
  · rw [e _ _ (by omega) (by omega)]; exact h6
  · rw [e _ _ (by omega) (by omega)]; exact h7
  · rw [e _ _ (by omega) (by omega)]; exact h8
  · rw [e _ _ (by omega) (by omega)]; exact h9
  · rw [e _ _ (by omega) (by omega), e _ _ (by omega) (by omega), e _ _ (by omega) (by omega)]; exact h10 k hk
  · rw [e _ _ (by omega) (by omega), e _ _ (by omega) (by omega)]; exact h11 k hk
theorem TR.fr {S S' : mS} {i : Nat} {E : Tw} (hi : i < 4) (h : TR S i E) (e : ∀ u k, 12 ≤ u → u ≤ 31 → S'.1 u k = S.1 u k) (e2 : ∀ k, S'.1 378 k = S.1 378 k) : TR S' i E := by
  have a0 : ∀ k, S'.1 (12 + 5 * i) k = S.1 (12 + 5 * i) k := fun k => e _ _ (by omega) (by omega)
  have a1 : ∀ k, S'.1 (12 + 5 * i + 1) k = S.1 (12 + 5 * i + 1) k := fun k => e _ _ (by omega) (by omega)
  have a2 : ∀ k, S'.1 (12 + 5 * i + 2) k = S.1 (12 + 5 * i + 2) k := fun k => e _ _ (by omega) (by omega)
  have a3 : ∀ k, S'.1 (12 + 5 * i + 3) k = S.1 (12 + 5 * i + 3) k := fun k => e _ _ (by omega) (by omega)
  have a4 : ∀ k, S'.1 (12 + 5 * i + 4) k = S.1 (12 + 5 * i + 4) k := fun k => e _ _ (by omega) (by omega)
  unfold TR at *
  simp only [a0, a1, a2, a3, a4, e2]
  exact h
theorem TF.fr {S S' : mS} (h : TF S) (e : ∀ u k, cor u k → S'.1 u k = S.1 u k) : TF S' := by
  have a0 : ∀ u k, u ≤ 36 → S'.1 u k = S.1 u k := fun u k hu => e _ _ (Or.inl hu)
  have a1 : ∀ k, S'.1 379 k = S.1 379 k := fun k => e _ _ (Or.inr (Or.inr (Or.inl (by omega))))
  unfold TF at *
  rw [a0 0 1 (by omega), a0 0 2 (by omega), a0 2 1 (by omega), a0 2 2 (by omega), e 375 4 (by unfold cor; omega), e 375 5 (by unfold cor; omega), e 375 6 (by unfold cor; omega)]
  have b1 : ∀ k, S'.1 1 k = S.1 1 k := fun k => a0 1 k (by omega)
  have b2 : ∀ k, S'.1 34 k = S.1 34 k := fun k => a0 34 k (by omega)
  have b3 : ∀ k, S'.1 35 k = S.1 35 k := fun k => a0 35 k (by omega)
  simp only [a1, b1, b2, b3]
  exact h
theorem Inv.fr {S S' : mS} (h : Inv S) (e : ∀ u k, cor u k → S'.1 u k = S.1 u k) : Inv S' := by
  obtain ⟨T, P, N, T1, P1, N1, E, h1, h2, h3, h4, h5, h6, h7, h8, h9⟩ := h
  have x2 := h3.2.2.1
  exact ⟨T, P, N, T1, P1, N1, E, h1.fr (fun u k a b => e u k (by unfold cor; omega)), h2.fr (fun k => e _ _ (by unfold cor; omega)), h3, h4.fr (fun u k a b => e u k (by unfold cor; omega)), h5.fr (fun k => e _ _ (by unfold cor; omega)), h6, h7, fun i hi => (h8 i hi).fr (by omega) (fun u k a b => e u k (by unfold cor; omega)) (fun k => e _ _ (by unfold cor; omega)), h9.fr e⟩
/-- what readers need -/
theorem Inv.t {S : mS} (h : Inv S) : ∃ T P N, CW S 40 T P N ∧ RW S 376 T P N ∧ WV T P N ∧ CT S 41 T ∧ RT S 376 T ∧ Wf T := by
  obtain ⟨T, P, N, T1, P1, N1, E, h1, h2, h3, -⟩ := h
  exact ⟨T, P, N, h1, h2, h3, h1.1, h2.1, h3.1⟩
/-- a step of which neither side writes what counts -/
theorem stepS {μ1 μ2 : mM} {d1 d2 : Nat} {S S1 S2 : mS} {as : List Value} {r : Int32} (hI : Inv S) (h1 : mCt μ1 d1 0 0 E0 S (.ref 0 :: as) (mQe S1 (some (.int r)))) (h2 : mCt μ2 d2 0 0 E0 S1 (.ref 375 :: as) (mQe S2 (some (.int r)))) (e1 : ∀ u k, cor u k → S1.1 u k = S.1 u k) (e2 : ∀ u k, cor u k → S2.1 u k = S1.1 u k) (l1 : d1 ≤ 200) (l2 : d2 ≤ 200) : Step μ1 μ2 Inv S as := stepW h1 h2 (hI.fr (fun u k c => (e2 u k c).trans (e1 u k c))) l1 l2
