/-! ===== one number of a town changed; marry, forget, hat ===== -/
section
variable {S : mS} {t c : Nat} {T : Tw} {g v : Nat}
theorem CT.shut (h : CT S t T) : CT (sI S (t + 1) g (nI v)) t (tu T 1 g v) := by
  obtain ⟨h1, h2, h3, h4, h5, h6, h7, h8, h9⟩ := h
  refine ⟨by simp (disch := omega) only [sq_hit, sq_off, tu_hit, tu_off]; exact h1, by simp (disch := omega) only [sq_hit, sq_off, tu_hit, tu_off]; exact h2, by simp (disch := omega) only [sq_hit, sq_off, tu_hit, tu_off]; exact h3, by simp (disch := omega) only [sq_hit, sq_off, tu_hit, tu_off]; exact h4, by simp (disch := omega) only [sq_hit, sq_off, tu_hit, tu_off]; exact h5, fun i hi => ?_, fun i hi => ?_, fun i hi => ?_, fun i hi => ?_⟩
  · have hi' : i < T 0 0 := hi
    by_cases q : i = g
    · subst q; simp (disch := omega) only [sq_hit, sq_off, tu_hit, tu_off]
    · simp (disch := omega) only [sq_hit, sq_off, tu_hit, tu_off]; exact h6 i hi'
  · simp (disch := omega) only [sq_hit, sq_off, tu_hit, tu_off]; exact h7 i hi
  · simp (disch := omega) only [sq_hit, sq_off, tu_hit, tu_off]; exact h8 i hi
  · simp (disch := omega) only [sq_hit, sq_off, tu_hit, tu_off]; exact h9 i hi
theorem CT.purse (h : CT S t T) : CT (sI S (t + 2) g (nI v)) t (tu T 2 g v) := by
  obtain ⟨h1, h2, h3, h4, h5, h6, h7, h8, h9⟩ := h
  refine ⟨by simp (disch := omega) only [sq_hit, sq_off, tu_hit, tu_off]; exact h1, by simp (disch := omega) only [sq_hit, sq_off, tu_hit, tu_off]; exact h2, by simp (disch := omega) only [sq_hit, sq_off, tu_hit, tu_off]; exact h3, by simp (disch := omega) only [sq_hit, sq_off, tu_hit, tu_off]; exact h4, by simp (disch := omega) only [sq_hit, sq_off, tu_hit, tu_off]; exact h5, fun i hi => ?_, fun i hi => ?_, fun i hi => ?_, fun i hi => ?_⟩
  · simp (disch := omega) only [sq_hit, sq_off, tu_hit, tu_off]; exact h6 i hi
  · have hi' : i < T 0 0 := hi
    by_cases q : i = g
    · subst q; simp (disch := omega) only [sq_hit, sq_off, tu_hit, tu_off]
    · simp (disch := omega) only [sq_hit, sq_off, tu_hit, tu_off]; exact h7 i hi'
  · simp (disch := omega) only [sq_hit, sq_off, tu_hit, tu_off]; exact h8 i hi
  · simp (disch := omega) only [sq_hit, sq_off, tu_hit, tu_off]; exact h9 i hi
theorem CT.friends (h : CT S t T) : CT (sI S (t + 3) g (nI v)) t (tu T 3 g v) := by
  obtain ⟨h1, h2, h3, h4, h5, h6, h7, h8, h9⟩ := h
  refine ⟨by simp (disch := omega) only [sq_hit, sq_off, tu_hit, tu_off]; exact h1, by simp (disch := omega) only [sq_hit, sq_off, tu_hit, tu_off]; exact h2, by simp (disch := omega) only [sq_hit, sq_off, tu_hit, tu_off]; exact h3, by simp (disch := omega) only [sq_hit, sq_off, tu_hit, tu_off]; exact h4, by simp (disch := omega) only [sq_hit, sq_off, tu_hit, tu_off]; exact h5, fun i hi => ?_, fun i hi => ?_, fun i hi => ?_, fun i hi => ?_⟩
  · simp (disch := omega) only [sq_hit, sq_off, tu_hit, tu_off]; exact h6 i hi
  · simp (disch := omega) only [sq_hit, sq_off, tu_hit, tu_off]; exact h7 i hi
  · have hi' : i < T 0 0 := hi
    by_cases q : i = g
    · subst q; simp (disch := omega) only [sq_hit, sq_off, tu_hit, tu_off]
    · simp (disch := omega) only [sq_hit, sq_off, tu_hit, tu_off]; exact h8 i hi'
  · simp (disch := omega) only [sq_hit, sq_off, tu_hit, tu_off]; exact h9 i hi
theorem CT.gone (h : CT S t T) : CT (sI S t 6 (nI v)) t (tu T 0 1 v) := by
  obtain ⟨h1, h2, h3, h4, h5, h6, h7, h8, h9⟩ := h
  refine ⟨by simp (disch := omega) only [sq_hit, sq_off, tu_hit, tu_off]; exact h1, by simp (disch := omega) only [sq_hit, sq_off, tu_hit, tu_off], by simp (disch := omega) only [sq_hit, sq_off, tu_hit, tu_off]; exact h3, by simp (disch := omega) only [sq_hit, sq_off, tu_hit, tu_off]; exact h4, by simp (disch := omega) only [sq_hit, sq_off, tu_hit, tu_off]; exact h5, fun i hi => ?_, fun i hi => ?_, fun i hi => ?_, fun i hi => ?_⟩
  · simp (disch := omega) only [sq_hit, sq_off, tu_hit, tu_off]; exact h6 i hi
  · simp (disch := omega) only [sq_hit, sq_off, tu_hit, tu_off]; exact h7 i hi
  · simp (disch := omega) only [sq_hit, sq_off, tu_hit, tu_off]; exact h8 i hi
  · simp (disch := omega) only [sq_hit, sq_off, tu_hit, tu_off]; exact h9 i hi
theorem CT.day (h : CT S t T) : CT (sI S t 7 (nI v)) t (tu T 0 2 v) := by
  obtain ⟨h1, h2, h3, h4, h5, h6, h7, h8, h9⟩ := h
  refine ⟨by simp (disch := omega) only [sq_hit, sq_off, tu_hit, tu_off]; exact h1, by simp (disch := omega) only [sq_hit, sq_off, tu_hit, tu_off]; exact h2, by simp (disch := omega) only [sq_hit, sq_off, tu_hit, tu_off], by simp (disch := omega) only [sq_hit, sq_off, tu_hit, tu_off]; exact h4, by simp (disch := omega) only [sq_hit, sq_off, tu_hit, tu_off]; exact h5, fun i hi => ?_, fun i hi => ?_, fun i hi => ?_, fun i hi => ?_⟩
  · simp (disch := omega) only [sq_hit, sq_off, tu_hit, tu_off]; exact h6 i hi
  · simp (disch := omega) only [sq_hit, sq_off, tu_hit, tu_off]; exact h7 i hi
  · simp (disch := omega) only [sq_hit, sq_off, tu_hit, tu_off]; exact h8 i hi
  · simp (disch := omega) only [sq_hit, sq_off, tu_hit, tu_off]; exact h9 i hi
theorem CT.x (h : CT S t T) : CT (sI S t 8 (nI v)) t (tu T 0 3 v) := by
  obtain ⟨h1, h2, h3, h4, h5, h6, h7, h8, h9⟩ := h
  refine ⟨by simp (disch := omega) only [sq_hit, sq_off, tu_hit, tu_off]; exact h1, by simp (disch := omega) only [sq_hit, sq_off, tu_hit, tu_off]; exact h2, by simp (disch := omega) only [sq_hit, sq_off, tu_hit, tu_off]; exact h3, by simp (disch := omega) only [sq_hit, sq_off, tu_hit, tu_off], by simp (disch := omega) only [sq_hit, sq_off, tu_hit, tu_off]; exact h5, fun i hi => ?_, fun i hi => ?_, fun i hi => ?_, fun i hi => ?_⟩
  · simp (disch := omega) only [sq_hit, sq_off, tu_hit, tu_off]; exact h6 i hi
  · simp (disch := omega) only [sq_hit, sq_off, tu_hit, tu_off]; exact h7 i hi
  · simp (disch := omega) only [sq_hit, sq_off, tu_hit, tu_off]; exact h8 i hi
  · simp (disch := omega) only [sq_hit, sq_off, tu_hit, tu_off]; exact h9 i hi
theorem RT.shut (hg : g < 7) (h : RT S c T) : RT (sI S c (12 + 8 * g) (nI v)) c (tu T 1 g v) := by
  obtain ⟨h1, h2, h3, h4, h5, h6, h7, h8, h9⟩ := h
  refine ⟨by simp (disch := omega) only [sq_hit, sq_off, tu_hit, tu_off]; exact h1, by simp (disch := omega) only [sq_hit, sq_off, tu_hit, tu_off]; exact h2, by simp (disch := omega) only [sq_hit, sq_off, tu_hit, tu_off]; exact h3, by simp (disch := omega) only [sq_hit, sq_off, tu_hit, tu_off]; exact h4, fun i hi => ?_, fun i hi => ?_, fun i hi => ?_, fun i hi => ?_, fun i hi => ?_⟩
  · have hi' : i < T 0 0 := hi
    by_cases q : i = g
    · subst q; simp (disch := omega) only [sq_hit, sq_off, tu_hit, tu_off]
    · simp (disch := omega) only [sq_hit, sq_off, tu_hit, tu_off]; exact h5 i hi'
  · simp (disch := omega) only [sq_hit, sq_off, tu_hit, tu_off]; exact h6 i hi
  · simp (disch := omega) only [sq_hit, sq_off, tu_hit, tu_off]; exact h7 i hi
  · simp (disch := omega) only [sq_hit, sq_off, tu_hit, tu_off]; exact h8 i hi
  · simp (disch := omega) only [sq_hit, sq_off, tu_hit, tu_off]; exact h9 i hi
theorem RT.purse (hg : g < 7) (h : RT S c T) : RT (sI S c (12 + 8 * g + 1) (nI v)) c (tu T 2 g v) := by
  obtain ⟨h1, h2, h3, h4, h5, h6, h7, h8, h9⟩ := h
  refine ⟨by simp (disch := omega) only [sq_hit, sq_off, tu_hit, tu_off]; exact h1, by simp (disch := omega) only [sq_hit, sq_off, tu_hit, tu_off]; exact h2, by simp (disch := omega) only [sq_hit, sq_off, tu_hit, tu_off]; exact h3, by simp (disch := omega) only [sq_hit, sq_off, tu_hit, tu_off]; exact h4, fun i hi => ?_, fun i hi => ?_, fun i hi => ?_, fun i hi => ?_, fun i hi => ?_⟩
  · simp (disch := omega) only [sq_hit, sq_off, tu_hit, tu_off]; exact h5 i hi
  · have hi' : i < T 0 0 := hi
    by_cases q : i = g
    · subst q; simp (disch := omega) only [sq_hit, sq_off, tu_hit, tu_off]
    · simp (disch := omega) only [sq_hit, sq_off, tu_hit, tu_off]; exact h6 i hi'
  · simp (disch := omega) only [sq_hit, sq_off, tu_hit, tu_off]; exact h7 i hi
  · simp (disch := omega) only [sq_hit, sq_off, tu_hit, tu_off]; exact h8 i hi
  · simp (disch := omega) only [sq_hit, sq_off, tu_hit, tu_off]; exact h9 i hi
theorem RT.friends (hg : g < 7) (h : RT S c T) : RT (sI S c (12 + 8 * g + 2) (nI v)) c (tu T 3 g v) := by
  obtain ⟨h1, h2, h3, h4, h5, h6, h7, h8, h9⟩ := h
  refine ⟨by simp (disch := omega) only [sq_hit, sq_off, tu_hit, tu_off]; exact h1, by simp (disch := omega) only [sq_hit, sq_off, tu_hit, tu_off]; exact h2, by simp (disch := omega) only [sq_hit, sq_off, tu_hit, tu_off]; exact h3, by simp (disch := omega) only [sq_hit, sq_off, tu_hit, tu_off]; exact h4, fun i hi => ?_, fun i hi => ?_, fun i hi => ?_, fun i hi => ?_, fun i hi => ?_⟩
  · simp (disch := omega) only [sq_hit, sq_off, tu_hit, tu_off]; exact h5 i hi
  · simp (disch := omega) only [sq_hit, sq_off, tu_hit, tu_off]; exact h6 i hi
  · have hi' : i < T 0 0 := hi
    by_cases q : i = g
    · subst q; simp (disch := omega) only [sq_hit, sq_off, tu_hit, tu_off]
    · simp (disch := omega) only [sq_hit, sq_off, tu_hit, tu_off]; exact h7 i hi'
  · simp (disch := omega) only [sq_hit, sq_off, tu_hit, tu_off]; exact h8 i hi
  · simp (disch := omega) only [sq_hit, sq_off, tu_hit, tu_off]; exact h9 i hi
theorem RT.gone1 (hg : g < 7) (h : RT S c T) : RT (sI S c (12 + 8 * g + 3) (nI 1)) c (tu T 0 1 (T 0 1 ||| 2 ^ g)) := by
  obtain ⟨h1, h2, h3, h4, h5, h6, h7, h8, h9⟩ := h
  refine ⟨by simp (disch := omega) only [sq_hit, sq_off, tu_hit, tu_off]; exact h1, by simp (disch := omega) only [sq_hit, sq_off, tu_hit, tu_off]; exact h2, by simp (disch := omega) only [sq_hit, sq_off, tu_hit, tu_off]; exact h3, by simp (disch := omega) only [sq_hit, sq_off, tu_hit, tu_off]; exact h4, fun i hi => ?_, fun i hi => ?_, fun i hi => ?_, fun i hi => ?_, fun i hi => ?_⟩
  · simp (disch := omega) only [sq_hit, sq_off, tu_hit, tu_off]; exact h5 i hi
  · simp (disch := omega) only [sq_hit, sq_off, tu_hit, tu_off]; exact h6 i hi
  · simp (disch := omega) only [sq_hit, sq_off, tu_hit, tu_off]; exact h7 i hi
  · have hi' : i < T 0 0 := hi
    rw [tu_hit, Nat.testBit_or, Nat.testBit_two_pow]
    by_cases q : i = g
    · subst q; simp (disch := omega) only [sq_hit, sq_off, tu_hit, tu_off]
      rw [decide_true, Bool.or_true]; rfl
    · simp (disch := omega) only [sq_hit, sq_off, tu_hit, tu_off]
      rw [decide_eq_false (fun w => q w.symm), Bool.or_false]; exact h8 i hi'
  · simp (disch := omega) only [sq_hit, sq_off, tu_hit, tu_off]; exact h9 i hi
theorem RT.day (h : RT S c T) : RT (sI S c 8 (nI v)) c (tu T 0 2 v) := by
  obtain ⟨h1, h2, h3, h4, h5, h6, h7, h8, h9⟩ := h
  refine ⟨by simp (disch := omega) only [sq_hit, sq_off, tu_hit, tu_off]; exact h1, by simp (disch := omega) only [sq_hit, sq_off, tu_hit, tu_off], by simp (disch := omega) only [sq_hit, sq_off, tu_hit, tu_off]; exact h3, by simp (disch := omega) only [sq_hit, sq_off, tu_hit, tu_off]; exact h4, fun i hi => ?_, fun i hi => ?_, fun i hi => ?_, fun i hi => ?_, fun i hi => ?_⟩
  · simp (disch := omega) only [sq_hit, sq_off, tu_hit, tu_off]; exact h5 i hi
  · simp (disch := omega) only [sq_hit, sq_off, tu_hit, tu_off]; exact h6 i hi
  · simp (disch := omega) only [sq_hit, sq_off, tu_hit, tu_off]; exact h7 i hi
  · simp (disch := omega) only [sq_hit, sq_off, tu_hit, tu_off]; exact h8 i hi
  · simp (disch := omega) only [sq_hit, sq_off, tu_hit, tu_off]; exact h9 i hi
theorem RT.x (h : RT S c T) : RT (sI S c 9 (nI v)) c (tu T 0 3 v) := by
  obtain ⟨h1, h2, h3, h4, h5, h6, h7, h8, h9⟩ := h
  refine ⟨by simp (disch := omega) only [sq_hit, sq_off, tu_hit, tu_off]; exact h1, by simp (disch := omega) only [sq_hit, sq_off, tu_hit, tu_off]; exact h2, by simp (disch := omega) only [sq_hit, sq_off, tu_hit, tu_off], by simp (disch := omega) only [sq_hit, sq_off, tu_hit, tu_off]; exact h4, fun i hi => ?_, fun i hi => ?_, fun i hi => ?_, fun i hi => ?_, fun i hi => ?_⟩
  · simp (disch := omega) only [sq_hit, sq_off, tu_hit, tu_off]; exact h5 i hi
  · simp (disch := omega) only [sq_hit, sq_off, tu_hit, tu_off]; exact h6 i hi
  · simp (disch := omega) only [sq_hit, sq_off, tu_hit, tu_off]; exact h7 i hi
  · simp (disch := omega) only [sq_hit, sq_off, tu_hit, tu_off]; exact h8 i hi
  · simp (disch := omega) only [sq_hit, sq_off, tu_hit, tu_off]; exact h9 i hi
end
section
variable {T : Tw} {g v : Nat}
theorem Wf.shut (h : Wf T) (hv : v < 1048576) (h3 : pcf 20 v ≤ 3) : Wf (tu T 1 g v) := by
  obtain ⟨a0, a1, a2, a3, a4, a5, a6⟩ := h
  refine ⟨a0, a1, a2, a3, a4, fun i hi => ?_, a6⟩
  have hi' : i < T 0 0 := hi
  by_cases q : i = g
  · subst q; simp (disch := omega) only [sq_hit, sq_off, tu_hit, tu_off]; exact ⟨hv, h3, (a5 i hi').2.2⟩
  · simp (disch := omega) only [sq_hit, sq_off, tu_hit, tu_off]; exact a5 i hi'
theorem Wf.purse (h : Wf T) (hv : v ≤ 9999) : Wf (tu T 2 g v) := by
  obtain ⟨a0, a1, a2, a3, a4, a5, a6⟩ := h
  refine ⟨a0, a1, a2, a3, a4, fun i hi => ?_, a6⟩
  have hi' : i < T 0 0 := hi
  by_cases q : i = g
  · subst q; simp (disch := omega) only [sq_hit, sq_off, tu_hit, tu_off]; exact ⟨(a5 i hi').1, (a5 i hi').2.1, hv, (a5 i hi').2.2.2⟩
  · simp (disch := omega) only [sq_hit, sq_off, tu_hit, tu_off]; exact a5 i hi'
theorem Wf.friends (h : Wf T) (hv : v ≤ 99) : Wf (tu T 3 g v) := by
  obtain ⟨a0, a1, a2, a3, a4, a5, a6⟩ := h
  refine ⟨a0, a1, a2, a3, a4, fun i hi => ?_, a6⟩
  have hi' : i < T 0 0 := hi
  by_cases q : i = g
  · subst q; simp (disch := omega) only [sq_hit, sq_off, tu_hit, tu_off]; exact ⟨(a5 i hi').1, (a5 i hi').2.1, (a5 i hi').2.2.1, hv⟩
  · simp (disch := omega) only [sq_hit, sq_off, tu_hit, tu_off]; exact a5 i hi'
theorem Wf.gone (h : Wf T) (hv : v < 2 ^ T 0 0) : Wf (tu T 0 1 v) := ⟨h.1, hv, h.2.2⟩
theorem Wf.day (h : Wf T) (hv : v ≤ 9999) : Wf (tu T 0 2 v) := ⟨h.1, h.2.1, hv, h.2.2.2⟩
theorem Wf.x (h : Wf T) (hv : v < 30431) : Wf (tu T 0 3 v) := ⟨h.1, h.2.1, h.2.2.1, hv, h.2.2.2.2⟩
end
/-- what the class leaves alone as it works at its present town -/
def Ft (S S' : mS) : Prop := ∀ u k, ¬ (41 ≤ u ∧ u ≤ 45) → ¬ (37 ≤ u ∧ u ≤ 39) → S'.1 u k = S.1 u k
/-- what the reference leaves alone as it works at its town -/
def Fq (S S' : mS) : Prop := Fr S S' ∧ ∀ k, (k ≤ 7 ∨ k = 11 ∨ (68 ≤ k ∧ k < 2268) ∨ (12 ≤ k ∧ k < 68 ∧ 4 ≤ (k - 12) % 8)) → S'.1 376 k = S.1 376 k
theorem Ft.rfl' (S : mS) : Ft S S := fun _ _ _ _ => rfl
theorem Fq.rfl' (S : mS) : Fq S S := ⟨Fr.rfl' S, fun _ _ => rfl⟩
theorem Ft.trans {S S1 S2 : mS} (h : Ft S S1) (h2 : Ft S1 S2) : Ft S S2 := fun u k a b => (h2 u k a b).trans (h u k a b)
theorem Fq.trans {S S1 S2 : mS} (h : Fq S S1) (h2 : Fq S1 S2) : Fq S S2 := ⟨h.1.trans h2.1, fun k c => (h2.2 k c).trans (h.2 k c)⟩
theorem Ft.fc {S S' : mS} (h : Ft S S') : Fc S S' := fun u k c => h u k (by omega) (by omega)
theorem ft_sI {S : mS} {t k : Nat} {v : Int32} (h : (41 ≤ t ∧ t ≤ 45) ∨ (37 ≤ t ∧ t ≤ 39)) : Ft S (sI S t k v) := fun u j a b => sq_u (by omega)
theorem fq_sI {S : mS} {k : Nat} {v : Int32} (h : (8 ≤ k ∧ k ≤ 10) ∨ (12 ≤ k ∧ k < 68 ∧ (k - 12) % 8 < 4) ∨ 2268 ≤ k) : Fq S (sI S 376 k v) := ⟨fr_sI, fun j c => sq_off (by omega)⟩
theorem fq_fr {S S' : mS} (h : ∀ u k, u ≤ 379 → ¬ (u = 375 ∧ 7 ≤ k) → S'.1 u k = S.1 u k) : Fq S S' := ⟨fun u k c => h u k (by omega) (by omega), fun k c => h _ _ (by omega) (by omega)⟩
theorem CW.t {S S' : mS} {T T' : Tw} {P : Nat → Tw} {N : Tw} (hV : N 0 1 < 30) (h : CW S 40 T P N) (hc : CT S' 41 T') (f : Ft S S') : CW S' 40 T' P N := by
  obtain ⟨h1, h2, h3, ⟨h4, h5, h6, h7, h8, h9⟩, h10, h11⟩ := h
  refine ⟨hc, fun j hj => (h2 j hj).fr (fun u k a b => f _ _ (by omega) (by omega)), fun i hi => ?_, ⟨?_, ?_, ?_, ?_, ?_, ?_⟩, fun k hk => ?_, fun k hk => ?_⟩
  · rw [f _ _ (by omega) (by omega)]; exact h3 i hi
  · rw [f _ _ (by omega) (by omega)]; exact h4
  · rw [f _ _ (by omega) (by omega)]; exact h5
  · rw [f _ _ (by omega) (by omega)]; exact h6
  · rw [f _ _ (by omega) (by omega)]; exact h7
  · rw [f _ _ (by omega) (by omega)]; exact h8
  · rw [f _ _ (by omega) (by omega)]; exact h9
  · rw [f _ _ (by omega) (by omega), f _ _ (by omega) (by omega), f _ _ (by omega) (by omega)]; exact h10 k hk
  · rw [f _ _ (by omega) (by omega), f _ _ (by omega) (by omega)]; exact h11 k hk
theorem RW.t {S S' : mS} {T T' : Tw} {P : Nat → Tw} {N : Tw} (hV : WV T P N) (h : RW S 376 T P N) (hc : RT S' 376 T') (e0 : T' 0 0 = T 0 0) (f : Fq S S') : RW S' 376 T' P N := by
  obtain ⟨b0, b1, b2, b5, b3, b4⟩ := hV.2.2.1
  have w0 := hV.1.1
  obtain ⟨h1, h2, ⟨h4, h5, h6, h7, h8⟩, h10, h11, h12⟩ := h
  refine ⟨hc, fun j hj => (h2 j hj).frk (hV.2.1 j hj) (fun k a b => f.2 k (by omega)), ⟨?_, ?_, ?_, ?_, ?_⟩, fun k hk => ?_, fun k hk => ?_, fun k hk => ?_⟩
  · rw [f.2 _ (by omega)]; exact h4
  · rw [f.2 _ (by omega)]; exact h5
  · rw [f.2 _ (by omega)]; exact h6
  · rw [f.2 _ (by omega)]; exact h7
  · rw [f.2 _ (by omega)]; exact h8
  · rw [f.2 _ (by omega), f.2 _ (by omega), f.2 _ (by omega)]; exact h10 k hk
  · rw [f.2 _ (by omega), f.2 _ (by omega)]; exact h11 k hk
  · rw [e0] at hk
    rw [f.2 _ (by omega), f.2 _ (by omega), f.2 _ (by omega)]; exact h12 k hk
theorem WV.t {T T' : Tw} {P : Nat → Tw} {N : Tw} (h : WV T P N) (hW : Wf T') (e0 : T' 0 0 = T 0 0) (hp : ∀ j, j + 1 = N 0 0 → P j 0 0 = T 0 0) : WV T' P N := by
  obtain ⟨h1, h2, h3, h4, h5, h6⟩ := h
  refine ⟨hW, h2, h3, h4, h5, fun j hj => ?_⟩
  have y := h6 j hj
  unfold nxt at y ⊢
  by_cases q : j + 1 < N 0 0
  · rw [if_pos q] at y ⊢
    exact y
  · rw [if_neg q] at y ⊢
    have := hp j (by omega)
    exact ⟨by omega, fun h a b => by omega⟩
theorem kp_last {T : Tw} {P : Nat → Tw} {N : Tw} (h : N 0 0 ≤ 30) : ∀ j, j + 1 = kpN N 0 0 → kpP T P N j 0 0 = T 0 0 := fun j hj => by
  rw [kpN_0 h] at hj
  unfold kpP
  by_cases q : N 0 0 < 30
  · rw [if_pos q] at hj ⊢
    show (if j = N 0 0 then T else P j) 0 0 = _
    rw [if_pos (by omega)]
  · rw [if_neg q] at hj ⊢
    show (if j = 29 then T else P (j + 1)) 0 0 = _
    rw [if_pos (by omega)]
/-- what both do behind a kept step -/
theorem Sim.kept {α : Type} {f8 f9 g8 g9 : mS → Option (mS × α)} {F : Nat} (hF : 3000 < F) {E : Nat → Tw} {T T' : Tw} {P : Nat → Tw} {N : Tw} {r : α} {Q : Tw → (Nat → Tw) → Tw → α → Prop} (hV : WV T P N) (h8 : ∀ S, CW S 40 T P N → f8 S = bd (f_X7_keepStep F S 40) g8) (h9 : ∀ S, RW S 376 T P N → f9 S = bd (f_X9_keep F S 375) g9) (k8 : ∀ S, CW S 40 T (kpP T P N) (kpN N) → TX S E (N 0 2) → ∃ S1, g8 S = some (S1, r) ∧ CT S1 41 T' ∧ Ft S S1) (k9 : ∀ S, RW S 376 T (kpP T P N) (kpN N) → TX S E (N 0 2) → ∃ S2, g9 S = some (S2, r) ∧ RT S2 376 T' ∧ Fq S S2) (hW : Wf T') (e0 : T' 0 0 = T 0 0) (hQ : Q T' (kpP T P N) (kpN N) r) : Sim f8 f9 E T P N Q := by
  have b2 := hV.2.2.1.2.2.1
  have hk := kp_WV hV
  refine ⟨T', kpP T P N, kpN N, r, fun S hS hT => ?_, fun S hS hT => ?_, hk.t hW e0 (kp_last hV.2.2.1.1), kpN_e (by omega), kpN_e (by omega), hQ⟩
  · obtain ⟨S1, u1, c1, f1, -⟩ := x7_keep (F := F) hS hV
    obtain ⟨S2, u2, c2, f2⟩ := k8 S1 c1 (hT.fc b2 f1)
    exact ⟨S2, by rw [h8 S hS, u1, bd_s, u2], c1.t hk.2.2.1.2.1 c2 f2, f1.trans f2.fc⟩
  · obtain ⟨S1, u1, c1, f1, -⟩ := x9_keep (F := F) hF hS hV
    have f1' : Fr S S1 := fun u k c => f1 u k (by omega)
    obtain ⟨S2, u2, c2, f2⟩ := k9 S1 c1 (hT.fr' b2 f1')
    exact ⟨S2, by rw [h9 S hS, u1, bd_s, u2], c1.t hk c2 e0 f2, f1'.trans f2.1⟩
theorem cut_n (S : mS) {a t : Nat} (ha : a < 2 ^ 31) (ht : t < 2 ^ 31) : f_X9_cut S (Int32.toInt64 (nI a)) (nI 0) (nI t) = nI (min t a) := by
  rw [u_X9_cut, nI_l ha, nI_l (by omega), nI_l ht, if_neg (fun w => absurd ((pk_lLT (by omega) (by omega)).mp w) (by omega))]
  by_cases q : t < a
  · rw [if_pos ((pk_lLT (by omega) (by omega)).mpr q), Nat.min_eq_left (by omega)]
  · rw [if_neg (fun w => q ((pk_lLT (by omega) (by omega)).mp w)), Nat.min_eq_right (by omega), ← nI_l ha]
    exact Int32.toInt32_toInt64 _
