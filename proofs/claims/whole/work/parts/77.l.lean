/-! ===== laws: all words ===== -/
def arw (w : Nat) : Prop := (10007 ≤ w ∧ w ≤ 10010) ∨ w = 10037
def rlw (w : Nat) : Prop := (10003 ≤ w ∧ w ≤ 10006) ∨ w = 10014 ∨ w = 10015 ∨ w = 10036
theorem tyw_c {w t n : Nat} {s : Nat × Nat} (h : tyw w (t, n) = some s) : (w < 10000 ∧ s = (t, n + 1)) ∨ ((10016 ≤ w ∧ w < 10024) ∧ s = (t, n + 1)) ∨ (w = 10038 ∧ 1 ≤ n ∧ s = (t, n)) ∨ (arw w ∧ 2 ≤ n ∧ s = (t, n - 1)) ∨ (rlw w ∧ n = 2 ∧ s = (t + 1, 0)) ∨ (w = 10035 ∧ 1 ≤ t ∧ n = 0 ∧ s = (t, n)) ∨ ((w = 10033 ∨ w = 10034) ∧ 2 ≤ t ∧ n = 0 ∧ s = (t - 1, 0)) := by
  unfold tyw at h
  by_cases c1 : w < 10000 ∨ (10016 ≤ w ∧ w < 10024)
  · rw [if_pos c1] at h
    have h' := (Option.some.inj h).symm
    rcases c1 with c1 | c1
    · exact Or.inl ⟨c1, h'⟩
    · exact Or.inr (Or.inl ⟨c1, h'⟩)
  rw [if_neg c1] at h
  by_cases c2 : w = 10038
  · rw [if_pos c2] at h
    by_cases d : 1 ≤ n
    · rw [if_pos d] at h
      exact Or.inr (Or.inr (Or.inl ⟨c2, d, (Option.some.inj h).symm⟩))
    · rw [if_neg d] at h; exact absurd h (by simp)
  rw [if_neg c2] at h
  by_cases c3 : (10007 ≤ w ∧ w ≤ 10010) ∨ w = 10037
  · rw [if_pos c3] at h
    by_cases d : 2 ≤ n
    · rw [if_pos d] at h
      exact Or.inr (Or.inr (Or.inr (Or.inl ⟨c3, d, (Option.some.inj h).symm⟩)))
    · rw [if_neg d] at h; exact absurd h (by simp)
  rw [if_neg c3] at h
  by_cases c4 : (10003 ≤ w ∧ w ≤ 10006) ∨ w = 10014 ∨ w = 10015 ∨ w = 10036
  · rw [if_pos c4] at h
    by_cases d : n = 2
    · rw [if_pos d] at h
      exact Or.inr (Or.inr (Or.inr (Or.inr (Or.inl ⟨c4, d, (Option.some.inj h).symm⟩))))
    · rw [if_neg d] at h; exact absurd h (by simp)
  rw [if_neg c4] at h
  by_cases c5 : w = 10035
  · rw [if_pos c5] at h
    by_cases d : 1 ≤ t ∧ n = 0
    · rw [if_pos d] at h
      exact Or.inr (Or.inr (Or.inr (Or.inr (Or.inr (Or.inl ⟨c5, d.1, d.2, (Option.some.inj h).symm⟩)))))
    · rw [if_neg d] at h; exact absurd h (by simp)
  rw [if_neg c5] at h
  by_cases c6 : w = 10033 ∨ w = 10034
  · rw [if_pos c6] at h
    by_cases d : 2 ≤ t ∧ n = 0
    · rw [if_pos d] at h
      exact Or.inr (Or.inr (Or.inr (Or.inr (Or.inr (Or.inr ⟨c6, d.1, d.2, (Option.some.inj h).symm⟩)))))
    · rw [if_neg d] at h; exact absurd h (by simp)
  rw [if_neg c6] at h
  exact absurd h (by simp)
section
variable {nm : Nat → Nat} {w : Nat} {ns r : List Int} {ts u : List Bool} {z a b : Int} {p q : Bool}
theorem evw_num (h : w < 10000) : evw nm w ns ts = ((w : Int) :: ns, ts) := if_pos h
theorem evw_nam (h : 10016 ≤ w ∧ w < 10024) : evw nm w ns ts = ((nm (w - 10016) : Int) :: ns, ts) := by
  unfold evw
  rw [if_neg (by omega), if_pos h]
theorem evw_neg : evw nm 10038 (z :: r) ts = (-z :: r, ts) := by
  unfold evw
  rw [if_neg (by decide), if_neg (by decide), if_pos rfl]
theorem evw_two (h : arw w) : evw nm w (b :: a :: r) ts = (ev2 w a b :: r, ts) := by
  unfold arw at h
  unfold evw
  rw [if_neg (by omega), if_neg (by omega), if_neg (by omega), if_pos h]
theorem evw_rel (h : rlw w) : evw nm w (b :: a :: r) ts = (r, evr w a b :: ts) := by
  unfold rlw at h
  unfold evw
  rw [if_neg (by omega), if_neg (by omega), if_neg (by omega), if_neg (by omega), if_pos h]
theorem evw_not : evw nm 10035 ns (p :: u) = (ns, (!p) :: u) := by
  unfold evw
  rw [if_neg (by decide), if_neg (by decide), if_neg (by decide), if_neg (by decide), if_neg (by decide), if_pos rfl]
theorem evw_bo (h : w = 10033 ∨ w = 10034) : evw nm w ns (q :: p :: u) = (ns, (if w = 10034 then p && q else p || q) :: u) := by
  unfold evw
  rw [if_neg (by omega), if_neg (by omega), if_neg (by omega), if_neg (by omega), if_neg (by omega), if_neg (by omega)]
end
/-- the words' reach: numbers and truths as s says -/
def ln2 (x : List Int × List Bool) : Nat × Nat := (x.2.length, x.1.length)
section
variable {F : Nat} {S : mS} {q t i to w : Nat} {a2 a4 : Int32} {nm : Nat → Nat}
theorem v8_s (hF : 30 < F) (hi : i < to) (hto : to ≤ 300) (hc : S.1 (q + 1) i = nI w) (hw : w < 10039) (hnm : ∀ j, j < 8 → S.1 38 j = nI (nm j) ∧ nm j ≤ 1000000) {ns : List Int} {ts : List Bool} {s : Nat × Nat} (hty : tyw w (ts.length, ns.length) = some s) (hh : ts.length + ns.length ≤ i) (hok : okN ns) (hB : stB S 39 ts) (hN : stN S ts.length ns) : ∃ S', (∀ n, lX3_valueOf_105 F 37 q a2 t a4 (n + 1) S (nI to) (nI (ts.length + ns.length)) (nI i) = lX3_valueOf_105 F 37 q a2 t a4 n S' (nI to) (nI ((evw nm w ns ts).2.length + (evw nm w ns ts).1.length)) (nI (i + 1))) ∧ ln2 (evw nm w ns ts) = s ∧ (evw nm w ns ts).2.length + (evw nm w ns ts).1.length ≤ i + 1 ∧ okN (evw nm w ns ts).1 ∧ stB S' 39 (evw nm w ns ts).2 ∧ stN S' (evw nm w ns ts).2.length (evw nm w ns ts).1 ∧ ∀ u k, u ≠ 39 → S'.1 u k = S.1 u k := by
  rcases tyw_c hty with ⟨c, e⟩ | ⟨c, e⟩ | ⟨c, d, e⟩ | ⟨c, d, e⟩ | ⟨c, d, e⟩ | ⟨c, d, d2, e⟩ | ⟨c, d, d2, e⟩
  · rw [evw_num c]
    refine ⟨_, fun n => v8_num hi hto (by omega) hc c, e.symm, by show ts.length + (ns.length + 1) ≤ i + 1; omega, ⟨⟨by omega, by omega⟩, hok⟩, hB.fr (fun k hk => sq_off (by omega)), ⟨?_, hN.fr (fun k hk => sq_off (by omega))⟩, fun u k hu => sq_u hu⟩
    rw [sq_hit, iZ_n (by omega)]
  · rw [evw_nam c]
    have nj := hnm (w - 10016) (by omega)
    refine ⟨_, fun n => v8_nam hi hto (by omega) hc c, e.symm, by show ts.length + (ns.length + 1) ≤ i + 1; omega, ⟨⟨by omega, by omega⟩, hok⟩, hB.fr (fun k hk => sq_off (by omega)), ⟨?_, hN.fr (fun k hk => sq_off (by omega))⟩, fun u k hu => sq_u hu⟩
    rw [sq_hit, nj.1, iZ_n (by omega)]
  · subst c
    obtain ⟨z, r, rfl⟩ : ∃ z r, ns = z :: r := by
      cases ns with
      | nil => exact absurd d (by decide)
      | cons z r => exact ⟨z, r, rfl⟩
    rw [evw_neg]
    have hl : ts.length + (z :: r).length = ts.length + r.length + 1 := rfl
    rw [hl] at hh ⊢
    refine ⟨_, fun n => v8_neg hi hto (by omega) hc, e.symm, by show ts.length + (r.length + 1) ≤ i + 1; omega, ⟨?_, hok.2⟩, hB.fr (fun k hk => sq_off (by omega)), ⟨?_, hN.2.fr (fun k hk => sq_off (by omega))⟩, fun u k hu => sq_u hu⟩
    · have := hok.1
      unfold inR at *
      omega
    · rw [sq_hit, hN.1, iZ_neg hok.1]
  · obtain ⟨b, a, r, rfl⟩ : ∃ b a r, ns = b :: a :: r := by
      cases ns with
      | nil => exact absurd d (by decide)
      | cons b l =>
        cases l with
        | nil => exact absurd d (by simp)
        | cons a r => exact ⟨b, a, r, rfl⟩
    rw [evw_two c]
    have hl : ts.length + (b :: a :: r).length = ts.length + r.length + 2 := rfl
    rw [hl] at hh ⊢
    have x1 : S.1 39 (ts.length + r.length + 1) = iZ b := hN.1
    have x2 : S.1 39 (ts.length + r.length) = iZ a := hN.2.1
    have hj : f_X3_joined F S (nI (w - 10000)) (S.1 39 (ts.length + r.length)) (S.1 39 (ts.length + r.length + 1)) = some (iZ (ev2 w a b)) := by
      rw [x1, x2]; exact j8_ar hF hok.2.1 hok.1 c
    unfold arw at c
    refine ⟨_, fun n => v8_two hi hto (by omega) hc (by omega) hw (by omega) (by omega) (by omega) hj, e.symm, by show ts.length + (r.length + 1) ≤ i + 1; omega, ⟨ev2_R hok.2.1 hok.1, hok.2.2⟩, hB.fr (fun k hk => sq_off (by omega)), ⟨sq_hit _ _ _ _, hN.2.2.fr (fun k hk => sq_off (by omega))⟩, fun u k hu => sq_u hu⟩
  · obtain ⟨b, a, rfl⟩ : ∃ b a, ns = b :: a :: [] := by
      cases ns with
      | nil => exact absurd d (by decide)
      | cons b l =>
        cases l with
        | nil => exact absurd d (by simp)
        | cons a r =>
          cases r with
          | nil => exact ⟨b, a, rfl⟩
          | cons x y => exact absurd d (by simp)
    rw [evw_rel c]
    have hl : ts.length + (b :: a :: ([] : List Int)).length = ts.length + 2 := rfl
    rw [hl] at hh ⊢
    have x1 : S.1 39 (ts.length + 1) = iZ b := hN.1
    have x2 : S.1 39 ts.length = iZ a := hN.2.1
    have hj : f_X3_joined F S (nI (w - 10000)) (S.1 39 ts.length) (S.1 39 (ts.length + 1)) = some (bI (evr w a b)) := by
      rw [x1, x2]; exact j8_rel hok.2.1 hok.1 c
    unfold rlw at c
    exact ⟨_, fun n => v8_two hi hto (by omega) hc (by omega) hw (by omega) (by omega) (by omega) hj, e.symm, by show ts.length + 1 + 0 ≤ i + 1; omega, trivial, ⟨sq_hit _ _ _ _, hB.fr (fun k hk => sq_off (by omega))⟩, trivial, fun u k hu => sq_u hu⟩
  · subst c
    obtain rfl : ns = [] := List.length_eq_zero_iff.mp d2
    obtain ⟨p, u, rfl⟩ : ∃ p u, ts = p :: u := by
      cases ts with
      | nil => exact absurd d (by decide)
      | cons z r => exact ⟨z, r, rfl⟩
    rw [evw_not]
    have hl : (p :: u).length + ([] : List Int).length = u.length + 1 := rfl
    rw [hl] at hh ⊢
    refine ⟨_, fun n => v8_not hi hto (by omega) hc, e.symm, by show u.length + 1 + 0 ≤ i + 1; omega, trivial, ⟨?_, hB.2.fr (fun k hk => sq_off (by omega))⟩, trivial, fun u k hu => sq_u hu⟩
    rw [sq_hit, hB.1]
    cases p <;> rfl
  · obtain rfl : ns = [] := List.length_eq_zero_iff.mp d2
    obtain ⟨y, p, u, rfl⟩ : ∃ y p u, ts = y :: p :: u := by
      cases ts with
      | nil => exact absurd d (by decide)
      | cons b l =>
        cases l with
        | nil => exact absurd d (by simp)
        | cons a r => exact ⟨b, a, r, rfl⟩
    rw [evw_bo c]
    have hl : (y :: p :: u).length + ([] : List Int).length = u.length + 2 := rfl
    rw [hl] at hh ⊢
    have x1 : S.1 39 (u.length + 1) = bI y := hB.1
    have x2 : S.1 39 u.length = bI p := hB.2.1
    have hj : f_X3_joined F S (nI (w - 10000)) (S.1 39 u.length) (S.1 39 (u.length + 1)) = some (bI (if w = 10034 then p && y else p || y)) := by
      rw [x1, x2]; exact j8_bo p y c
    exact ⟨_, fun n => v8_two hi hto (by omega) hc (by omega) hw (by omega) (by omega) (by omega) hj, e.symm, by show u.length + 1 + 0 ≤ i + 1; omega, trivial, ⟨sq_hit _ _ _ _, hB.2.2.fr (fun k hk => sq_off (by omega))⟩, trivial, fun u k hu => sq_u hu⟩
theorem evs_s (nm K : Nat → Nat) (m i : Nat) (ns : List Int) (ts : List Bool) : evs nm K (m + 1) i ns ts = evs nm K m (i + 1) (evw nm (K i) ns ts).1 (evw nm (K i) ns ts).2 := rfl
theorem v8_run (hF : 30 < F) (hq : q + 1 ≠ 39) (hto : to ≤ 300) {K : Nat → Nat} (m : Nat) : ∀ (i k : Nat) {S : mS} {ns : List Int} {ts : List Bool} {s : Nat × Nat}, i + m = to → m < k → (∀ p, i ≤ p → p < to → S.1 (q + 1) p = nI (K p) ∧ K p < 10039) → (∀ j, j < 8 → S.1 38 j = nI (nm j) ∧ nm j ≤ 1000000) → tyr K m i (ts.length, ns.length) = some s → ts.length + ns.length ≤ i → okN ns → stB S 39 ts → stN S ts.length ns → ∃ S', lX3_valueOf_105 F 37 q a2 t a4 k S (nI to) (nI (ts.length + ns.length)) (nI i) = some (S', S'.1 39 0) ∧ ln2 (evs nm K m i ns ts) = s ∧ okN (evs nm K m i ns ts).1 ∧ stB S' 39 (evs nm K m i ns ts).2 ∧ stN S' (evs nm K m i ns ts).2.length (evs nm K m i ns ts).1 ∧ ∀ u k, u ≠ 39 → S'.1 u k = S.1 u k := by
  induction m with
  | zero =>
    intro i k S ns ts s hi hk hc hnm hty hh hok hB hN
    obtain ⟨k, rfl⟩ : ∃ k', k = k' + 1 := ⟨k - 1, by omega⟩
    exact ⟨S, by rw [u_X3_valueOf_105, if_pos (nI_le (by omega) (by omega)), inb_n (by omega) (by omega), ck_t, nI_clamp (by omega)], Option.some.inj hty, hok, hB, hN, fun _ _ _ => rfl⟩
  | succ m ih =>
    intro i k S ns ts s hi hk hc hnm hty hh hok hB hN
    obtain ⟨k, rfl⟩ : ∃ k', k = k' + 1 := ⟨k - 1, by omega⟩
    have hty' : (tyw (K i) (ts.length, ns.length)).bind (tyr K m (i + 1)) = some s := hty
    cases h1 : tyw (K i) (ts.length, ns.length) with
    | none => rw [h1] at hty'; exact absurd hty' (by simp)
    | some s1 =>
      rw [h1] at hty'
      have hty2 : tyr K m (i + 1) s1 = some s := hty'
      have ci := hc i (Nat.le_refl _) (by omega)
      obtain ⟨S1, u1, l1, b1, o1, B1, N1, f1⟩ := v8_s (nm := nm) (a2 := a2) (a4 := a4) (t := t) hF (show i < to by omega) hto ci.1 ci.2 hnm h1 hh hok hB hN
      rw [evs_s, u1 k]
      obtain ⟨S2, u2, l2, o2, B2, N2, f2⟩ := ih (i + 1) k (S := S1) (s := s) (by omega) (by omega) (fun p h1 h2 => by rw [f1 _ _ hq]; exact hc p (by omega) h2) (fun j hj => by rw [f1 _ _ (by decide)]; exact hnm j hj) (by
        rw [← l1] at hty2; exact hty2) b1 o1 B1 N1
      exact ⟨S2, u2, l2, o2, B2, N2, fun u k hu => (f2 u k hu).trans (f1 u k hu)⟩
end
