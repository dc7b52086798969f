/-! ===== an object half made, in one form: its references stand once their cells stand; the array a has its first i entries ===== -/
def rfL (r : Option Nat) (n : Nat) : Option Nat := match r with
  | some q => if q < n then some q else none
  | none => none
def cE (E : mE) (a i n : Nat) : mE := (n, fun u => if E.1 ≤ u ∧ u < n then kd0 u else E.2.1 u, fun u => if E.1 ≤ u ∧ u < n then ln0 u else E.2.2.1 u, fun u k => if u = E.1 then rfL (rf0 u k) n else if u = a ∧ ¬ k < i then none else if E.1 ≤ u ∧ u < n then rf0 u k else E.2.2.2 u k)
def wS (E : mE) (S : mS) (g : Nat → Int32) (n : Nat) : mS := (fun u k => if u = E.1 then g k else if E.1 ≤ u ∧ u < n then s0 u k else S.1 u k, fun u k => if E.1 ≤ u ∧ u < n then 0 else S.2 u k)
theorem cE_0 (E : mE) {ci a : Nat} (ha : a = E.1 ∨ (∀ k, E.2.2.2 a k = none)) (h1 : kd0 E.1 = ci) (h2 : ln0 E.1 = 0) (h3 : ∀ k q, rf0 E.1 k = some q → E.1 < q) : nE E ci 0 = cE E a 0 (E.1 + 1) := by
  obtain ⟨t, kd, ln, rf⟩ := E
  refine mE_ext rfl ?_ ?_ ?_
  · intro u
    show (if u = t then ci else kd u) = (if t ≤ u ∧ u < t + 1 then kd0 u else kd u)
    by_cases hu : u = t
    · subst hu
      rw [if_pos rfl, if_pos ⟨Nat.le_refl _, Nat.lt_succ_self _⟩]
      exact h1.symm
    · rw [if_neg hu, if_neg (by omega)]
  · intro u
    show (if u = t then 0 else ln u) = (if t ≤ u ∧ u < t + 1 then ln0 u else ln u)
    by_cases hu : u = t
    · subst hu
      rw [if_pos rfl, if_pos ⟨Nat.le_refl _, Nat.lt_succ_self _⟩]
      exact h2.symm
    · rw [if_neg hu, if_neg (by omega)]
  · intro u k
    show (if u = t then none else rf u k) = (if u = t then rfL (rf0 u k) (t + 1) else if u = a ∧ ¬ k < 0 then none else if t ≤ u ∧ u < t + 1 then rf0 u k else rf u k)
    by_cases hu : u = t
    · subst hu
      rw [if_pos rfl, if_pos rfl]
      cases hr : rf0 u k with
      | none => rfl
      | some q =>
        have := h3 k q hr
        exact (if_neg (by omega)).symm
    · rw [if_neg hu, if_neg hu]
      by_cases h4 : u = a ∧ ¬ k < 0
      · rw [if_pos h4, h4.1]
        rcases ha with ha | ha
        · exact absurd (h4.1.trans ha) hu
        · exact ha k
      · rw [if_neg h4, if_neg (by omega)]
/-- cells n .. n2 - 1 have come by (each as it shall be in the end), and field k's reference n -/
theorem cE_put (E E1 : mE) {a i n n2 k : Nat} (hn : E.1 < n) (hn2 : n < n2) (hr : rf0 E.1 k = some n) (hu : ∀ k' q, rf0 E.1 k' = some q → n ≤ q → q < n2 → k' = k) (ha : a < n ∨ n2 ≤ a) (e1 : E1.1 = n2) (e2 : ∀ u, E1.2.1 u = if n ≤ u ∧ u < n2 then kd0 u else (cE E a i n).2.1 u) (e3 : ∀ u, E1.2.2.1 u = if n ≤ u ∧ u < n2 then ln0 u else (cE E a i n).2.2.1 u) (e4 : ∀ u k, E1.2.2.2 u k = if n ≤ u ∧ u < n2 then rf0 u k else (cE E a i n).2.2.2 u k) : pE E1 E.1 k n = cE E a i n2 := by
  obtain ⟨t, kd, ln, rf⟩ := E
  refine mE_ext e1 ?_ ?_ ?_
  · intro u
    show E1.2.1 u = (if t ≤ u ∧ u < n2 then kd0 u else kd u)
    rw [e2 u]
    show (if n ≤ u ∧ u < n2 then kd0 u else if t ≤ u ∧ u < n then kd0 u else kd u) = _
    have hn : t < n := hn
    repeat' split
    all_goals first | rfl | omega
  · intro u
    show E1.2.2.1 u = (if t ≤ u ∧ u < n2 then ln0 u else ln u)
    rw [e3 u]
    show (if n ≤ u ∧ u < n2 then ln0 u else if t ≤ u ∧ u < n then ln0 u else ln u) = _
    have hn : t < n := hn
    repeat' split
    all_goals first | rfl | omega
  · intro u k'
    show (if u = t ∧ k' = k then some n else E1.2.2.2 u k') = (if u = t then rfL (rf0 u k') n2 else if u = a ∧ ¬ k' < i then none else if t ≤ u ∧ u < n2 then rf0 u k' else rf u k')
    rw [e4 u k']
    show (if u = t ∧ k' = k then some n else if n ≤ u ∧ u < n2 then rf0 u k' else if u = t then rfL (rf0 u k') n else if u = a ∧ ¬ k' < i then none else if t ≤ u ∧ u < n then rf0 u k' else rf u k') = _
    have hn : t < n := hn
    by_cases h1 : u = t
    · subst h1
      have f1 : ¬ (n ≤ u ∧ u < n2) := by omega
      simp only [f1, if_false, true_and, if_true]
      by_cases h2 : k' = k
      · subst h2
        have hr : rf0 u k' = some n := hr
        rw [if_pos rfl, hr]
        exact (if_pos hn2).symm
      · rw [if_neg h2]
        cases hq : rf0 u k' with
        | none => rfl
        | some q =>
          show (if q < n then some q else none) = (if q < n2 then some q else none)
          have h3 := hu k' q hq
          by_cases h4 : q < n
          · rw [if_pos h4, if_pos (by omega)]
          · by_cases h5 : q < n2
            · exact absurd (h3 (by omega) h5) h2
            · rw [if_neg h4, if_neg h5]
    · rw [if_neg (fun q => h1 q.1), if_neg h1, if_neg h1]
      by_cases h2 : n ≤ u ∧ u < n2
      · rw [if_pos h2, if_neg (by omega), if_pos (by omega)]
      · rw [if_neg h2]
        by_cases h3 : u = a ∧ ¬ k' < i
        · rw [if_pos h3, if_pos h3]
        · rw [if_neg h3, if_neg h3]
          by_cases h4 : t ≤ u ∧ u < n
          · rw [if_pos h4, if_pos (by omega)]
          · rw [if_neg h4, if_neg (by omega)]
/-- one array cell -/
theorem cE_arr (E : mE) {a i n k c L : Nat} (hn : E.1 < n) (hr : rf0 E.1 k = some n) (hu : ∀ k', rf0 E.1 k' = some n → k' = k) (ha : a < n ∨ n + 1 ≤ a) (hc : kd0 n = c) (hL : ln0 n = L) (h0 : ∀ j, rf0 n j = none) : pE (nE (cE E a i n) c L) E.1 k n = cE E a i (n + 1) := by
  refine cE_put E _ hn (Nat.lt_succ_self n) hr (fun k' q h1 h2 h3 => hu k' (by rw [h1, show q = n by omega])) ha rfl ?_ ?_ ?_
  · intro u
    show (if u = n then c else (cE E a i n).2.1 u) = _
    by_cases h : u = n
    · subst h
      rw [if_pos rfl, if_pos ⟨Nat.le_refl _, Nat.lt_succ_self _⟩, hc]
    · rw [if_neg h, if_neg (by omega)]
  · intro u
    show (if u = n then L else (cE E a i n).2.2.1 u) = _
    by_cases h : u = n
    · subst h
      rw [if_pos rfl, if_pos ⟨Nat.le_refl _, Nat.lt_succ_self _⟩, hL]
    · rw [if_neg h, if_neg (by omega)]
  · intro u j
    show (if u = n then none else (cE E a i n).2.2.2 u j) = _
    by_cases h : u = n
    · subst h
      rw [if_pos rfl, if_pos ⟨Nat.le_refl _, Nat.lt_succ_self _⟩, h0]
    · rw [if_neg h, if_neg (by omega)]
/-- an object with what it makes -/
theorem cE_obj (E : mE) {a i n n2 k : Nat} (hn : E.1 < n) (hn2 : n < n2) (hr : rf0 E.1 k = some n) (hu : ∀ k' q, rf0 E.1 k' = some q → n ≤ q → q < n2 → k' = k) (ha : a < n ∨ n2 ≤ a) : pE (xE (cE E a i n) n2) E.1 k n = cE E a i n2 :=
  cE_put E _ hn hn2 hr hu ha rfl (fun _ => rfl) (fun _ => rfl) (fun _ _ => rfl)
/-- an array of references is made, with no entry yet -/
theorem cE_ref (E : mE) {a k c L : Nat} (hn : E.1 < a) (hr : rf0 E.1 k = some a) (hu : ∀ k', rf0 E.1 k' = some a → k' = k) (hc : kd0 a = c) (hL : ln0 a = L) : pE (nE (cE E a 0 a) c L) E.1 k a = cE E a 0 (a + 1) := by
  obtain ⟨t, kd, ln, rf⟩ := E
  have hn : t < a := hn
  refine mE_ext rfl ?_ ?_ ?_
  · intro u
    show (if u = a then c else if t ≤ u ∧ u < a then kd0 u else kd u) = (if t ≤ u ∧ u < a + 1 then kd0 u else kd u)
    by_cases h : u = a
    · subst h
      rw [if_pos rfl, if_pos ⟨by omega, Nat.lt_succ_self _⟩, hc]
    · rw [if_neg h]
      repeat' split
      all_goals first | rfl | omega
  · intro u
    show (if u = a then L else if t ≤ u ∧ u < a then ln0 u else ln u) = (if t ≤ u ∧ u < a + 1 then ln0 u else ln u)
    by_cases h : u = a
    · subst h
      rw [if_pos rfl, if_pos ⟨by omega, Nat.lt_succ_self _⟩, hL]
    · rw [if_neg h]
      repeat' split
      all_goals first | rfl | omega
  · intro u k'
    show (if u = t ∧ k' = k then some a else if u = a then none else if u = t then rfL (rf0 u k') a else if u = a ∧ ¬ k' < 0 then none else if t ≤ u ∧ u < a then rf0 u k' else rf u k') = (if u = t then rfL (rf0 u k') (a + 1) else if u = a ∧ ¬ k' < 0 then none else if t ≤ u ∧ u < a + 1 then rf0 u k' else rf u k')
    by_cases h1 : u = t
    · subst h1
      have f1 : ¬ u = a := by omega
      simp only [f1, if_false, true_and, if_true]
      by_cases h2 : k' = k
      · subst h2
        have hr : rf0 u k' = some a := hr
        rw [if_pos rfl, hr]
        exact (if_pos (Nat.lt_succ_self a)).symm
      · rw [if_neg h2]
        cases hq : rf0 u k' with
        | none => rfl
        | some q =>
          show (if q < a then some q else none) = (if q < a + 1 then some q else none)
          have h3 : q = a → k' = k := fun e => hu k' (by show rf0 u k' = some a; rw [hq, e])
          by_cases h4 : q < a
          · rw [if_pos h4, if_pos (by omega)]
          · by_cases h5 : q = a
            · exact absurd (h3 h5) h2
            · rw [if_neg h4, if_neg (by omega)]
    · by_cases h2 : u = a
      · subst h2
        simp only [h1, false_and, if_false, if_true, Nat.not_lt_zero, not_false_iff, and_self]
      · simp only [h1, h2, false_and, if_false]
        repeat' split
        all_goals first | rfl | omega
/-- the next entry -/
theorem cE_ent (E : mE) {a i n n2 : Nat} (hta : E.1 < a) (han : a < n) (hn2 : n < n2) (hr : rf0 a i = some n) (hs : ∀ k q, rf0 E.1 k = some q → n ≤ q → n2 ≤ q) : pE (xE (cE E a i n) n2) a i n = cE E a (i + 1) n2 := by
  obtain ⟨t, kd, ln, rf⟩ := E
  have hta : t < a := hta
  refine mE_ext rfl ?_ ?_ ?_
  · intro u
    show (if n ≤ u ∧ u < n2 then kd0 u else if t ≤ u ∧ u < n then kd0 u else kd u) = (if t ≤ u ∧ u < n2 then kd0 u else kd u)
    repeat' split
    all_goals first | rfl | omega
  · intro u
    show (if n ≤ u ∧ u < n2 then ln0 u else if t ≤ u ∧ u < n then ln0 u else ln u) = (if t ≤ u ∧ u < n2 then ln0 u else ln u)
    repeat' split
    all_goals first | rfl | omega
  · intro u k
    show (if u = a ∧ k = i then some n else if n ≤ u ∧ u < n2 then rf0 u k else if u = t then rfL (rf0 u k) n else if u = a ∧ ¬ k < i then none else if t ≤ u ∧ u < n then rf0 u k else rf u k) = (if u = t then rfL (rf0 u k) n2 else if u = a ∧ ¬ k < i + 1 then none else if t ≤ u ∧ u < n2 then rf0 u k else rf u k)
    by_cases h1 : u = t
    · subst h1
      rw [if_neg (by omega), if_neg (by omega), if_pos rfl, if_pos rfl]
      cases hq : rf0 u k with
      | none => rfl
      | some q =>
        show (if q < n then some q else none) = (if q < n2 then some q else none)
        have h3 := hs k q hq
        by_cases h4 : q < n
        · rw [if_pos h4, if_pos (by omega)]
        · rw [if_neg h4, if_neg (by have := h3 (by omega); omega)]
    · rw [if_neg h1, if_neg h1]
      by_cases h2 : u = a
      · subst h2
        by_cases h3 : k = i
        · subst h3
          rw [if_pos ⟨rfl, rfl⟩, if_neg (by omega), if_pos (by omega), hr]
        · have f1 : ¬ (n ≤ u ∧ u < n2) := by omega
          have f2 : t ≤ u ∧ u < n := by omega
          have f3 : t ≤ u ∧ u < n2 := by omega
          by_cases h4 : k < i
          · have f4 : k < i + 1 := by omega
            simp only [h3, h4, f4, show ¬ n ≤ u by omega, show t ≤ u by omega, show u < n by omega, show u < n2 by omega, and_false, false_and, true_and, and_self, not_true, not_false_iff, if_false, if_true]
          · have f4 : ¬ k < i + 1 := by omega
            simp only [h3, h4, f4, show ¬ n ≤ u by omega, show t ≤ u by omega, show u < n by omega, show u < n2 by omega, and_false, false_and, true_and, and_self, not_true, not_false_iff, if_false, if_true]
      · simp only [h2, false_and, if_false]
        repeat' split
        all_goals first | rfl | omega
/-- whole -/
theorem cE_end (E : mE) {a i n : Nat} (h : ∀ k q, rf0 E.1 k = some q → q < n) (ha : ∀ k, E.1 < a → a < n → ¬ k < i → rf0 a k = none) (ha2 : ∀ k, ¬ (E.1 < a ∧ a < n) → ¬ k < i → a ≠ E.1 → E.2.2.2 a k = none) (hn : E.1 < n) : cE E a i n = xE E n := by
  obtain ⟨t, kd, ln, rf⟩ := E
  have hn : t < n := hn
  refine mE_ext rfl (fun _ => rfl) (fun _ => rfl) ?_
  intro u k
  show (if u = t then rfL (rf0 u k) n else if u = a ∧ ¬ k < i then none else if t ≤ u ∧ u < n then rf0 u k else rf u k) = (if t ≤ u ∧ u < n then rf0 u k else rf u k)
  by_cases h1 : u = t
  · subst h1
    rw [if_pos rfl, if_pos ⟨Nat.le_refl _, hn⟩]
    cases hq : rf0 u k with
    | none => rfl
    | some q => exact if_pos (h k q hq)
  · rw [if_neg h1]
    by_cases h2 : u = a ∧ ¬ k < i
    · obtain ⟨rfl, h3⟩ := h2
      rw [if_pos ⟨rfl, h3⟩]
      by_cases h4 : t ≤ u ∧ u < n
      · rw [if_pos h4, ha k (by show t < u; omega) h4.2 h3]
      · rw [if_neg h4]
        exact (ha2 k (by show ¬ (t < u ∧ u < n); omega) h3 (fun q => h1 q)).symm
    · rw [if_neg h2]
theorem wS_0 (E : mE) (S : mS) : nS E S = wS E S (fun _ => 0) (E.1 + 1) := by
  obtain ⟨t, kd, ln, rf⟩ := E
  refine mS_ext ?_ ?_
  · intro u k
    show (if u = t then 0 else S.1 u k) = (if u = t then 0 else if t ≤ u ∧ u < t + 1 then s0 u k else S.1 u k)
    repeat' split
    all_goals first | rfl | omega
  · intro u k
    show (if u = t then 0 else S.2 u k) = (if t ≤ u ∧ u < t + 1 then 0 else S.2 u k)
    repeat' split
    all_goals first | rfl | omega
theorem s0_arr {n : Nat} (h : 10 ≤ kd0 n) (k : Nat) : s0 n k = 0 := by
  unfold s0
  rw [if_neg (by omega), if_neg (by omega), if_neg (by omega), if_neg (by omega)]
theorem wS_arr (E : mE) (S : mS) (g : Nat → Int32) {a i n : Nat} (hn : E.1 < n) (h : 10 ≤ kd0 n) : nS (cE E a i n) (wS E S g n) = wS E S g (n + 1) := by
  obtain ⟨t, kd, ln, rf⟩ := E
  have hn : t < n := hn
  refine mS_ext ?_ ?_
  · intro u k
    show (if u = n then 0 else if u = t then g k else if t ≤ u ∧ u < n then s0 u k else S.1 u k) = (if u = t then g k else if t ≤ u ∧ u < n + 1 then s0 u k else S.1 u k)
    by_cases h1 : u = n
    · subst h1
      rw [if_pos rfl, if_neg (by omega), if_pos (by omega), s0_arr h]
    · rw [if_neg h1]
      repeat' split
      all_goals first | rfl | omega
  · intro u k
    show (if u = n then 0 else if t ≤ u ∧ u < n then 0 else S.2 u k) = (if t ≤ u ∧ u < n + 1 then 0 else S.2 u k)
    repeat' split
    all_goals first | rfl | omega
theorem wS_obj (E : mE) (S : mS) (g : Nat → Int32) {a i n n2 : Nat} (hn : E.1 < n) (hn2 : n < n2) : xS (cE E a i n) (wS E S g n) n2 = wS E S g n2 := by
  obtain ⟨t, kd, ln, rf⟩ := E
  have hn : t < n := hn
  refine mS_ext ?_ ?_
  · intro u k
    show (if n ≤ u ∧ u < n2 then s0 u k else if u = t then g k else if t ≤ u ∧ u < n then s0 u k else S.1 u k) = (if u = t then g k else if t ≤ u ∧ u < n2 then s0 u k else S.1 u k)
    repeat' split
    all_goals first | rfl | omega
  · intro u k
    show (if n ≤ u ∧ u < n2 then 0 else if t ≤ u ∧ u < n then 0 else S.2 u k) = (if t ≤ u ∧ u < n2 then 0 else S.2 u k)
    repeat' split
    all_goals first | rfl | omega
theorem wS_put (E : mE) (S : mS) (g : Nat → Int32) {n : Nat} (k : Nat) (v : Int32) : sI (wS E S g n) E.1 k v = wS E S (fun j => if j = k then v else g j) n := by
  obtain ⟨t, kd, ln, rf⟩ := E
  refine mS_ext ?_ (fun _ _ => rfl)
  intro u j
  show (if u = t ∧ j = k then v else if u = t then g j else if t ≤ u ∧ u < n then s0 u j else S.1 u j) = (if u = t then (if j = k then v else g j) else if t ≤ u ∧ u < n then s0 u j else S.1 u j)
  by_cases h1 : u = t
  · rw [if_pos h1, if_pos h1]
    by_cases h2 : j = k
    · rw [if_pos ⟨h1, h2⟩, if_pos h2]
    · rw [if_neg (fun q => h2 q.2), if_neg h2]
  · rw [if_neg (fun q => h1 q.1), if_neg h1, if_neg h1]
theorem wS_end (E : mE) (S : mS) (g : Nat → Int32) {n : Nat} (hn : E.1 < n) (h : ∀ k, s0 E.1 k = g k) : wS E S g n = xS E S n := by
  obtain ⟨t, kd, ln, rf⟩ := E
  have hn : t < n := hn
  refine mS_ext ?_ (fun _ _ => rfl)
  intro u k
  show (if u = t then g k else if t ≤ u ∧ u < n then s0 u k else S.1 u k) = (if t ≤ u ∧ u < n then s0 u k else S.1 u k)
  by_cases h1 : u = t
  · subst h1
    rw [if_pos rfl, if_pos ⟨Nat.le_refl _, hn⟩]
    exact (h k).symm
  · rw [if_neg h1]
theorem cE_kd (E : mE) {a i n u : Nat} (h1 : E.1 ≤ u) (h2 : u < n) : (cE E a i n).2.1 u = kd0 u := if_pos ⟨h1, h2⟩
theorem cE_ln (E : mE) {a i n u : Nat} (h1 : E.1 ≤ u) (h2 : u < n) : (cE E a i n).2.2.1 u = ln0 u := if_pos ⟨h1, h2⟩
theorem xcE_kd (E : mE) {a i n n2 u : Nat} (h1 : E.1 ≤ u) (h2 : u < n2) : (xE (cE E a i n) n2).2.1 u = kd0 u := by
  show (if n ≤ u ∧ u < n2 then kd0 u else if E.1 ≤ u ∧ u < n then kd0 u else E.2.1 u) = kd0 u
  repeat' split
  all_goals first | rfl | omega
theorem xcE_ln (E : mE) {a i n n2 u : Nat} (h1 : E.1 ≤ u) (h2 : u < n2) : (xE (cE E a i n) n2).2.2.1 u = ln0 u := by
  show (if n ≤ u ∧ u < n2 then ln0 u else if E.1 ≤ u ∧ u < n then ln0 u else E.2.2.1 u) = ln0 u
  repeat' split
  all_goals first | rfl | omega
theorem ncE_kd (E : mE) {a i n c L u : Nat} (h1 : E.1 ≤ u) (h2 : u < n) : (nE (cE E a i n) c L).2.1 u = kd0 u := by
  show (if u = n then c else if E.1 ≤ u ∧ u < n then kd0 u else E.2.1 u) = kd0 u
  rw [if_neg (by omega), if_pos ⟨h1, h2⟩]
theorem cE_fld (E : mE) {a i n k q : Nat} (hr : rf0 E.1 k = some q) (hq : q < n) : (cE E a i n).2.2.2 E.1 k = some q := by
  show (if E.1 = E.1 then rfL (rf0 E.1 k) n else _) = some q
  rw [if_pos rfl, hr]
  exact if_pos hq
theorem rf0_arr {n : Nat} (h : kd0 n = 10 ∨ kd0 n = 11 ∨ kd0 n = 12) (j : Nat) : rf0 n j = none := by
  unfold rf0
  rcases h with h | h | h <;> rw [h] <;> rfl
theorem rl7 {t k q : Nat} (h : kd0 t = 7) (hr : rf0 t k = some q) : (k = 0 ∧ q = t + 1) ∨ (k = 1 ∧ q = t + 6) ∨ (k = 6 ∧ q = t + 7) ∨ (k = 7 ∧ q = t + 8) ∨ (k = 8 ∧ q = t + 9) ∨ (k = 10 ∧ q = t + 10) ∨ (k = 11 ∧ q = t + 11) := by
  unfold rf0 at hr
  rw [h] at hr
  simp only [rfk] at hr
  split at hr
  all_goals first | (cases hr; done) | (have hr2 := Option.some.inj hr; omega)
theorem rl8 {t k q : Nat} (h : kd0 t = 8) (hr : rf0 t k = some q) : (k = 0 ∧ q = t + 1) ∨ (k = 3 ∧ q = t + 2) ∨ (k = 4 ∧ q = t + 11) ∨ (k = 5 ∧ q = t + 32) ∨ (k = 6 ∧ q = t + 37) ∨ (k = 7 ∧ q = t + 40) ∨ (k = 8 ∧ q = t + 202) ∨ (k = 9 ∧ q = t + 364) ∨ (k = 10 ∧ q = t + 369) ∨ (k = 11 ∧ q = t + 370) ∨ (k = 12 ∧ q = t + 372) := by
  unfold rf0 at hr
  rw [h] at hr
  simp only [rfk] at hr
  split at hr
  all_goals first | (cases hr; done) | (have hr2 := Option.some.inj hr; omega)
theorem rl9 {t k q : Nat} (h : kd0 t = 9) (hr : rf0 t k = some q) : (k = 0 ∧ q = t + 1) ∨ (k = 1 ∧ q = t + 2) ∨ (k = 2 ∧ q = t + 3) ∨ (k = 3 ∧ q = t + 4) ∨ (k = 15 ∧ q = t + 5) ∨ (k = 21 ∧ q = t + 6) ∨ (k = 22 ∧ q = t + 7) ∨ (k = 23 ∧ q = t + 8) ∨ (k = 24 ∧ q = t + 9) ∨ (k = 29 ∧ q = t + 10) ∨ (k = 32 ∧ q = t + 11) ∨ (k = 33 ∧ q = t + 12) ∨ (k = 34 ∧ q = t + 13) ∨ (k = 35 ∧ q = t + 14) := by
  unfold rf0 at hr
  rw [h] at hr
  simp only [rfk] at hr
  split at hr
  all_goals first | (cases hr; done) | (have hr2 := Option.some.inj hr; omega)
