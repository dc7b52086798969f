/-! ===== laws: all words, the reference ===== -/
theorem rOp_v {w : Nat} (hw : w < 10039) : (w < 10000 → rOp w = 0 ∧ rVal w = w) ∧ ((10016 ≤ w ∧ w < 10024) → rOp w = 1 ∧ rVal w = w - 10016) ∧ (w = 10038 → rOp w = 2) ∧ ((10007 ≤ w ∧ w ≤ 10010) → 3 ≤ rOp w ∧ rOp w ≤ 6) ∧ (w = 10037 → rOp w = 7) ∧ (((10003 ≤ w ∧ w ≤ 10006) ∨ w = 10014 ∨ w = 10015) → 10 ≤ rOp w ∧ rOp w ≤ 15) ∧ (w = 10036 → rOp w = 16) ∧ (w = 10035 → rOp w = 20) ∧ ((w = 10033 ∨ w = 10034) → 21 ≤ rOp w ∧ rOp w ≤ 22) := by
  by_cases h : w < 10000
  · refine ⟨fun _ => ⟨if_pos h, if_pos h⟩, fun c => ?_, fun c => ?_, fun c => ?_, fun c => ?_, fun c => ?_, fun c => ?_, fun c => ?_, fun c => ?_⟩ <;> omega
  · obtain ⟨d, rfl⟩ : ∃ d, w = 10000 + d := ⟨w - 10000, by omega⟩
    have q1 : ∀ d, d < 39 → (16 ≤ d ∧ d < 24) → rOp (10000 + d) = 1 ∧ rVal (10000 + d) = d - 16 := by decide +kernel
    have q2 : ∀ d, d < 39 → d = 38 → rOp (10000 + d) = 2 := by decide +kernel
    have q3 : ∀ d, d < 39 → (7 ≤ d ∧ d ≤ 10) → 3 ≤ rOp (10000 + d) ∧ rOp (10000 + d) ≤ 6 := by decide +kernel
    have q4 : ∀ d, d < 39 → d = 37 → rOp (10000 + d) = 7 := by decide +kernel
    have q5 : ∀ d, d < 39 → ((3 ≤ d ∧ d ≤ 6) ∨ d = 14 ∨ d = 15) → 10 ≤ rOp (10000 + d) ∧ rOp (10000 + d) ≤ 15 := by decide +kernel
    have q6 : ∀ d, d < 39 → d = 36 → rOp (10000 + d) = 16 := by decide +kernel
    have q7 : ∀ d, d < 39 → d = 35 → rOp (10000 + d) = 20 := by decide +kernel
    have q8 : ∀ d, d < 39 → (d = 33 ∨ d = 34) → 21 ≤ rOp (10000 + d) ∧ rOp (10000 + d) ≤ 22 := by decide +kernel
    have k1 := q1 d (by omega)
    have k2 := q2 d (by omega)
    have k3 := q3 d (by omega)
    have k4 := q4 d (by omega)
    have k5 := q5 d (by omega)
    have k6 := q6 d (by omega)
    have k7 := q7 d (by omega)
    have k8 := q8 d (by omega)
    refine ⟨fun c => by omega, fun c => ?_, fun c => k2 (by omega), fun c => k3 (by omega), fun c => k4 (by omega), fun c => k5 (by omega), fun c => k6 (by omega), fun c => k7 (by omega), fun c => k8 (by omega)⟩
    have := k1 (by omega)
    exact ⟨this.1, by rw [this.2]; omega⟩
theorem sJ_1 (S : mS) (t k : Nat) (v : Int64) : (sJ S t k v).1 = S.1 := rfl
theorem sJ_h (S : mS) (t k : Nat) (v : Int64) : (sJ S t k v).2 t k = v := if_pos ⟨rfl, rfl⟩
theorem sJ_o {S : mS} {t k : Nat} {v : Int64} {j : Nat} (h : j ≠ k) : (sJ S t k v).2 t j = S.2 t j := if_neg (fun q => h q.2)
/-- what the reference writes as it works a law out -/
def Fw (S S' : mS) : Prop := ∀ u k, u ≠ 383 → S'.1 u k = S.1 u k
section
variable {F : Nat} {S : mS} {x c i to w : Nat} {a1 : Int32} {nm : Nat → Nat}
theorem r9_s (hF : 30 < F) (hx : x + 2 < 2820) (hcc : c + 2 * i + 1 < 2820) (ht : S.1 378 (x + 2) = nI to) (hi : i < to) (hto : to ≤ 300) (ho : S.1 378 (c + 2 * i) = nI (rOp w)) (hv : S.1 378 (c + 2 * i + 1) = nI (rVal w)) (hw : w < 10039) (hnm : ∀ j, j < 8 → S.1 381 j = nI (nm j) ∧ nm j ≤ 1000000) {ns : List Int} {ts : List Bool} {s : Nat × Nat} (hty : tyw w (ts.length, ns.length) = some s) (hh : ts.length + ns.length ≤ i) (hok : okN ns) (hB : stB S 383 ts) (hN : rtN S ns) : ∃ S', (∀ n, lX9_work_47 F 375 a1 (n + 1) S (nI x) (nI c) (nI ns.length) (nI ts.length) (nI i) = lX9_work_47 F 375 a1 n S' (nI x) (nI c) (nI (evw nm w ns ts).1.length) (nI (evw nm w ns ts).2.length) (nI (i + 1))) ∧ ln2 (evw nm w ns ts) = s ∧ (evw nm w ns ts).2.length + (evw nm w ns ts).1.length ≤ i + 1 ∧ okN (evw nm w ns ts).1 ∧ stB S' 383 (evw nm w ns ts).2 ∧ rtN S' (evw nm w ns ts).1 ∧ Fw S S' := by
  obtain ⟨o0, o1, o2, o3, o7, o10, o16, o20, o21⟩ := rOp_v hw
  rcases tyw_c hty with ⟨c', e⟩ | ⟨c', e⟩ | ⟨c', d, e⟩ | ⟨c', d, e⟩ | ⟨c', d, e⟩ | ⟨c', d, d2, e⟩ | ⟨c', d, d2, e⟩
  · rw [evw_num c']
    rw [(o0 c').1] at ho
    rw [(o0 c').2] at hv
    refine ⟨_, fun n => w9_num hx hcc ht hi hto ho hv (by omega), e.symm, by show ts.length + (ns.length + 1) ≤ i + 1; omega, ⟨⟨by omega, by omega⟩, hok⟩, hB.fr (fun k hk => rfl), ⟨?_, hN.fr (fun k hk => sJ_o (by omega))⟩, fun u k hu => rfl⟩
    rw [sJ_h, nI_l (by omega), lZ_n (by omega)]
  · rw [evw_nam c']
    have nj := hnm (w - 10016) (by omega)
    rw [(o1 c').1] at ho
    rw [(o1 c').2] at hv
    refine ⟨_, fun n => w9_nam hx hcc ht hi hto ho hv (by omega) (by omega), e.symm, by show ts.length + (ns.length + 1) ≤ i + 1; omega, ⟨⟨by omega, by omega⟩, hok⟩, hB.fr (fun k hk => rfl), ⟨?_, hN.fr (fun k hk => sJ_o (by omega))⟩, fun u k hu => rfl⟩
    rw [sJ_h, nj.1, nI_l (by omega), lZ_n (by omega)]
  · subst c'
    obtain ⟨z, r, rfl⟩ : ∃ z r, ns = z :: r := by
      cases ns with
      | nil => exact absurd d (by decide)
      | cons z r => exact ⟨z, r, rfl⟩
    rw [evw_neg]
    rw [o2 rfl] at ho
    have hl : ts.length + (z :: r).length = ts.length + r.length + 1 := rfl
    rw [hl] at hh
    refine ⟨_, fun n => w9_neg hx hcc ht hi hto ho (by omega), e.symm, by show ts.length + (r.length + 1) ≤ i + 1; omega, ⟨?_, hok.2⟩, hB.fr (fun k hk => rfl), ⟨?_, hN.2.fr (fun k hk => sJ_o (by omega))⟩, fun u k hu => rfl⟩
    · have := hok.1
      unfold inR at *
      omega
    · rw [sJ_h, hN.1, lZ_neg hok.1]
  · obtain ⟨b, a, r, rfl⟩ : ∃ b a r, ns = b :: a :: r := by
      cases ns with
      | nil => exact absurd d (by decide)
      | cons b l =>
        cases l with
        | nil => exact absurd d (by simp)
        | cons a r => exact ⟨b, a, r, rfl⟩
    rw [evw_two c']
    have hl : ts.length + (b :: a :: r).length = ts.length + r.length + 2 := rfl
    rw [hl] at hh
    have x1 : S.2 382 (r.length + 1) = lZ b := hN.1
    have x2 : S.2 382 r.length = lZ a := hN.2.1
    unfold arw at c'
    have go : ∀ v, (∀ n, lX9_work_47 F 375 a1 (n + 1) S (nI x) (nI c) (nI (r.length + 2)) (nI ts.length) (nI i) = lX9_work_47 F 375 a1 n (sJ S 382 r.length v) (nI x) (nI c) (nI (r.length + 1)) (nI ts.length) (nI (i + 1))) → v = lZ (ev2 w a b) → ∃ S', (∀ n, lX9_work_47 F 375 a1 (n + 1) S (nI x) (nI c) (nI (b :: a :: r).length) (nI ts.length) (nI i) = lX9_work_47 F 375 a1 n S' (nI x) (nI c) (nI (ev2 w a b :: r, ts).1.length) (nI (ev2 w a b :: r, ts).2.length) (nI (i + 1))) ∧ ln2 (ev2 w a b :: r, ts) = s ∧ (ev2 w a b :: r, ts).2.length + (ev2 w a b :: r, ts).1.length ≤ i + 1 ∧ okN (ev2 w a b :: r, ts).1 ∧ stB S' 383 (ev2 w a b :: r, ts).2 ∧ rtN S' (ev2 w a b :: r, ts).1 ∧ Fw S S' := fun v hv' ev => ⟨_, hv', e.symm, by show ts.length + (r.length + 1) ≤ i + 1; omega, ⟨ev2_R hok.2.1 hok.1, hok.2.2⟩, hB.fr (fun k hk => rfl), ⟨by rw [sJ_h, ev], hN.2.2.fr (fun k hk => sJ_o (by omega))⟩, fun u k hu => rfl⟩
    rcases c' with c' | c'
    · exact go _ (fun n => w9_two hx hcc ht hi hto ho (o3 c') (by omega) (by rw [x1, x2]; exact j9_ar hok.2.1 hok.1 c')) rfl
    · subst c'
      rw [o7 rfl] at ho
      exact go _ (fun n => w9_dig hx hcc ht hi hto ho (by omega) (by rw [x1, x2]; exact dig_9 hF hok.2.1 hok.1)) (by rw [ev2_37])
  · obtain ⟨b, a, rfl⟩ : ∃ b a, ns = b :: a :: [] := by
      cases ns with
      | nil => exact absurd d (by decide)
      | cons b l =>
        cases l with
        | nil => exact absurd d (by simp)
        | cons a r =>
          cases r with
          | nil => exact ⟨b, a, rfl⟩
          | cons x y => exact absurd d (by simp)
    rw [evw_rel c']
    have hl : ts.length + (b :: a :: ([] : List Int)).length = ts.length + 2 := rfl
    rw [hl] at hh
    have x1 : S.2 382 (0 + 1) = lZ b := hN.1
    have x2 : S.2 382 0 = lZ a := hN.2.1
    unfold rlw at c'
    have go : (∀ n, lX9_work_47 F 375 a1 (n + 1) S (nI x) (nI c) (nI (0 + 2)) (nI ts.length) (nI i) = lX9_work_47 F 375 a1 n (sI S 383 ts.length (bI (evr w a b))) (nI x) (nI c) (nI 0) (nI (ts.length + 1)) (nI (i + 1))) → ∃ S', (∀ n, lX9_work_47 F 375 a1 (n + 1) S (nI x) (nI c) (nI (b :: a :: ([] : List Int)).length) (nI ts.length) (nI i) = lX9_work_47 F 375 a1 n S' (nI x) (nI c) (nI (([] : List Int), evr w a b :: ts).1.length) (nI (([] : List Int), evr w a b :: ts).2.length) (nI (i + 1))) ∧ ln2 (([] : List Int), evr w a b :: ts) = s ∧ (([] : List Int), evr w a b :: ts).2.length + (([] : List Int), evr w a b :: ts).1.length ≤ i + 1 ∧ okN (([] : List Int), evr w a b :: ts).1 ∧ stB S' 383 (([] : List Int), evr w a b :: ts).2 ∧ rtN S' (([] : List Int), evr w a b :: ts).1 ∧ Fw S S' := fun hv' => ⟨_, hv', e.symm, by show ts.length + 1 + 0 ≤ i + 1; omega, trivial, ⟨sq_hit _ _ _ _, hB.fr (fun k hk => sq_off (by omega))⟩, trivial, fun u k hu => sq_u hu⟩
    by_cases c36 : w = 10036
    · subst c36
      rw [o16 rfl] at ho
      exact go (fun n => w9_div hx hcc ht hi hto ho (by omega) (by omega) (by rw [x1, x2]; exact j9_div hok.2.1 hok.1))
    · exact go (fun n => w9_rel hx hcc ht hi hto ho (o10 (by omega)) (by omega) (by omega) (by rw [x1, x2]; exact j9_rel hok.2.1 hok.1 (by omega)))
  · subst c'
    obtain rfl : ns = [] := List.length_eq_zero_iff.mp d2
    obtain ⟨p, u, rfl⟩ : ∃ p u, ts = p :: u := by
      cases ts with
      | nil => exact absurd d (by decide)
      | cons z r => exact ⟨z, r, rfl⟩
    rw [evw_not]
    rw [o20 rfl] at ho
    have hl : (p :: u).length + ([] : List Int).length = u.length + 1 := rfl
    rw [hl] at hh
    exact ⟨_, fun n => w9_not hx hcc ht hi hto ho (by omega) hB.1, e.symm, by show u.length + 1 + 0 ≤ i + 1; omega, trivial, ⟨sq_hit _ _ _ _, hB.2.fr (fun k hk => sq_off (by omega))⟩, trivial, fun u k hu => sq_u hu⟩
  · obtain rfl : ns = [] := List.length_eq_zero_iff.mp d2
    obtain ⟨y, p, u, rfl⟩ : ∃ y p u, ts = y :: p :: u := by
      cases ts with
      | nil => exact absurd d (by decide)
      | cons b l =>
        cases l with
        | nil => exact absurd d (by simp)
        | cons a r => exact ⟨b, a, r, rfl⟩
    rw [evw_bo c']
    have hl : (y :: p :: u).length + ([] : List Int).length = u.length + 2 := rfl
    rw [hl] at hh
    have x1 : S.1 383 (u.length + 1) = bI y := hB.1
    have x2 : S.1 383 u.length = bI p := hB.2.1
    exact ⟨_, fun n => w9_bo hx hcc ht hi hto ho (o21 c') (by omega) (by rw [x1, x2]; exact j9_bo p y c'), e.symm, by show u.length + 1 + 0 ≤ i + 1; omega, trivial, ⟨sq_hit _ _ _ _, hB.2.2.fr (fun k hk => sq_off (by omega))⟩, trivial, fun u k hu => sq_u hu⟩
theorem r9_run (hF : 30 < F) (hx : x + 2 < 2820) (hcc : c + 601 ≤ 2820) (hto : to ≤ 300) {K : Nat → Nat} (m : Nat) : ∀ (i k : Nat) {S : mS} {ns : List Int} {ts : List Bool} {s : Nat × Nat}, i + m = to → m < k → S.1 378 (x + 2) = nI to → (∀ p, i ≤ p → p < to → S.1 378 (c + 2 * p) = nI (rOp (K p)) ∧ S.1 378 (c + 2 * p + 1) = nI (rVal (K p)) ∧ K p < 10039) → (∀ j, j < 8 → S.1 381 j = nI (nm j) ∧ nm j ≤ 1000000) → tyr K m i (ts.length, ns.length) = some s → ts.length + ns.length ≤ i → okN ns → stB S 383 ts → rtN S ns → ∃ S', lX9_work_47 F 375 a1 k S (nI x) (nI c) (nI ns.length) (nI ts.length) (nI i) = some S' ∧ ln2 (evs nm K m i ns ts) = s ∧ okN (evs nm K m i ns ts).1 ∧ stB S' 383 (evs nm K m i ns ts).2 ∧ rtN S' (evs nm K m i ns ts).1 ∧ Fw S S' := by
  induction m with
  | zero =>
    intro i k S ns ts s hi hk ht hc hnm hty hh hok hB hN
    obtain ⟨k, rfl⟩ : ∃ k', k = k' + 1 := ⟨k - 1, by omega⟩
    exact ⟨S, by rw [u_X9_work_47, nI_add, inb_n hx (by omega), ck_t, nI_clamp (n := x + 2) (by omega), ht, if_pos (nI_le (by omega) (by omega))], Option.some.inj hty, hok, hB, hN, fun _ _ _ => rfl⟩
  | succ m ih =>
    intro i k S ns ts s hi hk ht hc hnm hty hh hok hB hN
    obtain ⟨k, rfl⟩ : ∃ k', k = k' + 1 := ⟨k - 1, by omega⟩
    have hty' : (tyw (K i) (ts.length, ns.length)).bind (tyr K m (i + 1)) = some s := hty
    cases h1 : tyw (K i) (ts.length, ns.length) with
    | none => rw [h1] at hty'; exact absurd hty' (by simp)
    | some s1 =>
      rw [h1] at hty'
      have hty2 : tyr K m (i + 1) s1 = some s := hty'
      have ci := hc i (Nat.le_refl _) (by omega)
      obtain ⟨S1, u1, l1, b1, o1, B1, N1, f1⟩ := r9_s (nm := nm) (a1 := a1) (c := c) hF hx (by omega) ht (show i < to by omega) hto ci.1 ci.2.1 ci.2.2 hnm h1 hh hok hB hN
      rw [evs_s, u1 k]
      obtain ⟨S2, u2, l2, o2, B2, N2, f2⟩ := ih (i + 1) k (S := S1) (s := s) (by omega) (by omega) (by rw [f1 _ _ (by decide)]; exact ht) (fun p h1 h2 => by rw [f1 _ _ (by decide), f1 _ _ (by decide)]; exact hc p (by omega) h2) (fun j hj => by rw [f1 _ _ (by decide)]; exact hnm j hj) (by
        rw [← l1] at hty2; exact hty2) b1 o1 B1 N1
      exact ⟨S2, u2, l2, o2, B2, N2, fun u k hu => (f2 u k hu).trans (f1 u k hu)⟩
end
