/-! ===== weddings: the class ===== -/
/-- h and j together -/
def jn (M : Nat → Int32) (h j : Nat) : Nat → Int32 := fun i => if i = j then nI h else if i = h then nI j else M i
/-- the better one is kept -/
def kB (d : Nat) (M : Nat → Int32) (b : Int32 × (Nat → Int32)) : Int32 × (Nat → Int32) := if nI d ≤ b.1 then b else (nI d, M)
def shr (T : Tw) (h j : Nat) : Nat := pcf 20 (T 1 h &&& T 1 j)
/-- h with each that is free from j on, m of them -/
def pL (T : Tw) (rec : (Nat → Int32) → Nat → Int32 × (Nat → Int32) → Int32 × (Nat → Int32)) (h : Nat) (M : Nat → Int32) (d : Nat) : Nat → Nat → Int32 × (Nat → Int32) → Int32 × (Nat → Int32)
  | 0, _, b => b
  | m + 1, j, b => pL T rec h M d m (j + 1) (if M j = -1 then if (T 0 1).testBit j = true then b else rec (jn M h j) (d + shr T h j) b else b)
def pF (T : Tw) : Nat → Nat → (Nat → Int32) → Nat → Int32 × (Nat → Int32) → Int32 × (Nat → Int32)
  | 0, _, M, d, b => kB d M b
  | r + 1, h, M, d, b => if M h = -1 then if (T 0 1).testBit h = true then pF T r (h + 1) M d b else pL T (pF T r (h + 1)) h M d r (h + 1) (pF T r (h + 1) M d b) else pF T r (h + 1) M d b
theorem kB_st {d : Nat} {M x y : Nat → Int32} (hd : d < 2 ^ 31) : kB d M (-1, x) = kB d M (-1, y) := by
  unfold kB
  have e : ¬ nI d ≤ (-1 : Int32) := by rw [n_le_m1 hd]; exact fun h => h
  rw [if_neg e, if_neg e]
theorem pF_st {T : Tw} {x y : Nat → Int32} (r : Nat) : ∀ (h : Nat) {M : Nat → Int32} {d : Nat}, d < 2 ^ 31 → pF T r h M d (-1, x) = pF T r h M d (-1, y) := by
  induction r with
  | zero => exact fun h M d hd => kB_st hd
  | succ r ih =>
    intro h M d hd
    show (if M h = -1 then if (T 0 1).testBit h = true then pF T r (h + 1) M d (-1, x) else pL T (pF T r (h + 1)) h M d r (h + 1) (pF T r (h + 1) M d (-1, x)) else pF T r (h + 1) M d (-1, x)) = (if M h = -1 then if (T 0 1).testBit h = true then pF T r (h + 1) M d (-1, y) else pL T (pF T r (h + 1)) h M d r (h + 1) (pF T r (h + 1) M d (-1, y)) else pF T r (h + 1) M d (-1, y))
    rw [ih (h + 1) hd]
/-- the class's cells -/
def Q0 (S : mS) (M : Nat → Int32) (b : Int32 × (Nat → Int32)) : Prop := (∀ i, i < 7 → S.1 374 i = M i) ∧ S.1 372 0 = b.1 ∧ ∀ i, i < 7 → S.1 373 i = b.2 i
def F7 (S S' : mS) : Prop := ∀ u k, (u < 372 ∨ 374 < u) → S'.1 u k = S.1 u k
theorem F7.rfl' (S : mS) : F7 S S := fun _ _ _ => rfl
theorem F7.trans {S S1 S2 : mS} (a : F7 S S1) (b : F7 S1 S2) : F7 S S2 := fun u k h => (b u k h).trans (a u k h)
section
variable {F : Nat} {T : Tw}
theorem u_pF {D : Nat} {S : mS} {a3 a4 : Int32} : fD_X0_pairFrom F (D + 1) S 372 41 a3 a4 = if (S.1 41 5) ≤ a3 then (bd (f_X0_keepBetter F S 372 a4) fun q1 => some q1) else (if a3 < (nI 7) then (bd (fD_X0_pairFrom F D S 372 41 (a3 + (nI 1)) a4) fun q2 => ck (inb a3 7) (if (q2.1 374 a3.toNatClampNeg) = (-1 : Int32) then (if (f_X6_lives q2 41 a3) = true then (lX0_pairFrom_53 (fD_X0_pairFrom F D) F 372 41 a3 a4 F q2 (a3 + (nI 1))) else (some q2)) else (some q2))) else (bd (f_X0_keepBetter F S 372 a4) fun q6 => some q6)) := rfl
theorem va_7 {f g : Nat → Int32} {k : Nat} (h : k < 7) : va_cpy f g 0 0 7 k = f k := by
  unfold va_cpy
  rw [if_pos (by omega), Nat.zero_add, Nat.sub_zero]
theorem x0_kB {S : mS} {M : Nat → Int32} {b : Int32 × (Nat → Int32)} {d : Nat} (hQ : Q0 S M b) : ∃ S', f_X0_keepBetter F S 372 (nI d) = some S' ∧ Q0 S' M (kB d M b) ∧ F7 S S' := by
  obtain ⟨q1, q2, q3⟩ := hQ
  rw [u_X0_keepBetter, q2]
  unfold kB
  by_cases e : nI d ≤ b.1
  · rw [if_pos e]
    exact ⟨S, rfl, by rw [if_pos e]; exact ⟨q1, q2, q3⟩, F7.rfl' S⟩
  · rw [if_neg e, stp_s, cpo_n (by omega) (by omega) (by omega) (by omega), ck_t, stp_s, nI_clamp (n := 0) (by omega), nI_clamp (n := 7) (by omega), if_neg e]
    refine ⟨_, rfl, ⟨fun i hi => ?_, ?_, fun i hi => ?_⟩, fun u k h => ?_⟩
    · rw [sC_u (by decide), sq_u (by decide)]; exact q1 i hi
    · rw [sC_u (by decide), sq_hit]
    · rw [sC_b]
      rw [va_7 hi, sq_u (by decide)]
      exact q1 i hi
    · rw [sC_u (by omega), sq_u (by omega)]
theorem x0_l53 {rec : mS → Nat → Nat → Int32 → Int32 → Option mS} {prec : (Nat → Int32) → Nat → Int32 × (Nat → Int32) → Int32 × (Nat → Int32)} (hW : Wf T) {h : Nat} {M : Nat → Int32} {d : Nat} (hM : M h = -1) (hh : h < T 0 0) (hr : ∀ {S : mS} {M : Nat → Int32} {d : Nat} {b : Int32 × (Nat → Int32)}, CT S 41 T → Q0 S M b → ∃ S', rec S 372 41 (nI (h + 1)) (nI d) = some S' ∧ Q0 S' M (prec M d b) ∧ F7 S S') (m : Nat) : ∀ (j k : Nat) {S : mS} {b : Int32 × (Nat → Int32)}, j + m = T 0 0 → h < j → m < k → CT S 41 T → Q0 S M b → ∃ S', lX0_pairFrom_53 rec F 372 41 (nI h) (nI d) k S (nI j) = some S' ∧ Q0 S' M (pL T prec h M d m j b) ∧ F7 S S' := by
  have w0 := hW.1
  induction m with
  | zero =>
    intro j k S b hj hl hk hC hQ
    obtain ⟨k, rfl⟩ : ∃ k', k = k' + 1 := ⟨k - 1, by omega⟩
    exact ⟨S, by rw [u_X0_pairFrom_53, hC.1, if_pos (nI_le (by omega) (by omega))], hQ, F7.rfl' S⟩
  | succ m ih =>
    intro j k S b hj hl hk hC hQ
    obtain ⟨k, rfl⟩ : ∃ k', k = k' + 1 := ⟨k - 1, by omega⟩
    have hj' : j < T 0 0 := by omega
    have cs : ∀ h, h < T 0 0 → S.1 42 h = nI (T 1 h) := hC.2.2.2.2.2.1
    have t1 := (hW.2.2.2.2.2.1 h hh).1
    have c1 := hC.1
    rw [u_X0_pairFrom_53, c1, if_neg (nI_ge hj' (by omega)), if_neg (nI_ge (show j < 7 by omega) (by omega)), inb_n (n := j) (by omega) (by omega), inb_n (n := h) (by omega) (by omega), nI_clamp (n := j) (by omega), nI_clamp (n := h) (by omega), x6_livesn hC hW hj', show S.1 (372 + 2) j = M j from hQ.1 j (by omega), show S.1 (41 + 1) h = nI (T 1 h) from cs h hh, show S.1 (41 + 1) j = nI (T 1 j) from cs j hj', nx_and, bc_n (Nat.lt_of_le_of_lt Nat.and_le_left t1)]
    simp only [ck_t, stp_s, nI_add]
    show ∃ S', _ ∧ Q0 S' M (pL T prec h M d m (j + 1) _) ∧ _
    by_cases e : M j = -1
    · rw [if_pos e, if_pos e]
      by_cases l : (T 0 1).testBit j = true
      · rw [l, if_neg (by decide), if_pos rfl]
        exact ih (j + 1) k (by omega) (by omega) (by omega) hC hQ
      · have l' : (T 0 1).testBit j = false := by cases y : (T 0 1).testBit j; rfl; exact absurd y l
        rw [l', if_pos (by decide), if_neg (by decide)]
        obtain ⟨S1, u1, p1, f1⟩ := hr (S := sI (sI S 374 h (nI j)) 374 j (nI h)) (M := jn M h j) (d := d + shr T h j) (b := b) (hC.fr (fun u k a b => by rw [sq_u (by omega), sq_u (by omega)])) ⟨fun i hi => by
          unfold jn
          by_cases a : i = j
          · subst a; rw [sq_hit, if_pos rfl]
          · rw [sq_off (by omega), if_neg a]
            by_cases c : i = h
            · subst c; rw [sq_hit, if_pos rfl]
            · rw [sq_off (by omega), if_neg c]; exact hQ.1 i hi, by rw [sq_u (by decide), sq_u (by decide)]; exact hQ.2.1, fun i hi => by rw [sq_u (by decide), sq_u (by decide)]; exact hQ.2.2 i hi⟩
        have f1' : F7 S (sI (sI S1 374 h (-1)) 374 j (-1)) := fun u k c => by rw [sq_u (by omega), sq_u (by omega), f1 u k c, sq_u (by omega), sq_u (by omega)]
        obtain ⟨S2, u2, p2, f2⟩ := ih (j + 1) k (S := sI (sI S1 374 h (-1)) 374 j (-1)) (b := prec (jn M h j) (d + shr T h j) b) (by omega) (by omega) (by omega) (hC.fr (fun u k a b => f1' u k (by omega))) ⟨fun i hi => by
          by_cases a : i = j
          · subst a; rw [sq_hit, e]
          · rw [sq_off (by omega)]
            by_cases c : i = h
            · subst c; rw [sq_hit, hM]
            · rw [sq_off (by omega), p1.1 i hi]
              unfold jn
              rw [if_neg a, if_neg c], by rw [sq_u (by decide), sq_u (by decide)]; exact p1.2.1, fun i hi => by rw [sq_u (by decide), sq_u (by decide)]; exact p1.2.2 i hi⟩
        exact ⟨S2, (congrArg (fun x => bd x _) u1).trans u2, p2, f1'.trans f2⟩
    · rw [if_neg e, if_neg e]
      exact ih (j + 1) k (by omega) (by omega) (by omega) hC hQ
theorem x0_pF (hF : 20 < F) (hW : Wf T) (r : Nat) : ∀ (h D : Nat) {S : mS} {M : Nat → Int32} {d : Nat} {b : Int32 × (Nat → Int32)}, h + r = T 0 0 → r < D → CT S 41 T → Q0 S M b → ∃ S', fD_X0_pairFrom F D S 372 41 (nI h) (nI d) = some S' ∧ Q0 S' M (pF T r h M d b) ∧ F7 S S' := by
  have w0 := hW.1
  induction r with
  | zero =>
    intro h D S M d b hh hD hC hQ
    obtain ⟨D, rfl⟩ : ∃ k', D = k' + 1 := ⟨D - 1, by omega⟩
    obtain ⟨S1, u1, p1, f1⟩ := x0_kB (F := F) (d := d) hQ
    exact ⟨S1, by rw [u_pF, hC.1, if_pos (nI_le (by omega) (by omega)), u1, bd_s], p1, f1⟩
  | succ r ih =>
    intro h D S M d b hh hD hC hQ
    obtain ⟨D, rfl⟩ : ∃ k', D = k' + 1 := ⟨D - 1, by omega⟩
    have hh' : h < T 0 0 := by omega
    obtain ⟨S1, u1, p1, f1⟩ := ih (h + 1) D (d := d) (by omega) (by omega) hC hQ
    have hC1 : CT S1 41 T := hC.fr (fun u k a b => f1 u k (by omega))
    rw [u_pF, hC.1, if_neg (nI_ge hh' (by omega)), if_pos (nI_lt (show h < 7 by omega) (by omega)), nI_add, u1, bd_s, inb_n (n := h) (by omega) (by omega), ck_t, nI_clamp (n := h) (by omega), p1.1 h (by omega), x6_livesn hC1 hW hh']
    show ∃ S', _ ∧ Q0 S' M (if M h = -1 then if (T 0 1).testBit h = true then pF T r (h + 1) M d b else pL T (pF T r (h + 1)) h M d r (h + 1) (pF T r (h + 1) M d b) else pF T r (h + 1) M d b) ∧ _
    by_cases e : M h = -1
    · rw [if_pos e, if_pos e]
      by_cases l : (T 0 1).testBit h = true
      · rw [l, if_neg (by decide), if_pos rfl]
        exact ⟨S1, rfl, p1, f1⟩
      · have l' : (T 0 1).testBit h = false := by cases y : (T 0 1).testBit h; rfl; exact absurd y l
        rw [l', if_pos (by decide), if_neg (by decide)]
        obtain ⟨S2, u2, p2, f2⟩ := x0_l53 (F := F) (rec := fD_X0_pairFrom F D) (prec := pF T r (h + 1)) hW (d := d) e hh' (fun hC hQ => ih (h + 1) D (by omega) (by omega) hC hQ) r (h + 1) F (by omega) (by omega) (by omega) hC1 p1
        exact ⟨S2, u2, p2, f1.trans f2⟩
    · rw [if_neg e, if_neg e]
      exact ⟨S1, rfl, p1, f1⟩
theorem x0_ch7 (m : Nat) : ∀ (i k : Nat) {S : mS}, i + m = 7 → m < k → ∃ S', lX0_choose_7 F 372 41 k S (nI i) = (bd (f_X0_pairFrom F S' 372 41 (nI 0) (nI 0)) fun q1 => some q1) ∧ (∀ d, S'.1 374 d = if i ≤ d ∧ d < 7 then -1 else S.1 374 d) ∧ ∀ u k, u ≠ 374 → S'.1 u k = S.1 u k := by
  induction m with
  | zero =>
    intro i k S hi hk
    obtain ⟨k, rfl⟩ : ∃ k', k = k' + 1 := ⟨k - 1, by omega⟩
    exact ⟨S, by rw [u_X0_choose_7, if_pos (nI_le (by omega) (by omega))], fun d => by rw [if_neg (by omega)], fun _ _ _ => rfl⟩
  | succ m ih =>
    intro i k S hi hk
    obtain ⟨k, rfl⟩ : ∃ k', k = k' + 1 := ⟨k - 1, by omega⟩
    obtain ⟨S2, u2, c2, f2⟩ := ih (i + 1) k (S := sI S 374 i (-1)) (by omega) (by omega)
    refine ⟨S2, ?_, fun d => ?_, fun u k h => (f2 u k h).trans (sq_u h)⟩
    · rw [u_X0_choose_7, if_neg (nI_ge (by omega) (by omega)), inb_n (n := i) (by omega) (by omega), ck_t, nI_clamp (n := i) (by omega), stp_s, nI_add, u2]
    · rw [c2]
      by_cases e : d = i
      · subst e; rw [if_neg (show ¬ (d + 1 ≤ d ∧ d < 7) by omega), if_pos (show d ≤ d ∧ d < 7 by omega), sq_hit]
      · rw [sq_off (by omega)]
        by_cases z : i ≤ d ∧ d < 7
        · rw [if_pos (by omega), if_pos z]
        · rw [if_neg (by omega), if_neg z]
/-- the class has chosen -/
def wdB (T : Tw) : Int32 × (Nat → Int32) := pF T (T 0 0) 0 (fun _ => -1) 0 (-1, fun _ => -1)
theorem x0_choose (hF : 20 < F) (hW : Wf T) {S : mS} (hC : CT S 41 T) : ∃ S', f_X0_choose F S 372 41 = some S' ∧ S'.1 372 0 = (wdB T).1 ∧ (∀ i, i < 7 → S'.1 373 i = (wdB T).2 i) ∧ F7 S S' := by
  have w0 := hW.1
  obtain ⟨S1, u1, c1, f1⟩ := x0_ch7 (F := F) 7 0 F (S := sI S 372 0 (-1)) (by omega) (by omega)
  have f1' : F7 S S1 := fun u k c => by rw [f1 u k (by omega), sq_u (by omega)]
  obtain ⟨S2, u2, p2, f2⟩ := x0_pF hF hW (T 0 0) 0 16 (S := S1) (M := fun _ => -1) (d := 0) (b := (-1, S1.1 373)) (by omega) (by omega) (hC.fr (fun u k a b => f1' u k (by omega))) ⟨fun i hi => by rw [c1, if_pos (by omega)], by rw [f1 _ _ (by decide), sq_hit], fun _ _ => rfl⟩
  rw [pF_st (y := fun _ => -1) (T 0 0) 0 (by decide)] at p2
  refine ⟨S2, ?_, p2.2.1, p2.2.2, f1'.trans f2⟩
  rw [u_X0_choose, stp_s, u1, u_X0_pairFrom, u2, bd_s]
end
