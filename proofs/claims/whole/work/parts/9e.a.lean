/-! ===== appointments: the class's loop ===== -/
def opM (T : Tw) (mem : Nat → Nat) (i d : Nat) : Bool := !(T 1 (mem i)).testBit ((T 0 2 + d) % 20)
theorem ix_c {n : Nat} {mem : Nat → Nat} {h c i : Nat} (hA : asc n mem) (hc : ∀ i, i < n → (mem i < h ↔ i < c)) (hi : i < n) (e : mem i = h) : i = c := by
  have a : ¬ i < c := fun w => by have := (hc i hi).mpr w; omega
  rcases Nat.lt_or_ge c i with w | w
  · have x := hA.1 c i w hi
    have := (hc c (by omega)).mp (by omega)
    omega
  · omega
theorem ix_s {n : Nat} {mem : Nat → Nat} {h c : Nat} (hA : asc n mem) (hc : ∀ i, i < n → (mem i < h ↔ i < c)) (hn : c < n) (e : mem c = h) : ∀ i, i < n → (mem i < h + 1 ↔ i < c + 1) := fun i hi => by
  have a := hc i hi
  by_cases w : mem i = h
  · have := ix_c hA hc hi w; omega
  · by_cases x : i = c
    · rw [x] at w; exact absurd e w
    · omega
theorem ix_n {n : Nat} {mem : Nat → Nat} {h c : Nat} (hc : ∀ i, i < n → (mem i < h ↔ i < c)) (e : ∀ i, i < n → ¬ mem i = h) : ∀ i, i < n → (mem i < h + 1 ↔ i < c) := fun i hi => by
  have a := hc i hi
  have b := e i hi
  omega
section
variable {F : Nat} {T : Tw} {n : Nat} {mem : Nat → Nat}
theorem x1_l32 (hW : Wf T) (hA : asc n mem) (hmem : ∀ i, i < n → mem i < T 0 0) {m b len left U : Nat} {rec : mS → Nat → Int32 → Int32 → Int32 → Nat → Option (mS × Bool)} (hrec : ∀ {S : mS} {left U : Nat}, CT S 41 T → LU n mem left U → Sp n (opM T mem) mem (rec S 41 (nI left) (nI (b + 1)) (nI len) 371) S m (b + 1) U) (hL : LU n mem left U) (q : Nat) : ∀ (h k c : Nat) {S : mS}, h + q = 7 → q < k → c ≤ n → (∀ i, i < n → (mem i < h ↔ i < c)) → CT S 41 T → (∀ v, v < c * (n + 1) ^ m → okL n (opM T mem) b (m + 1) U v = false) → Sp n (opM T mem) mem (lX1_canPlace_32 rec F 41 (nI left) (nI b) (nI len) 371 k S (nI ((T 0 2 + b) % 20)) (nI h)) S (m + 1) b U := by
  have w0 := hW.1
  have pw : (n + 1) ^ (m + 1) = n * (n + 1) ^ m + (n + 1) ^ m := by rw [Nat.pow_succ, Nat.mul_comm, Nat.succ_mul]
  have mn : ∀ c w, w < (n + 1) ^ m → c ≤ n → c * (n + 1) ^ m + w < (n + 1) ^ (m + 1) := fun c w hw hc => by
    have := Nat.mul_le_mul_right ((n + 1) ^ m) hc
    omega
  have lss : ∀ {c w : Nat} {X : Nat}, (∀ v, v < c * (n + 1) ^ m → okL n (opM T mem) b (m + 1) U v = false) → (∀ w', w' < w → okL n (opM T mem) b (m + 1) U (c * (n + 1) ^ m + w') = false) → ∀ v', v' < c * (n + 1) ^ m + w → okL n (opM T mem) b (m + 1) U v' = false := fun {c w X} h1 h2 v' hv => by
    by_cases e : v' < c * (n + 1) ^ m
    · exact h1 v' e
    · have := h2 (v' - c * (n + 1) ^ m) (by omega)
      rw [show c * (n + 1) ^ m + (v' - c * (n + 1) ^ m) = v' by omega] at this
      exact this
  induction q with
  | zero =>
    intro h k c S hh hk hcn hc hC hB
    obtain ⟨k, rfl⟩ : ∃ k', k = k' + 1 := ⟨k - 1, by omega⟩
    have ec : c = n := by
      by_cases e : c = n
      · exact e
      · have := (hc c (by omega)).mp (by have := hA.2 c (by omega); omega)
        omega
    subst ec
    obtain ⟨S', r, u, f, w⟩ := hrec hC hL
    refine ⟨S', r, by rw [u_X1_canPlace_32, if_pos (nI_le (by omega) (by omega)), nI_add, u, bd_s], f, ?_⟩
    rcases w with ⟨rfl, w⟩ | ⟨rfl, w, w1, w2, w3, w4⟩
    · refine Or.inl ⟨rfl, fun v hv => ?_⟩
      exact blk (Nat.le_refl c) hB (fun w' hw => by rw [okL_top m U c w' (Nat.le_refl c) hw, if_pos rfl]; exact w w' hw) v (by rw [Nat.succ_mul, ← pw]; exact hv)
    · refine Or.inr ⟨rfl, c * (c + 1) ^ m + w, mn c w w1 (Nat.le_refl c), by rw [okL_top m U c w (Nat.le_refl c) w1, if_pos rfl]; exact w2, lss (X := 0) hB (fun w' hw => by rw [okL_top m U c w' (Nat.le_refl c) (by omega), if_pos rfl]; exact w3 w' hw), fun i hi => ?_⟩
      have := hL.2.2.1 i hi
      rw [psL_top m c w i (by omega) (Nat.le_refl c) w1]
      exact w4 i hi
  | succ q ih =>
    intro h k c S hh hk hcn hc hC hB
    obtain ⟨k, rfl⟩ : ∃ k', k = k' + 1 := ⟨k - 1, by omega⟩
    have l7 := hL.1
    have u := u_X1_canPlace_32 (rX1_canPlace := rec) (F := F) (a1 := 41) (a2 := nI left) (a3 := nI b) (a4 := nI len) (a5 := 371) (n := k) (S := S) (v5 := nI ((T 0 2 + b) % 20)) (v6 := nI h)
    rw [if_neg (nI_ge (show h < 7 by omega) (by omega)), nI_add] at u
    simp (disch := omega) only [i_bit1] at u
    have dm := Nat.mod_lt (T 0 2 + b) (show 20 > 0 by decide)
    by_cases lb : left.testBit h = true
    · obtain ⟨i, iU, im⟩ := (hL.2.2.2 h).mp lb
      have hi := hL.2.2.1 i iU
      have e := ix_c hA hc hi im
      subst e
      have hT : h < T 0 0 := by have := hmem i hi; omega
      rw [if_pos lb, x6_isShutn hC hW hT (by omega), bd_s] at u
      have hs := ix_s hA hc hi im
      cases sh : (T 1 h).testBit ((T 0 2 + b) % 20)
      · rw [sh, if_neg (by decide), i_shl (by omega), i_dif, nI_add] at u
        have hop : opM T mem i b = true := by unfold opM; rw [im, sh]; rfl
        obtain ⟨S', r, u2, f, w⟩ := hrec (S := S) hC (hL.rm hA iU)
        rw [im] at u2
        rw [show rec S 41 (nI (left ^^^ (left &&& 2 ^ h))) (nI (b + 1)) (nI len) 371 = some (S', r) from u2, bd_s] at u
        rcases w with ⟨rfl, w⟩ | ⟨rfl, w, w1, w2, w3, w4⟩
        · rw [if_neg (show ¬ ((S', false) : mS × Bool).2 = true from Bool.false_ne_true)] at u
          have hC' : CT S' 41 T := hC.fr (fun u k a b => f u k (by omega))
          obtain ⟨S2, r2, u3, f3, w3⟩ := ih (h + 1) k (i + 1) (S := S') (by omega) (by omega) (by omega) hs hC' (blk (by omega) hB (fun w' hw => by rw [okL_top m U i w' (by omega) hw, if_neg (by omega), w w' hw, Bool.and_false]))
          exact ⟨S2, r2, u.trans u3, fun u k a => (f3 u k a).trans (f u k a), w3⟩
        · rw [if_pos rfl, inb_n (n := h) (by omega) (by omega), ck_t, nI_clamp (n := h) (by omega), stp_s] at u
          refine ⟨sI S' 371 h (nI b), true, u, fun u k a => by rw [sq_u a]; exact f u k a, Or.inr ⟨rfl, i * (n + 1) ^ m + w, mn i w w1 (by omega), ?_, lss (X := 0) hB (fun w' hw => by rw [okL_top m U i w' (by omega) (by omega), if_neg (by omega), w3 w' hw, Bool.and_false]), fun j hj => ?_⟩⟩
          · rw [okL_top m U i w (by omega) w1, if_neg (by omega), iU, hop, w2]; rfl
          · by_cases x : j = i
            · subst x
              rw [im, sq_hit, psL_t (op := opM T mem) m (rmv U j) j w hi w1 (by rw [rmv_tb, decide_eq_true rfl, Bool.not_true, Bool.and_false]) w2]
            · have ne : ¬ mem j = h := fun y => x (hA.inj (hL.2.2.1 j hj) hi (y.trans im.symm))
              rw [sq_off (by omega), psL_top m i w j x (by omega) w1]
              exact w4 j (by rw [rmv_tb, hj, decide_eq_false x]; rfl)
      · rw [sh, if_pos rfl] at u
        have hop : opM T mem i b = false := by unfold opM; rw [im, sh]; rfl
        obtain ⟨S2, r2, u3, f3, w3⟩ := ih (h + 1) k (i + 1) (by omega) (by omega) (by omega) hs hC (blk (by omega) hB (fun w' hw => by rw [okL_top m U i w' (by omega) hw, if_neg (by omega), hop, Bool.and_false, Bool.false_and]))
        exact ⟨S2, r2, u.trans u3, f3, w3⟩
    · rw [if_neg lb] at u
      by_cases x : c < n ∧ mem c = h
      · have uc : U.testBit c = false := by
          cases y : U.testBit c
          · rfl
          · exact absurd ((hL.2.2.2 h).mpr ⟨c, y, x.2⟩) lb
        obtain ⟨S2, r2, u3, f3, w3⟩ := ih (h + 1) k (c + 1) (by omega) (by omega) (by omega) (ix_s hA hc x.1 x.2) hC (blk hcn hB (fun w' hw => by rw [okL_top m U c w' hcn hw, if_neg (by omega), uc, Bool.false_and, Bool.false_and]))
        exact ⟨S2, r2, u.trans u3, f3, w3⟩
      · obtain ⟨S2, r2, u3, f3, w3⟩ := ih (h + 1) k c (by omega) (by omega) hcn (ix_n hc (fun i hi y => x (by have := ix_c hA hc hi y; subst this; exact ⟨hi, y⟩))) hC hB
        exact ⟨S2, r2, u.trans u3, f3, w3⟩
end
