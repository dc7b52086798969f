/-! ===== weddings: the reference's rows ===== -/
/-- h seeks the next from j on -/
def tl (F k f g : Nat) (S : mS) (h : Nat) (a1 a2 : Int32) (j : Nat) (v : Int32) : Option (mS × Int32) := bd (bd (lX9_nextMate_15 F 375 a1 a2 f S (nI j)) fun q3 => if q3 = (-1 : Int32) then (lX9_nextRow_9 F 375 g S (nI h + (-1))) else (ck (inb (nI h) 7) (stp (sI S 388 (nI h).toNatClampNeg q3) fun S5 => ck (inb q3 7) (stp (sI S5 388 q3.toNatClampNeg (nI h)) fun S7 => some (S7, true))))) fun q2 => lX9_wed_32 F 375 k q2.1 v (bI q2.2)
theorem pm1 : ∀ h, h < 8 → nI (h + 1) + (-1) = nI h := by decide
section
variable {F : Nat} {T : Tw}
theorem bd_bd {α β γ : Type} (x : Option α) (f : α → Option β) (g : β → Option γ) : bd (bd x f) g = bd x (fun a => bd (f a) g) := by cases x <;> rfl
theorem scn_un (hW : Wf T) {S : mS} {h k g : Nat} {v : Int32} (hR : RT S 376 T) (hh : h < T 0 0) (l : (T 0 1).testBit h = false) (e : S.1 388 h = -1) : scn F k (g + 1) (h + 1) S v = tl F k F g (sI S 388 h (-1)) h (nI h) (-1) (h + 1) v := by
  have w0 := hW.1
  unfold scn tl
  rw [pm1 h (by omega), u_X9_nextRow_9, if_neg (nI_nlt (by omega) (by omega)), x9_isHeren hR hW hh, l, bd_s, if_pos (by decide), inb_n (n := h) (by omega) (by omega), ck_t, nI_clamp (n := h) (by omega), e, if_pos rfl, u_X9_nextRow_44, inb_n (n := h) (by omega) (by omega), ck_t, nI_clamp (n := h) (by omega), e, if_pos rfl, u_X9_nextRow_63, inb_n (n := h) (by omega) (by omega), ck_t, nI_clamp (n := h) (by omega), stp_s, u_X9_nextMate, if_pos rfl, nI_add]
theorem scn_jn (hW : Wf T) {S : mS} {h j k g : Nat} {v : Int32} (hR : RT S 376 T) (hh : h < T 0 0) (hj : h < j) (hn : j < T 0 0) (l : (T 0 1).testBit h = false) (e : S.1 388 h = nI j) : scn F k (g + 1) (h + 1) S v = tl F k F g (sI (sI S 388 j (-1)) 388 h (-1)) h (nI h) (nI j) (j + 1) v := by
  have w0 := hW.1
  have nm : ¬ nI j = -1 := by rw [n_m1 (by omega)]; exact fun h => h
  unfold scn tl
  rw [pm1 h (by omega), u_X9_nextRow_9, if_neg (nI_nlt (by omega) (by omega)), x9_isHeren hR hW hh, l, bd_s, if_pos (by decide), inb_n (n := h) (by omega) (by omega), ck_t, ck_t, nI_clamp (n := h) (by omega), e, if_neg nm, if_pos (nI_le (by omega) (by omega)), u_X9_nextRow_44, inb_n (n := h) (by omega) (by omega), ck_t, nI_clamp (n := h) (by omega), e, if_neg nm, inb_n (n := j) (by omega) (by omega), ck_t, nI_clamp (n := j) (by omega), stp_s, u_X9_nextRow_63, inb_n (n := h) (by omega) (by omega), ck_t, nI_clamp (n := h) (by omega), stp_s, u_X9_nextMate, if_neg nm, nI_add]
theorem scn_lo (hW : Wf T) {S : mS} {h k g : Nat} {v : Int32} (hR : RT S 376 T) (hh : h < T 0 0) (l : (T 0 1).testBit h = true ∨ ∃ i, i < h ∧ S.1 388 h = nI i) : scn F k (g + 1) (h + 1) S v = scn F k g h S v := by
  have w0 := hW.1
  unfold scn
  rw [pm1 h (by omega), u_X9_nextRow_9, if_neg (nI_nlt (by omega) (by omega)), x9_isHeren hR hW hh, bd_s]
  rcases l with l | ⟨i, hi, e⟩
  · rw [l, if_neg (by decide)]
  · have nm : ¬ nI i = -1 := by rw [n_m1 (by omega)]; exact fun h => h
    cases (T 0 1).testBit h
    · rw [if_pos (by decide), inb_n (n := h) (by omega) (by omega), ck_t, ck_t, nI_clamp (n := h) (by omega), e, if_neg nm, if_neg (nI_ge hi (by omega))]
    · rw [if_neg (by decide)]
theorem x9_tl (hF : 40 < F) (hW : Wf T) {h g X : Nat} {M : Nat → Int32} (hh : h < T 0 0) (l : (T 0 1).testBit h = false) (hV : V9 (T 0 0) h M) (mh : M h = -1) {rec : (Nat → Int32) → Nat → Int32 × (Nat → Int32) → Int32 × (Nat → Int32)} (IH : ∀ {S : mS} {M : Nat → Int32} {b : Int32 × (Nat → Int32)}, RT S 376 T → Q9 S M b.2 → V9 (T 0 0) (h + 1) M → ∃ L S', L ≤ X ∧ (∀ k, lX9_wed_32 F 375 (k + L) S b.1 (nI 1) = scn F k (g + 1) (h + 1) S' (rec M (sm (shF T M) (T 0 0)) b).1) ∧ Q9 S' M (rec M (sm (shF T M) (T 0 0)) b).2 ∧ F8 S S') (m : Nat) : ∀ (j f : Nat) (a1 a2 : Int32) {S : mS} {b : Int32 × (Nat → Int32)}, j + m = T 0 0 → h < j → m < f → RT S 376 T → Q9 S M b.2 → ∃ L S', L ≤ m * X ∧ (∀ k, tl F (k + L) f g S h a1 a2 j b.1 = scn F k g h S' (pL T rec h M (sm (shF T M) (T 0 0)) m j b).1) ∧ Q9 S' M (pL T rec h M (sm (shF T M) (T 0 0)) m j b).2 ∧ F8 S S' := by
  have w0 := hW.1
  induction m with
  | zero =>
    intro j f a1 a2 S b hj hl hf hR hQ
    obtain ⟨f, rfl⟩ : ∃ k', f = k' + 1 := ⟨f - 1, by omega⟩
    have r0 : S.1 376 0 = nI (T 0 0) := hR.1
    refine ⟨0, S, by omega, fun k => ?_, hQ, F8.rfl' S⟩
    unfold tl
    rw [u_X9_nextMate_15, inb_n (n := 0) (by omega) (by omega), ck_t, ck_t, nI_clamp (n := 0) (by omega), r0, if_pos (nI_le (by omega) (by omega)), if_pos (nI_le (by omega) (by omega)), bd_s, if_pos rfl]
    rfl
  | succ m ih =>
    intro j f a1 a2 S b hj hl hf hR hQ
    obtain ⟨f, rfl⟩ : ∃ k', f = k' + 1 := ⟨f - 1, by omega⟩
    have r0 : S.1 376 0 = nI (T 0 0) := hR.1
    have hj' : j < T 0 0 := by omega
    have xm : (m + 1) * X = m * X + X := Nat.succ_mul m X
    have pe : pL T rec h M (sm (shF T M) (T 0 0)) (m + 1) j b = pL T rec h M (sm (shF T M) (T 0 0)) m (j + 1) (if M j = -1 then if (T 0 1).testBit j = true then b else rec (jn M h j) (sm (shF T M) (T 0 0) + shr T h j) b else b) := rfl
    have skip : (∀ k, tl F k (f + 1) g S h a1 a2 j b.1 = tl F k f g S h a1 a2 (j + 1) b.1) → (if M j = -1 then if (T 0 1).testBit j = true then b else rec (jn M h j) (sm (shF T M) (T 0 0) + shr T h j) b else b) = b → ∃ L S', L ≤ (m + 1) * X ∧ (∀ k, tl F (k + L) (f + 1) g S h a1 a2 j b.1 = scn F k g h S' (pL T rec h M (sm (shF T M) (T 0 0)) (m + 1) j b).1) ∧ Q9 S' M (pL T rec h M (sm (shF T M) (T 0 0)) (m + 1) j b).2 ∧ F8 S S' := fun e1 e2 => by
      obtain ⟨L, S', h1, h2, h3, h4⟩ := ih (j + 1) f a1 a2 (by omega) (by omega) (by omega) hR hQ
      rw [pe, e2]
      exact ⟨L, S', by omega, fun k => (e1 _).trans (h2 k), h3, h4⟩
    by_cases lj : (T 0 1).testBit j = true
    · refine skip (fun k => ?_) (by rw [if_pos lj, ite_self])
      unfold tl
      rw [u_X9_nextMate_15, inb_n (n := 0) (by omega) (by omega), ck_t, ck_t, nI_clamp (n := 0) (by omega), r0, if_neg (nI_ge hj' (by omega)), x9_isHeren hR hW hj', lj, bd_s, if_neg (by decide), nI_add]
    · have lj' : (T 0 1).testBit j = false := by cases y : (T 0 1).testBit j; rfl; exact absurd y lj
      by_cases mj : M j = -1
      · rw [pe, if_pos mj, if_neg lj]
        let S7 := sI (sI S 388 h (nI j)) 388 j (nI h)
        have e1 : ∀ k, tl F k (f + 1) g S h a1 a2 j b.1 = lX9_wed_32 F 375 k S7 b.1 (nI 1) := fun k => by
          have nm : ¬ nI j = -1 := by rw [n_m1 (by omega)]; exact fun h => h
          unfold tl
          rw [u_X9_nextMate_15, inb_n (n := 0) (by omega) (by omega), ck_t, ck_t, nI_clamp (n := 0) (by omega), r0, if_neg (nI_ge hj' (by omega)), x9_isHeren hR hW hj', lj', bd_s, if_pos (by decide), inb_n (n := j) (by omega) (by omega), ck_t, nI_clamp (n := j) (by omega), hQ.1 j (by omega), if_pos mj, if_neg (nI_ge hj' (by omega)), bd_s, if_neg nm, inb_n (n := h) (by omega) (by omega), ck_t, nI_clamp (n := h) (by omega), stp_s, inb_n (n := j) (by omega) (by omega), ck_t, nI_clamp (n := j) (by omega), stp_s, bd_s]
          rfl
        have f7 : F8 S S7 := fun u k c d => by show (sI _ _ _ _).1 _ _ = _; rw [sq_u c, sq_u c]
        obtain ⟨L1, S1, a1', a2', a3', a4'⟩ := IH (S := S7) (M := jn M h j) (b := b) (hR.fr (fun k => f7 _ _ (by decide) (by decide))) ⟨fun i hi => by
          show (sI _ _ _ _).1 _ _ = _
          unfold jn
          by_cases a : i = j
          · subst a; rw [sq_hit, if_pos rfl]
          · rw [sq_off (by omega), if_neg a]
            by_cases c : i = h
            · subst c; rw [sq_hit, if_pos rfl]
            · rw [sq_off (by omega), if_neg c]; exact hQ.1 i hi, fun i hi => by show (sI _ _ _ _).1 _ _ = _; rw [sq_u (by decide), sq_u (by decide)]; exact hQ.2 i hi⟩ (V9_jn hV hl hj')
        rw [sh_jn hl hj' w0 mh mj] at a2' a3'
        generalize hb1 : rec (jn M h j) (sm (shF T M) (T 0 0) + shr T h j) b = b1 at *
        have hR1 : RT S1 376 T := hR.fr (fun k => (a4' _ _ (by decide) (by decide)).trans (f7 _ _ (by decide) (by decide)))
        have sh1 : S1.1 388 h = nI j := by
          rw [a3'.1 h (by omega)]; unfold jn; rw [if_neg (show ¬ h = j by omega), if_pos rfl]
        have f8 : F8 S1 (sI (sI S1 388 j (-1)) 388 h (-1)) := fun u k c d => by rw [sq_u c, sq_u c]
        obtain ⟨L2, S2, b1', b2', b3', b4'⟩ := ih (j + 1) F (nI h) (nI j) (S := sI (sI S1 388 j (-1)) 388 h (-1)) (b := b1) (by omega) (by omega) (by omega) (hR1.fr (fun k => f8 _ _ (by decide) (by decide))) ⟨fun i hi => by
          by_cases c : i = h
          · subst c; rw [sq_hit, mh]
          · rw [sq_off (by omega)]
            by_cases a : i = j
            · subst a; rw [sq_hit, mj]
            · rw [sq_off (by omega), a3'.1 i hi]
              unfold jn
              rw [if_neg a, if_neg c], fun i hi => by rw [sq_u (by decide), sq_u (by decide)]; exact a3'.2 i hi⟩
        refine ⟨L2 + L1, S2, by omega, fun k => ?_, b3', ((f7.trans a4').trans f8).trans b4'⟩
        rw [e1, ← Nat.add_assoc, a2', scn_jn hW hR1 hh hl hj' l sh1, b2']
      · refine skip (fun k => ?_) (by rw [if_neg mj])
        unfold tl
        rw [u_X9_nextMate_15, inb_n (n := 0) (by omega) (by omega), ck_t, ck_t, nI_clamp (n := 0) (by omega), r0, if_neg (nI_ge hj' (by omega)), x9_isHeren hR hW hj', lj', bd_s, if_pos (by decide), inb_n (n := j) (by omega) (by omega), ck_t, nI_clamp (n := j) (by omega), hQ.1 j (by omega), if_neg mj, nI_add]
end
