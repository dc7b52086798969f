/-! ===== rows of numbers written in loops; the reference keeps a step ===== -/
/-- a cell replaced -/
def sF (S : mS) (c : Nat) (g : Nat → Int32) : mS := (fun u j => if u = c then g j else S.1 u j, S.2)
theorem sF_c (S : mS) (c : Nat) (g : Nat → Int32) (j : Nat) : (sF S c g).1 c j = g j := if_pos rfl
theorem sF_u {S : mS} {c : Nat} {g : Nat → Int32} {u j : Nat} (h : u ≠ c) : (sF S c g).1 u j = S.1 u j := if_neg h
theorem sF_e (S : mS) (c : Nat) : S = sF S c (S.1 c) := by
  refine Prod.ext (funext fun u => funext fun j => ?_) rfl
  show S.1 u j = if u = c then S.1 c j else S.1 u j
  split
  · rename_i h; rw [h]
  · rfl
theorem sF_I (S : mS) (c : Nat) (g : Nat → Int32) (k : Nat) (v : Int32) : sI (sF S c g) c k v = sF S c (fun j => if j = k then v else g j) := by
  refine Prod.ext (funext fun u => funext fun j => ?_) rfl
  show (if u = c ∧ j = k then v else if u = c then g j else S.1 u j) = if u = c then (if j = k then v else g j) else S.1 u j
  by_cases h : u = c
  · by_cases h2 : j = k
    · rw [if_pos ⟨h, h2⟩, if_pos h, if_pos h2]
    · rw [if_neg (fun q => h2 q.2), if_pos h, if_pos h, if_neg h2]
  · rw [if_neg (fun q => h q.1), if_neg h, if_neg h]
theorem sF_cong {S : mS} {c : Nat} {f g : Nat → Int32} (h : ∀ j, f j = g j) : sF S c f = sF S c g := congrArg (sF S c) (funext h)
def fillg (g f : Nat → Int32) (d : Nat) (φ : Nat → Nat) (i : Nat) : Nat → Int32 := fun j => if d ≤ j ∧ j < d + i then f (φ (j - d)) else g j
theorem fg_in {g f : Nat → Int32} {d : Nat} {φ : Nat → Nat} {i j : Nat} (h1 : d ≤ j) (h2 : j < d + i) : fillg g f d φ i j = f (φ (j - d)) := if_pos ⟨h1, h2⟩
theorem fg_out {g f : Nat → Int32} {d : Nat} {φ : Nat → Nat} {i j : Nat} (h : j < d ∨ d + i ≤ j) : fillg g f d φ i j = g j := if_neg (fun q => by omega)
theorem fg_0 (g f : Nat → Int32) (d : Nat) (φ : Nat → Nat) : fillg g f d φ 0 = g := funext fun j => fg_out (by omega)
theorem fg_s {S : mS} {c : Nat} {g f : Nat → Int32} {d : Nat} {φ : Nat → Nat} {i k : Nat} {v : Int32} (hk : k = d + i) (h : v = f (φ i)) : sI (sF S c (fillg g f d φ i)) c k v = sF S c (fillg g f d φ (i + 1)) := by
  rw [sF_I]
  refine sF_cong (fun j => ?_)
  show (if j = k then v else if d ≤ j ∧ j < d + i then f (φ (j - d)) else g j) = if d ≤ j ∧ j < d + (i + 1) then f (φ (j - d)) else g j
  by_cases e : j = k
  · rw [if_pos e, if_pos (by omega), h, show j - d = i by omega]
  · rw [if_neg e]
    by_cases q : d ≤ j ∧ j < d + i
    · rw [if_pos q, if_pos (by omega)]
    · rw [if_neg q, if_neg (by omega)]
section
variable {F : Nat} {S : mS}
theorem x9_k13 (hF : 3000 < F) (K : mS → Option mS) (g : Nat → Int32) : lX9_keep_13 F K 375 F (sF S 376 g) (nI 0) = K (sF S 376 (fun j => if j = 3 then g 3 - nI 1 else fillg g g 108 (fun k => 180 + k) 2088 j)) := by
  have h := up_l (fun k i => lX9_keep_13 F K 375 k (sF S 376 (fillg g g 108 (fun k => 180 + k) i)) (nI i)) (K (sF S 376 (fun j => if j = 3 then g 3 - nI 1 else fillg g g 108 (fun k => 180 + k) 2088 j))) 2088 (fun k => ?_) (fun k i hi => ?_) F 0 (by omega) (by omega)
  · rw [fg_0] at h
    exact h
  · show lX9_keep_13 F K 375 (k + 1) _ _ = _
    rw [u_X9_keep_13, if_pos (nI_le (Nat.le_refl _) (by omega)), inb_n (by omega) (by omega), ck_t, ck_t, nI_clamp (by omega), sF_c, stp_s, sF_I, fg_out (by omega)]
  · show lX9_keep_13 F K 375 (k + 1) _ _ = lX9_keep_13 F K 375 k _ _
    rw [u_X9_keep_13, if_neg (nI_ge hi (by omega)), nI_add, nI_add, inb_n (by omega) (by omega), inb_n (by omega) (by omega), ck_t, ck_t, nI_clamp (by omega), nI_clamp (by omega), sF_c, stp_s, fg_s rfl (fg_out (by omega)), nI_add]
theorem x9_k82 (hF : 10 < F) (K : mS → Int32 → Int32 → Option mS) (g : Nat → Int32) {x : Nat} (hx : x + 72 ≤ 2268) (hx1 : 108 ≤ x) : lX9_keep_82 F K 375 F (sF S 376 g) (nI x) (nI 0) = K (sF S 376 (fillg g g (x + 1) (fun k => 8 + k) 3)) (nI x) (nI 0) := by
  have h := up_l (fun k i => lX9_keep_82 F K 375 k (sF S 376 (fillg g g (x + 1) (fun k => 8 + k) i)) (nI x) (nI i)) (K (sF S 376 (fillg g g (x + 1) (fun k => 8 + k) 3)) (nI x) (nI 0)) 3 (fun k => ?_) (fun k i hi => ?_) F 0 (by omega) (by omega)
  · rw [fg_0] at h
    exact h
  · show lX9_keep_82 F K 375 (k + 1) _ _ _ = _
    rw [u_X9_keep_82, if_pos (nI_le (Nat.le_refl _) (by omega))]
  · show lX9_keep_82 F K 375 (k + 1) _ _ _ = lX9_keep_82 F K 375 k _ _ _
    rw [u_X9_keep_82, if_neg (nI_ge hi (by omega)), nI_add, nI_add, nI_add, inb_n (by omega) (by omega), inb_n (by omega) (by omega), ck_t, ck_t, nI_clamp (by omega), nI_clamp (by omega), sF_c, stp_s, fg_s rfl (fg_out (by omega)), nI_add]
def hph (q : Nat) : Nat := 12 + 8 * (q / 4) + q % 4
theorem x9_k122 (hF : 10 < F) (K : mS → Int32 → Int32 → Option mS) (g : Nat → Int32) {x h : Nat} (hx : x + 72 ≤ 2268) (hx1 : 108 ≤ x) (hh : h < 7) : lX9_keep_122 F K 375 F (sF S 376 (fillg g g (x + 4) hph (4 * h))) (nI x) (nI h) (nI 0) = K (sF S 376 (fillg g g (x + 4) hph (4 * (h + 1)))) (nI x) (nI (h + 1)) := by
  refine up_l (fun k i => lX9_keep_122 F K 375 k (sF S 376 (fillg g g (x + 4) hph (4 * h + i))) (nI x) (nI h) (nI i)) (K (sF S 376 (fillg g g (x + 4) hph (4 * (h + 1)))) (nI x) (nI (h + 1))) 4 (fun k => ?_) (fun k i hi => ?_) F 0 (by omega) (by omega)
  · show lX9_keep_122 F K 375 (k + 1) _ _ _ _ = _
    rw [u_X9_keep_122, if_pos (nI_le (Nat.le_refl _) (by omega)), nI_add]
    rfl
  · show lX9_keep_122 F K 375 (k + 1) _ _ _ _ = lX9_keep_122 F K 375 k _ _ _ _
    have e : fillg g g (x + 4) hph (4 * h + i) (12 + 8 * h + i) = g (hph (4 * h + i)) := by
      rw [fg_out (by omega)]
      exact congrArg g (by unfold hph; omega)
    rw [u_X9_keep_122, if_neg (nI_ge hi (by omega)), x9_get _ (by omega) (by omega), bd_s, nI_add, pk_mul, nI_add, nI_add, inb_n (by omega) (by omega), ck_t, nI_clamp (by omega), sF_c, stp_s, fg_s (show x + 4 + 4 * h + i = x + 4 + (4 * h + i) by omega) e, nI_add]
    rfl
theorem x9_k114 (hF : 10 < F) (K : mS → Int32 → Int32 → Option mS) (g : Nat → Int32) {x : Nat} (hx : x + 72 ≤ 2268) (hx1 : 108 ≤ x) : lX9_keep_114 F K 375 F (sF S 376 g) (nI x) (nI 0) = K (sF S 376 (fillg g g (x + 4) hph 28)) (nI x) (nI 0) := by
  have h := up_l (fun k i => lX9_keep_114 F K 375 k (sF S 376 (fillg g g (x + 4) hph (4 * i))) (nI x) (nI i)) (K (sF S 376 (fillg g g (x + 4) hph 28)) (nI x) (nI 0)) 7 (fun k => ?_) (fun k i hi => ?_) F 0 (by omega) (by omega)
  · rw [fg_0] at h
    exact h
  · show lX9_keep_114 F K 375 (k + 1) _ _ _ = _
    rw [u_X9_keep_114, if_pos (nI_le (Nat.le_refl _) (by omega))]
  · show lX9_keep_114 F K 375 (k + 1) _ _ _ = lX9_keep_114 F K 375 k _ _ _
    rw [u_X9_keep_114, if_neg (nI_ge hi (by omega)), x9_k122 hF _ g hx hx1 hi]
theorem x9_k161 (hF : 50 < F) (g : Nat → Int32) {x : Nat} (hx : x + 72 ≤ 2268) (hx1 : 108 ≤ x) : lX9_keep_161 F 375 F (sF S 376 g) (nI x) (nI 0) = some (sF S 376 (fun j => if j = 3 then g 3 + nI 1 else fillg g g (x + 32) (fun k => 2268 + k) 40 j)) := by
  have h := up_l (fun k i => lX9_keep_161 F 375 k (sF S 376 (fillg g g (x + 32) (fun k => 2268 + k) i)) (nI x) (nI i)) (some (sF S 376 (fun j => if j = 3 then g 3 + nI 1 else fillg g g (x + 32) (fun k => 2268 + k) 40 j))) 40 (fun k => ?_) (fun k i hi => ?_) F 0 (by omega) (by omega)
  · rw [fg_0] at h
    exact h
  · show lX9_keep_161 F 375 (k + 1) _ _ _ = _
    rw [u_X9_keep_161, if_pos (nI_le (Nat.le_refl _) (by omega)), inb_n (by omega) (by omega), ck_t, ck_t, nI_clamp (by omega), sF_c, stp_s, sF_I, fg_out (by omega)]
  · show lX9_keep_161 F 375 (k + 1) _ _ _ = lX9_keep_161 F 375 k _ _ _
    rw [u_X9_keep_161, if_neg (nI_ge hi (by omega)), nI_add, nI_add, nI_add, inb_n (by omega) (by omega), inb_n (by omega) (by omega), ck_t, ck_t, nI_clamp (by omega), nI_clamp (by omega), sF_c, stp_s, fg_s rfl (fg_out (by omega)), nI_add]
/-- one step written into the row -/
def kg (g : Nat → Int32) (x : Nat) : Nat → Int32 :=
  let g1 : Nat → Int32 := fun j => if j = x then g 0 else g j
  let g2 := fillg g1 g1 (x + 1) (fun k => 8 + k) 3
  let g3 := fillg g2 g2 (x + 4) hph 28
  fun j => if j = 3 then g3 3 + nI 1 else fillg g3 g3 (x + 32) (fun k => 2268 + k) 40 j
theorem x9_k55 (hF : 3000 < F) (g : Nat → Int32) {s : Nat} (hs : s < 30) (h3 : g 3 = nI s) : lX9_keep_55 F (fun (S : mS) (v1 : Int32) (v2 : Int32) => lX9_keep_82 F (fun (S : mS) (v1 : Int32) (v2 : Int32) => lX9_keep_114 F (fun (S : mS) (v1 : Int32) (v2 : Int32) => lX9_keep_161 F 375 F S v1 v2) 375 F S v1 v2) 375 F S v1 v2) 375 (sF S 376 g) = some (sF S 376 (kg g (108 + 72 * s))) := by
  rw [u_X9_keep_55, inb_n (by omega) (by omega), inb_n (by omega) (by omega), ck_t, ck_t, nI_clamp (by omega), nI_clamp (by omega), sF_c, sF_c, h3, pk_mul, nI_add, inb_n (by omega) (by omega), ck_t, nI_clamp (by omega), stp_s, sF_I]
  show lX9_keep_82 F _ 375 F _ _ _ = _
  rw [x9_k82 (by omega) _ _ (by omega) (by omega)]
  show lX9_keep_114 F _ 375 F _ _ _ = _
  rw [x9_k114 (by omega) _ _ (by omega) (by omega)]
  show lX9_keep_161 F 375 F _ _ _ = _
  rw [x9_k161 (by omega) _ (by omega) (by omega)]
  rfl
theorem kg_x (g : Nat → Int32) {x : Nat} (hx : 108 ≤ x) (hx2 : x + 72 ≤ 2268) : kg g x x = g 0 ∧ (∀ k, k < 3 → kg g x (x + 1 + k) = g (8 + k)) ∧ (∀ h k, h < 7 → k < 4 → kg g x (x + 4 + 4 * h + k) = g (12 + 8 * h + k)) ∧ (∀ k, k < 40 → kg g x (x + 32 + k) = g (2268 + k)) ∧ (∀ j, j < x ∨ x + 72 ≤ j → j ≠ 3 → kg g x j = g j) ∧ kg g x 3 = g 3 + nI 1 := by
  unfold kg
  refine ⟨?_, fun k hk => ?_, fun h k hh hk => ?_, fun k hk => ?_, fun j hj h3 => ?_, ?_⟩
  · show (if x = 3 then _ else _) = _
    rw [if_neg (by omega), fg_out (by omega), fg_out (by omega), fg_out (by omega), if_pos rfl]
  · show (if x + 1 + k = 3 then _ else _) = _
    rw [if_neg (by omega), fg_out (by omega), fg_out (by omega), fg_in (by omega) (by omega)]
    show (if 8 + (x + 1 + k - (x + 1)) = x then _ else _) = _
    rw [if_neg (by omega)]
    exact congrArg g (by omega)
  · show (if x + 4 + 4 * h + k = 3 then _ else _) = _
    rw [if_neg (by omega), fg_out (by omega), fg_in (by omega) (by omega), show hph (x + 4 + 4 * h + k - (x + 4)) = 12 + 8 * h + k by unfold hph; omega, fg_out (by omega)]
    show (if 12 + 8 * h + k = x then _ else _) = _
    rw [if_neg (by omega)]
  · show (if x + 32 + k = 3 then _ else _) = _
    rw [if_neg (by omega), fg_in (by omega) (by omega), show x + 32 + k - (x + 32) = k by omega]
    show fillg _ _ (x + 4) hph 28 (2268 + k) = _
    rw [fg_out (by omega), fg_out (by omega)]
    show (if 2268 + k = x then _ else _) = _
    rw [if_neg (by omega)]
  · show (if j = 3 then _ else _) = _
    rw [if_neg h3, fg_out (by omega), fg_out (by omega), fg_out (by omega)]
    show (if j = x then _ else _) = _
    rw [if_neg (by omega)]
  · show (if 3 = 3 then _ else _) = _
    rw [if_pos rfl, fg_out (by omega), fg_out (by omega)]
    show (if 3 = x then _ else _) + nI 1 = _
    rw [if_neg (by omega)]
end
theorem x9_keep {F : Nat} {S : mS} {T : Tw} {P : Nat → Tw} {N : Tw} (hF : 3000 < F) (hR : RW S 376 T P N) (hV : WV T P N) : ∃ S', f_X9_keep F S 375 = some S' ∧ RW S' 376 T (kpP T P N) (kpN N) ∧ (∀ u k, u ≠ 376 → S'.1 u k = S.1 u k) ∧ (∀ k, k < 68 ∨ 2268 ≤ k → k ≠ 3 → S'.1 376 k = S.1 376 k) := by
  obtain ⟨b0, b1, b2, b5, b3, b4⟩ := hV.2.2.1
  have w0 := hV.1.1
  have w4 := hV.1.2.2.2.2.1
  obtain ⟨h1, h2, ⟨h4, h5, h6, h7, h8⟩, h10, h11, h12⟩ := hR
  have key : ∀ (g : Nat → Int32) (s : Nat) (P0 : Nat → Tw), s < 30 → g 3 = nI s → (∀ k, k < 108 ∨ 2268 ≤ k → k ≠ 3 → g k = S.1 376 k) → (∀ j, j < s → RS (sF S 376 g) 376 j (P0 j) ∧ Wf (P0 j)) → (kpN N 0 0 = s + 1) → (∀ j, j < s + 1 → kpP T P N j = if j = s then T else P0 j) → RW (sF S 376 (kg g (108 + 72 * s))) 376 T (kpP T P N) (kpN N) ∧ (∀ u k, u ≠ 376 → (sF S 376 (kg g (108 + 72 * s))).1 u k = S.1 u k) ∧ (∀ k, k < 68 ∨ 2268 ≤ k → k ≠ 3 → (sF S 376 (kg g (108 + 72 * s))).1 376 k = S.1 376 k) := by
    intro g s P0 hs g3 ge hRS hk0 hkP
    obtain ⟨x0, x1, x2, x3, x4, x5⟩ := kg_x g (x := 108 + 72 * s) (by omega) (by omega)
    have e : ∀ k, k < 108 ∨ 2268 ≤ k → k ≠ 3 → (sF S 376 (kg g (108 + 72 * s))).1 376 k = S.1 376 k := fun k hk h3 => by rw [sF_c, x4 k (by omega) h3, ge k hk h3]
    refine ⟨⟨h1.frk hV.1 (fun k hk => e k (by omega) (by omega)), fun j hj => ?_, ⟨?_, ?_, ?_, ?_, ?_⟩, fun k hk => ?_, fun k hk => ?_, fun h hh => ?_⟩, fun u k hu => sF_u hu, fun k hk h3 => e k (by omega) h3⟩
    · rw [hk0] at hj
      rw [hkP j hj]
      by_cases q : j = s
      · rw [if_pos q, q]
        refine ⟨?_, ?_, ?_, ?_, fun h hh => ⟨?_, ?_, ?_, ?_⟩, fun k hk => ?_⟩ <;> rw [sF_c]
        · rw [x0, ge 0 (by omega) (by omega)]; exact h1.1
        · rw [x1 0 (by omega), ge _ (by omega) (by omega)]; exact h1.2.1
        · rw [x1 1 (by omega), ge _ (by omega) (by omega)]; exact h1.2.2.1
        · rw [x1 2 (by omega), ge _ (by omega) (by omega)]; exact h1.2.2.2.1
        · refine (x2 h 0 (by omega) (by omega)).trans ?_
          rw [ge _ (by omega) (by omega)]; exact h1.2.2.2.2.1 h hh
        · rw [x2 h 1 (by omega) (by omega), ge _ (by omega) (by omega)]; exact h1.2.2.2.2.2.1 h hh
        · rw [x2 h 2 (by omega) (by omega), ge _ (by omega) (by omega)]; exact h1.2.2.2.2.2.2.1 h hh
        · rw [x2 h 3 (by omega) (by omega), ge _ (by omega) (by omega)]; exact h1.2.2.2.2.2.2.2.1 h hh
        · rw [x3 k (by omega), ge _ (by omega) (by omega)]; exact h1.2.2.2.2.2.2.2.2 k hk
      · rw [if_neg q]
        refine (hRS j (by omega)).1.frk (hRS j (by omega)).2 (fun k a b => ?_)
        rw [sF_c, sF_c, x4 k (by omega) (by omega)]
    · rw [e _ (by omega) (by omega), kpN_e (by omega)]; exact h4
    · rw [e _ (by omega) (by omega), kpN_e (by omega)]; exact h5
    · rw [sF_c, x5, g3, hk0, nI_add]
    · rw [e _ (by omega) (by omega), kpN_e (by omega)]; exact h7
    · rw [e _ (by omega) (by omega), kpN_e (by omega)]; exact h8
    · rw [kpN_e (by omega)] at hk
      simp (disch := omega) only [kpN_e, e]
      exact h10 k hk
    · rw [kpN_e (by omega)] at hk
      simp (disch := omega) only [kpN_e, e]
      exact h11 k hk
    · simp (disch := omega) only [kpN_e, e]
      exact h12 h hh
  rw [u_X9_keep, inb_n (by omega) (by omega), ck_t, nI_clamp (by omega), h6]
  by_cases q : N 0 0 = 30
  · rw [if_pos (by rw [q])]
    have hx := x9_k13 (F := F) (S := S) hF (fun (S : mS) => lX9_keep_55 F (fun (S : mS) (v1 : Int32) (v2 : Int32) => lX9_keep_82 F (fun (S : mS) (v1 : Int32) (v2 : Int32) => lX9_keep_114 F (fun (S : mS) (v1 : Int32) (v2 : Int32) => lX9_keep_161 F 375 F S v1 v2) 375 F S v1 v2) 375 F S v1 v2) 375 S) (S.1 376)
    rw [← sF_e] at hx
    rw [hx]
    have g3 : (fun j => if j = 3 then S.1 376 3 - nI 1 else fillg (S.1 376) (S.1 376) 108 (fun k => 180 + k) 2088 j) 3 = nI 29 := by
      show (if 3 = 3 then S.1 376 3 - nI 1 else _) = _
      rw [if_pos rfl, h6, q]
      rfl
    have hy := x9_k55 (F := F) (S := S) hF (fun j => if j = 3 then S.1 376 3 - nI 1 else fillg (S.1 376) (S.1 376) 108 (fun k => 180 + k) 2088 j) (s := 29) (by omega) g3
    refine ⟨_, hy, key _ 29 (fun j => P (j + 1)) (by omega) g3 (fun k hk h3 => ?_) (fun j hj => ⟨?_, hV.2.1 (j + 1) (by omega)⟩) ?_ (fun j hj => ?_)⟩
    · show (if k = 3 then _ else _) = _
      rw [if_neg h3, fg_out (by omega)]
    · have := h2 (j + 1) (by omega)
      have wj := (hV.2.1 (j + 1) (by omega))
      have wj0 := wj.1
      have wj4 := wj.2.2.2.2.1
      have z : ∀ k, 108 + 72 * j ≤ k → k < 180 + 72 * j → (sF S 376 (fun j => if j = 3 then S.1 376 3 - nI 1 else fillg (S.1 376) (S.1 376) 108 (fun k => 180 + k) 2088 j)).1 376 k = S.1 376 (k + 72) := fun k a b => by
        rw [sF_c]
        show (if k = 3 then _ else _) = _
        rw [if_neg (by omega), fg_in (by omega) (by omega)]
        exact congrArg (S.1 376) (by omega)
      obtain ⟨y1, y2, y3, y4, y5, y6⟩ := this
      refine ⟨?_, ?_, ?_, ?_, fun h hh => ⟨?_, ?_, ?_, ?_⟩, fun k hk => ?_⟩ <;> rw [z _ (by omega) (by omega)]
      · exact y1
      · exact y2
      · exact y3
      · exact y4
      · rw [show 108 + 72 * j + 4 + 4 * h + 72 = 108 + 72 * (j + 1) + 4 + 4 * h by omega]; exact (y5 h hh).1
      · rw [show 108 + 72 * j + 4 + 4 * h + 1 + 72 = 108 + 72 * (j + 1) + 4 + 4 * h + 1 by omega]; exact (y5 h hh).2.1
      · rw [show 108 + 72 * j + 4 + 4 * h + 2 + 72 = 108 + 72 * (j + 1) + 4 + 4 * h + 2 by omega]; exact (y5 h hh).2.2.1
      · rw [show 108 + 72 * j + 4 + 4 * h + 3 + 72 = 108 + 72 * (j + 1) + 4 + 4 * h + 3 by omega]; exact (y5 h hh).2.2.2
      · rw [show 108 + 72 * j + 32 + k + 72 = 108 + 72 * (j + 1) + 32 + k by omega]; exact y6 k hk
    · rw [kpN_0 b0, if_neg (by omega)]
    · unfold kpP
      rw [if_neg (by omega)]
  · rw [if_neg (fun w => q ((nI_eq (by omega) (by omega)).mp w))]
    have hy := x9_k55 (F := F) (S := S) hF (S.1 376) (s := N 0 0) (by omega) h6
    rw [← sF_e] at hy
    refine ⟨_, hy, key _ (N 0 0) P (by omega) h6 (fun k _ _ => rfl) (fun j hj => ⟨?_, hV.2.1 j hj⟩) ?_ (fun j hj => ?_)⟩
    · rw [← sF_e]; exact h2 j hj
    · rw [kpN_0 b0, if_pos (by omega)]
    · unfold kpP
      rw [if_pos (by omega)]
