/-! ===== undo ===== -/
/-- the town as it stands behind an undo that takes U back -/
def unT (T U : Tw) : Tw := fun i k => if i = 0 then (if k = 0 then T 0 0 else U 0 k) else if i = 4 then U 4 k else if k < U 0 0 then U i k else T i k
section
variable {T U : Tw}
theorem unT_00 : unT T U 0 0 = T 0 0 := rfl
theorem unT_0 {k : Nat} (h : k ≠ 0) : unT T U 0 k = U 0 k := by
  show (if 0 = 0 then (if k = 0 then T 0 0 else U 0 k) else _) = _
  rw [if_pos rfl, if_neg h]
theorem unT_4 {k : Nat} : unT T U 4 k = U 4 k := rfl
theorem unT_in {i k : Nat} (h0 : i ≠ 0) (h4 : i ≠ 4) (h : k < U 0 0) : unT T U i k = U i k := by
  unfold unT
  rw [if_neg h0, if_neg h4, if_pos h]
theorem unT_out {i k : Nat} (h0 : i ≠ 0) (h4 : i ≠ 4) (h : ¬ k < U 0 0) : unT T U i k = T i k := by
  unfold unT
  rw [if_neg h0, if_neg h4, if_neg h]
theorem unT_Wf (hT : Wf T) (hU : Wf U) (hle : U 0 0 ≤ T 0 0) : Wf (unT T U) := by
  obtain ⟨a0, a1, a2, a3, a4, a5, a6⟩ := hT
  obtain ⟨b0, b1, b2, b3, b4, b5, b6⟩ := hU
  refine ⟨a0, ?_, ?_, ?_, ?_, fun h hh => ?_, fun k hk => ?_⟩
  · rw [unT_0 (by decide)]
    exact Nat.lt_of_lt_of_le b1 (Nat.pow_le_pow_right (by decide) hle)
  · rw [unT_0 (by decide)]; exact b2
  · rw [unT_0 (by decide)]; exact b3
  · rw [unT_0 (by decide)]; exact b4
  · by_cases q : h < U 0 0
    · rw [unT_in (by decide) (by decide) q, unT_in (by decide) (by decide) q, unT_in (by decide) (by decide) q]
      exact b5 h q
    · rw [unT_out (by decide) (by decide) q, unT_out (by decide) (by decide) q, unT_out (by decide) (by decide) q]
      exact a5 h hh
  · rw [unT_0 (by decide)] at hk
    exact b6 k hk
theorem unT_WV {P : Nat → Tw} {N : Tw} {c : Nat} (h : WV T P N) (hc : N 0 0 = c + 1) : WV (unT T (P c)) P (tu N 0 0 c) := by
  obtain ⟨h1, h2, ⟨a1, a2, a3, a4, a5, a6⟩, h4, h5, h6⟩ := h
  have hU := h2 c (by omega)
  have hl := h6 c (by omega)
  unfold nxt at hl
  rw [if_neg (by omega)] at hl
  refine ⟨unT_Wf h1 hU hl.1, fun j hj => h2 j (by rw [tu_hit] at hj; omega), ⟨by rw [tu_hit]; omega, a2, a3, a4, a5, a6⟩, h4, h5, fun j hj => ?_⟩
  rw [tu_hit] at hj ⊢
  have at' : ∀ U V, AsTold U V N → AsTold U V (tu N 0 0 c) := fun U V q => ⟨q.1, q.2⟩
  refine at' _ _ ?_
  have y := h6 j (by omega)
  unfold nxt at y ⊢
  by_cases q : j + 1 < c
  · rw [if_pos q]
    rw [if_pos (by omega)] at y
    exact y
  · rw [if_neg q]
    rw [if_pos (by omega), show j + 1 = c by omega] at y
    refine ⟨Nat.le_trans y.1 hl.1, fun h g1 g2 => ?_⟩
    by_cases z : h < P c 0 0
    · rw [unT_in (by decide) (by decide) z, unT_in (by decide) (by decide) z, unT_in (by decide) (by decide) z]
      exact y.2 h g1 z
    · rw [unT_out (by decide) (by decide) z, unT_out (by decide) (by decide) z, unT_out (by decide) (by decide) z]
      exact hl.2 h (by omega) g2
end
theorem x7_back {F : Nat} {S : mS} {T : Tw} {P : Nat → Tw} {N : Tw} {c : Nat} (hC : CW S 40 T P N) (hV : WV T P N) (hc : N 0 0 = c + 1) : ∃ S', f_X7_takeStepBack F S 40 = some (S', nI c) ∧ CW S' 40 (unT T (P c)) P (tu N 0 0 c) ∧ Fc S S' := by
  obtain ⟨b0, b1, b2, b5, b3, b4⟩ := hV.2.2.1
  have w0 := hV.1.1
  have hU := hV.2.1 c (by omega)
  have u0 := hU.1
  have u4 := hU.2.2.2.2.1
  obtain ⟨h1, h2, h3, ⟨h4, h5, h6, h7, h8, h9⟩, h10, h11⟩ := hC
  have hi : (N 0 1 + c) % 30 < 30 := Nat.mod_lt _ (by omega)
  have hP := h2 c (by omega)
  obtain ⟨p1, p2, p3, p4, p5, p6, p7, p8, p9⟩ := hP
  obtain ⟨t1, t2, t3, t4, t5, t6, t7, t8, t9⟩ := h1
  obtain ⟨x, hx⟩ : ∃ x, x = 40 + 12 + 5 * ((N 0 1 + c) % 30) := ⟨_, rfl⟩
  rw [← hx] at p1 p2 p3 p4 p5 p6 p7 p8 p9
  have u : f_X7_takeStepBack F S 40 = some (rtS (sI S 40 3 (nI c)) 41 x (P c 0 0), nI c) := by
    have y1 : (sI S 40 3 (nI c)).1 40 2 = nI (N 0 1) := h4
    have y2 : (sI S 40 3 (nI c)).1 40 3 = nI c := rfl
    have y3 : (sI S 40 3 (nI c)).1 x 5 = nI (P c 0 0) := by rw [sq_u (by omega)]; exact p1
    rw [u_X7_takeStepBack, h5, hc, if_neg (fun w => absurd ((nI_eq (by omega) (by omega)).mp w) (by omega)), pk_sub (by omega), Nat.add_sub_cancel, stp_s, y1, y2, nI_add, pk_rem (by omega) (by omega) (by omega), inb_n hi (by omega), ck_t, nI_clamp (by omega), show 40 + 6 + 6 + 5 * ((N 0 1 + c) % 30) = x by omega]
    show bd (f_X6_returnTo F _ 41 x) _ = _
    rw [x6_ret u0 y3 (by omega), bd_s, rt_u _ _ (by omega)]
    rfl
  have e : ∀ u k, (u < 40 ∨ 45 < u ∨ (u = 40 ∧ k ≠ 3)) → (rtS (sI S 40 3 (nI c)) 41 x (P c 0 0)).1 u k = S.1 u k := fun u k h => by rw [rt_u _ _ (by omega), sq_off (by omega)]
  have hd : x + 4 < 41 ∨ 41 + 4 < x := by omega
  refine ⟨_, u, ⟨⟨?_, ?_, ?_, ?_, ?_, fun h hh => ?_, fun h hh => ?_, fun h hh => ?_, fun k hk => ?_⟩, fun j hj => ?_, fun i hi => ?_, ⟨?_, ?_, ?_, ?_, ?_, ?_⟩, fun k hk => ?_, fun k hk => ?_⟩, fun u k h => e _ _ (by omega)⟩
  · show (rtS _ 41 _ _).1 41 5 = _
    rw [rt_5, sq_u (by omega)]; exact t1
  · show (rtS _ 41 _ _).1 41 6 = _
    rw [rt_s (by omega), sq_u (by omega), unT_0 (by decide)]; exact p2
  · show (rtS _ 41 _ _).1 41 7 = _
    rw [rt_s (by omega), sq_u (by omega), unT_0 (by decide)]; exact p3
  · show (rtS _ 41 _ _).1 41 8 = _
    rw [rt_s (by omega), sq_u (by omega), unT_0 (by decide)]; exact p4
  · show (rtS _ 41 _ _).1 41 4 = _
    rw [rt_s (by omega), sq_u (by omega), unT_0 (by decide)]; exact p5
  · show (rtS _ 41 _ _).1 (41 + 1) h = _
    rw [rt_i _ _ hd (by omega) (by omega), sq_u (by omega), sq_u (by omega)]
    by_cases q : h < P c 0 0
    · rw [if_pos q, unT_in (by decide) (by decide) q]; exact p6 h q
    · rw [if_neg q, unT_out (by decide) (by decide) q]; exact t6 h hh
  · show (rtS _ 41 _ _).1 (41 + 2) h = _
    rw [rt_i _ _ hd (by omega) (by omega), sq_u (by omega), sq_u (by omega)]
    by_cases q : h < P c 0 0
    · rw [if_pos q, unT_in (by decide) (by decide) q]; exact p7 h q
    · rw [if_neg q, unT_out (by decide) (by decide) q]; exact t7 h hh
  · show (rtS _ 41 _ _).1 (41 + 3) h = _
    rw [rt_i _ _ hd (by omega) (by omega), sq_u (by omega), sq_u (by omega)]
    by_cases q : h < P c 0 0
    · rw [if_pos q, unT_in (by decide) (by decide) q]; exact p8 h q
    · rw [if_neg q, unT_out (by decide) (by decide) q]; exact t8 h hh
  · show (rtS _ 41 _ _).1 (41 + 4) k = _
    rw [unT_0 (by decide)] at hk
    rw [rt_4 hd (by omega), sq_u (by omega)]
    exact p9 k hk
  · rw [tu_hit] at hj
    exact (h2 j (by omega)).fr (fun u k a b => e _ _ (by have : tu N 0 0 c 0 1 = N 0 1 := rfl; omega))
  · rw [e _ _ (by omega)]; exact h3 i hi
  · rw [e _ _ (by omega)]; exact h4
  · rw [rt_u _ _ (by omega), tu_hit]; exact sq_hit _ _ _ _
  · rw [e _ _ (by omega)]; exact h6
  · rw [e _ _ (by omega)]; exact h7
  · rw [e _ _ (by omega)]; exact h8
  · rw [e _ _ (by omega)]; exact h9
  · rw [e _ _ (by omega), e _ _ (by omega), e _ _ (by omega)]; exact h10 k hk
  · rw [e _ _ (by omega), e _ _ (by omega)]; exact h11 k hk
section
variable {F : Nat} {S : mS}
theorem x9_u36 (hF : 10 < F) (K : mS → Int32 → Int32 → Option (mS × Int32)) (g : Nat → Int32) {x : Nat} (hx : x + 72 ≤ 2268) (hx1 : 108 ≤ x) : lX9_undo_36 F K 375 F (sF S 376 g) (nI x) (nI 0) = K (sF S 376 (fillg g g 8 (fun k => x + 1 + k) 3)) (nI x) (nI 0) := by
  have h := up_l (fun k i => lX9_undo_36 F K 375 k (sF S 376 (fillg g g 8 (fun k => x + 1 + k) i)) (nI x) (nI i)) (K (sF S 376 (fillg g g 8 (fun k => x + 1 + k) 3)) (nI x) (nI 0)) 3 (fun k => ?_) (fun k i hi => ?_) F 0 (by omega) (by omega)
  · rw [fg_0] at h
    exact h
  · show lX9_undo_36 F K 375 (k + 1) _ _ _ = _
    rw [u_X9_undo_36, if_pos (nI_le (Nat.le_refl _) (by omega))]
  · show lX9_undo_36 F K 375 (k + 1) _ _ _ = lX9_undo_36 F K 375 k _ _ _
    rw [u_X9_undo_36, if_neg (nI_ge hi (by omega)), nI_add, nI_add, nI_add, inb_n (by omega) (by omega), inb_n (by omega) (by omega), ck_t, ck_t, nI_clamp (by omega), nI_clamp (by omega), sF_c, stp_s, fg_s rfl (fg_out (by omega)), nI_add]
theorem x9_u144 (hF : 50 < F) (g : Nat → Int32) {x : Nat} (hx : x + 72 ≤ 2268) (hx1 : 108 ≤ x) : lX9_undo_144 F 375 F (sF S 376 g) (nI x) (nI 0) = some (sF S 376 (fillg g g 2268 (fun k => x + 32 + k) 40), g 3) := by
  have h := up_l (fun k i => lX9_undo_144 F 375 k (sF S 376 (fillg g g 2268 (fun k => x + 32 + k) i)) (nI x) (nI i)) (some (sF S 376 (fillg g g 2268 (fun k => x + 32 + k) 40), g 3)) 40 (fun k => ?_) (fun k i hi => ?_) F 0 (by omega) (by omega)
  · rw [fg_0] at h
    exact h
  · show lX9_undo_144 F 375 (k + 1) _ _ _ = _
    rw [u_X9_undo_144, if_pos (nI_le (Nat.le_refl _) (by omega)), inb_n (by omega) (by omega), ck_t, nI_clamp (by omega), sF_c, fg_out (by omega)]
  · show lX9_undo_144 F 375 (k + 1) _ _ _ = lX9_undo_144 F 375 k _ _ _
    rw [u_X9_undo_144, if_neg (nI_ge hi (by omega)), nI_add, nI_add, nI_add, inb_n (by omega) (by omega), inb_n (by omega) (by omega), ck_t, ck_t, nI_clamp (by omega), nI_clamp (by omega), sF_c, stp_s, fg_s rfl (fg_out (by omega)), nI_add]
/-- begin: as told -/
def bgg (g : Nat → Int32) (h : Nat) : Nat → Int32 := fun j => if j = 12 + 8 * h + 3 then nI 0 else if 12 + 8 * h ≤ j ∧ j < 12 + 8 * h + 3 then g (j + 4) else g j
theorem x9_beg (hF : 10 < F) (g : Nat → Int32) {h : Nat} (hh : h < 7) : f_X9_begin F (sF S 376 g) 375 (nI h) = some (sF S 376 (bgg g h)) := by
  rw [u_X9_begin]
  have h1 := up_l (fun k i => lX9_begin_2 F 375 (nI h) k (sF S 376 (fillg g g (12 + 8 * h) (fun k => 12 + 8 * h + (4 + k)) i)) (nI i)) (some (sF S 376 (bgg g h))) 3 (fun k => ?_) (fun k i hi => ?_) F 0 (by omega) (by omega)
  · rw [fg_0] at h1
    exact h1
  · show lX9_begin_2 F 375 (nI h) (k + 1) _ _ = _
    rw [u_X9_begin_2, if_pos (nI_le (Nat.le_refl _) (by omega)), x9_put _ _ (by omega) (by omega), bd_s, sF_I]
    refine congrArg some (sF_cong (fun j => ?_))
    unfold bgg
    by_cases e : j = 12 + 8 * h + 3
    · rw [if_pos e, if_pos e]
    · rw [if_neg e, if_neg e]
      by_cases q : 12 + 8 * h ≤ j ∧ j < 12 + 8 * h + 3
      · rw [if_pos q, fg_in q.1 q.2]
        exact congrArg g (by omega)
      · rw [if_neg q, fg_out (by omega)]
  · show lX9_begin_2 F 375 (nI h) (k + 1) _ _ = lX9_begin_2 F 375 (nI h) k _ _
    rw [u_X9_begin_2, if_neg (nI_ge hi (by omega)), nI_add, x9_get _ (by omega) (by omega), bd_s, x9_put _ _ (by omega) (by omega), bd_s, sF_c, fg_s rfl (fg_out (by omega)), nI_add]
/-- the houses put back -/
def ug (g : Nat → Int32) (x u h : Nat) : Nat → Int32 := fun j => if 12 ≤ j ∧ j < 12 + 8 * h ∧ (j - 12) % 8 < 4 then (if (j - 12) / 8 < u then g (x + 4 + 4 * ((j - 12) / 8) + (j - 12) % 8) else if (j - 12) % 8 = 3 then nI 0 else g (j + 4)) else g j
theorem ug_out {g : Nat → Int32} {x u h j : Nat} (hj : j < 12 ∨ 12 + 8 * h ≤ j ∨ 4 ≤ (j - 12) % 8) : ug g x u h j = g j := if_neg (fun q => by omega)
theorem ug_s1 {g : Nat → Int32} {x u h : Nat} (hu : h < u) (j : Nat) : (if j = 12 + 8 * h + 3 then g (x + 4 + 4 * h + 3) else if j = 12 + 8 * h + 2 then g (x + 4 + 4 * h + 2) else if j = 12 + 8 * h + 1 then g (x + 4 + 4 * h + 1) else if j = 12 + 8 * h + 0 then g (x + 4 + 4 * h + 0) else ug g x u h j) = ug g x u (h + 1) j := by
  by_cases q : 12 + 8 * h ≤ j ∧ j < 12 + 8 * h + 4
  · unfold ug
    rw [if_pos (show 12 ≤ j ∧ j < 12 + 8 * (h + 1) ∧ (j - 12) % 8 < 4 by omega), if_pos (show (j - 12) / 8 < u by omega), show (j - 12) / 8 = h by omega]
    rcases (show j = 12 + 8 * h + 0 ∨ j = 12 + 8 * h + 1 ∨ j = 12 + 8 * h + 2 ∨ j = 12 + 8 * h + 3 by omega) with e | e | e | e
    · rw [if_neg (by omega), if_neg (by omega), if_neg (by omega), if_pos e]; exact congrArg g (by omega)
    · rw [if_neg (by omega), if_neg (by omega), if_pos e]; exact congrArg g (by omega)
    · rw [if_neg (by omega), if_pos e]; exact congrArg g (by omega)
    · rw [if_pos e]; exact congrArg g (by omega)
  · rw [if_neg (by omega), if_neg (by omega), if_neg (by omega), if_neg (by omega)]
    unfold ug
    by_cases z : 12 ≤ j ∧ j < 12 + 8 * h ∧ (j - 12) % 8 < 4
    · rw [if_pos z, if_pos (show 12 ≤ j ∧ j < 12 + 8 * (h + 1) ∧ (j - 12) % 8 < 4 by omega)]
    · rw [if_neg z, if_neg (show ¬ (12 ≤ j ∧ j < 12 + 8 * (h + 1) ∧ (j - 12) % 8 < 4) by omega)]
theorem ug_s2 {g : Nat → Int32} {x u h : Nat} (hu : ¬ h < u) (j : Nat) : bgg (ug g x u h) h j = ug g x u (h + 1) j := by
  unfold bgg
  by_cases e : j = 12 + 8 * h + 3
  · rw [if_pos e]
    unfold ug
    rw [if_pos (show 12 ≤ j ∧ j < 12 + 8 * (h + 1) ∧ (j - 12) % 8 < 4 by omega), if_neg (show ¬ (j - 12) / 8 < u by omega), if_pos (show (j - 12) % 8 = 3 by omega)]
  · rw [if_neg e]
    by_cases q : 12 + 8 * h ≤ j ∧ j < 12 + 8 * h + 3
    · rw [if_pos q, ug_out (by omega)]
      unfold ug
      rw [if_pos (show 12 ≤ j ∧ j < 12 + 8 * (h + 1) ∧ (j - 12) % 8 < 4 by omega), if_neg (show ¬ (j - 12) / 8 < u by omega), if_neg (show ¬ (j - 12) % 8 = 3 by omega)]
    · rw [if_neg q]
      unfold ug
      by_cases z : 12 ≤ j ∧ j < 12 + 8 * h ∧ (j - 12) % 8 < 4
      · rw [if_pos z, if_pos (show 12 ≤ j ∧ j < 12 + 8 * (h + 1) ∧ (j - 12) % 8 < 4 by omega)]
      · rw [if_neg z, if_neg (show ¬ (12 ≤ j ∧ j < 12 + 8 * (h + 1) ∧ (j - 12) % 8 < 4) by omega)]
theorem x9_u95 (hF : 10 < F) (K : mS → Int32 → Int32 → Option (mS × Int32)) (g : Nat → Int32) {x h u : Nat} (hx : x + 72 ≤ 2268) (hx1 : 108 ≤ x) (hh : h < 7) (hu : u ≤ 7) (gx : g x = nI u) : lX9_undo_95 F K 375 F (sF S 376 g) (nI x) (nI h) (nI 0) = K (sF S 376 (if h < u then (fun j => if j = 12 + 8 * h + 3 then g (x + 4 + 4 * h + 3) else if j = 12 + 8 * h + 2 then g (x + 4 + 4 * h + 2) else if j = 12 + 8 * h + 1 then g (x + 4 + 4 * h + 1) else if j = 12 + 8 * h + 0 then g (x + 4 + 4 * h + 0) else g j) else g)) (nI x) (nI (h + 1)) := by
  obtain ⟨F', rfl⟩ : ∃ F', F = F' + 5 := ⟨F - 5, by omega⟩
  by_cases q : h < u
  · have st : ∀ n (g' : Nat → Int32) k, k < 4 → g' x = nI u → lX9_undo_95 (F' + 5) K 375 (n + 1) (sF S 376 g') (nI x) (nI h) (nI k) = lX9_undo_95 (F' + 5) K 375 n (sF S 376 (fun j => if j = 12 + 8 * h + k then g' (x + 4 + 4 * h + k) else g' j)) (nI x) (nI h) (nI (k + 1)) := fun n g' k hk gx' => by
      rw [u_X9_undo_95, if_neg (nI_ge hk (by omega)), inb_n (by omega) (by omega), ck_t, nI_clamp (by omega), sF_c, gx', if_neg (nI_ge q (by omega)), nI_add, pk_mul, nI_add, nI_add, inb_n (by omega) (by omega), ck_t, nI_clamp (by omega), x9_put _ _ (by omega) (by omega), bd_s, sF_c, sF_I, nI_add]
    rw [if_pos q, st (F' + 4) _ 0 (by omega) gx, st (F' + 3) _ 1 (by omega) ((if_neg (by omega)).trans gx), st (F' + 2) _ 2 (by omega) ((if_neg (by omega)).trans ((if_neg (by omega)).trans gx)), st (F' + 1) _ 3 (by omega) ((if_neg (by omega)).trans ((if_neg (by omega)).trans ((if_neg (by omega)).trans gx))), u_X9_undo_95, if_pos (nI_le (Nat.le_refl _) (by omega)), nI_add]
    refine congrArg (fun z => K z (nI x) (nI (h + 1))) (sF_cong (fun j => ?_))
    simp (disch := omega) only [if_neg]
  · rw [if_neg q, u_X9_undo_95, if_neg (nI_ge (show 0 < 4 by omega) (by omega)), inb_n (by omega) (by omega), ck_t, nI_clamp (by omega), sF_c, gx, if_pos (nI_le (by omega) (by omega)), nI_add]
theorem x9_u68 (hF : 20 < F) (K : mS → Int32 → Int32 → Option (mS × Int32)) (g : Nat → Int32) {x u n : Nat} (hx : x + 72 ≤ 2268) (hx1 : 108 ≤ x) (hn : n ≤ 7) (hu : u ≤ 7) (g0 : g 0 = nI n) (gx : g x = nI u) : lX9_undo_68 F K 375 F (sF S 376 g) (nI x) (nI 0) = K (sF S 376 (ug g x u n)) (nI x) (nI 0) := by
  have e0 : ug g x u 0 = g := funext fun j => ug_out (by omega)
  have h := up_l (fun k i => lX9_undo_68 F K 375 k (sF S 376 (ug g x u i)) (nI x) (nI i)) (K (sF S 376 (ug g x u n)) (nI x) (nI 0)) n (fun k => ?_) (fun k i hi => ?_) F 0 (by omega) (by omega)
  · rw [e0] at h
    exact h
  · show lX9_undo_68 F K 375 (k + 1) _ _ _ = _
    rw [u_X9_undo_68, inb_n (by omega) (by omega), ck_t, nI_clamp (by omega), sF_c, ug_out (by omega), g0, if_pos (nI_le (Nat.le_refl _) (by omega))]
  · show lX9_undo_68 F K 375 (k + 1) _ _ _ = lX9_undo_68 F K 375 k _ _ _
    rw [u_X9_undo_68, inb_n (by omega) (by omega), ck_t, nI_clamp (by omega), sF_c, ug_out (by omega), g0, if_neg (nI_ge hi (by omega)), inb_n (by omega) (by omega), ck_t, nI_clamp (by omega), sF_c, ug_out (by omega), gx]
    by_cases q : i < u
    · rw [if_pos (nI_lt q (by omega)), x9_u95 (by omega) _ _ hx hx1 (by omega) hu ((ug_out (by omega)).trans gx), if_pos q]
      refine congrArg (fun z => lX9_undo_68 F K 375 k z (nI x) (nI (i + 1))) (sF_cong (fun j => ?_))
      rw [← ug_s1 q j]
      simp (disch := omega) only [ug_out]
    · rw [if_neg (nI_nlt (by omega) (by omega)), x9_beg (by omega) _ (by omega), bd_s, x9_u95 (by omega) _ _ hx hx1 (by omega) hu ?_, if_neg q]
      · exact congrArg (fun z => lX9_undo_68 F K 375 k z (nI x) (nI (i + 1))) (sF_cong (fun j => ug_s2 q j))
      · rw [ug_s2 q, ug_out (by omega)]; exact gx
end
theorem x9_undo {F : Nat} {S : mS} {T : Tw} {P : Nat → Tw} {N : Tw} {c : Nat} (hF : 3000 < F) (hR : RW S 376 T P N) (hV : WV T P N) (hc : N 0 0 = c + 1) : ∃ S', f_X9_undo F S 375 = some (S', nI c) ∧ RW S' 376 (unT T (P c)) P (tu N 0 0 c) ∧ Fr S S' := by
  obtain ⟨b0, b1, b2, b5, b3, b4⟩ := hV.2.2.1
  have w0 := hV.1.1
  have hU := hV.2.1 c (by omega)
  have u0 := hU.1
  have u4 := hU.2.2.2.2.1
  have hl := hV.2.2.2.2.2 c (by omega)
  unfold nxt at hl
  rw [if_neg (by omega)] at hl
  obtain ⟨h1, h2, ⟨h4, h5, h6, h7, h8⟩, h10, h11, h12⟩ := hR
  obtain ⟨p1, p2, p3, p4, p5, p6⟩ := h2 c (by omega)
  obtain ⟨x, hx⟩ : ∃ x, x = 108 + 72 * c := ⟨_, rfl⟩
  rw [← hx] at p1 p2 p3 p4 p5 p6
  let g : Nat → Int32 := fun j => if j = 3 then nI c else S.1 376 j
  have ge : ∀ j, j ≠ 3 → g j = S.1 376 j := fun j hj => if_neg hj
  let g1 := fillg g g 8 (fun k => x + 1 + k) 3
  let g2 := ug g1 x (P c 0 0) (T 0 0)
  let g3 := fillg g2 g2 2268 (fun k => x + 32 + k) 40
  have k0 : g1 0 = nI (T 0 0) := (fg_out (by omega)).trans ((ge _ (by omega)).trans h1.1)
  have kx : g1 x = nI (P c 0 0) := (fg_out (by omega)).trans ((ge _ (by omega)).trans p1)
  have u : f_X9_undo F S 375 = some (sF S 376 g3, nI c) := by
    rw [u_X9_undo, inb_n (by omega) (by omega), ck_t, ck_t, ck_t, nI_clamp (by omega), h6, hc, if_neg (fun w => absurd ((nI_eq (by omega) (by omega)).mp w) (by omega)), pk_sub (by omega), Nat.add_sub_cancel, stp_s, ck_t, sq_hit, pk_mul, nI_add, ← hx]
    have e : sI S 376 3 (nI c) = sF S 376 g := by
      have := sF_I S 376 (S.1 376) 3 (nI c)
      rw [← sF_e] at this
      exact this
    rw [e, x9_u36 (by omega) _ g (by omega) (by omega)]
    show lX9_undo_68 F _ 375 F (sF S 376 g1) _ _ = _
    rw [x9_u68 (by omega) _ g1 (by omega) (by omega) w0 u0 k0 kx]
    show lX9_undo_144 F 375 F (sF S 376 g2) _ _ = _
    rw [x9_u144 (by omega) g2 (by omega) (by omega)]
    have : g2 3 = nI c := (ug_out (by omega)).trans ((fg_out (by omega)).trans (if_pos rfl))
    rw [this]
  have q1 : ∀ k, k < 2268 → g3 k = g2 k := fun k hk => fg_out (by omega)
  have q2 : ∀ k, k < 12 ∨ 68 ≤ k ∨ 4 ≤ (k - 12) % 8 → g2 k = g1 k := fun k hk => ug_out (by omega)
  have q3 : ∀ k, k < 8 ∨ 11 ≤ k → g1 k = g k := fun k hk => fg_out (by omega)
  have q4 : ∀ k, (k < 8 ∨ k = 11 ∨ (68 ≤ k ∧ k < 2268) ∨ (12 ≤ k ∧ k < 68 ∧ 4 ≤ (k - 12) % 8)) → k ≠ 3 → g3 k = S.1 376 k := fun k hk h3 => by rw [q1 k (by omega), q2 k (by omega), q3 k (by omega), ge k h3]
  have hs : ∀ h k, h < T 0 0 → k < 4 → g3 (12 + 8 * h + k) = if h < P c 0 0 then S.1 376 (x + 4 + 4 * h + k) else if k = 3 then nI 0 else S.1 376 (12 + 8 * h + k + 4) := fun h k hh hk => by
    rw [q1 _ (by omega)]
    show ug g1 x (P c 0 0) (T 0 0) _ = _
    unfold ug
    rw [if_pos (show 12 ≤ 12 + 8 * h + k ∧ 12 + 8 * h + k < 12 + 8 * T 0 0 ∧ (12 + 8 * h + k - 12) % 8 < 4 by omega), show (12 + 8 * h + k - 12) / 8 = h by omega, show (12 + 8 * h + k - 12) % 8 = k by omega, q3 _ (by omega), q3 _ (by omega), ge _ (by omega), ge _ (by omega)]
  refine ⟨_, u, ⟨⟨?_, ?_, ?_, ?_, fun h hh => ?_, fun h hh => ?_, fun h hh => ?_, fun h hh => ?_, fun k hk => ?_⟩, fun j hj => ?_, ⟨?_, ?_, ?_, ?_, ?_⟩, fun k hk => ?_, fun k hk => ?_, fun h hh => ?_⟩, fun u k hu => sF_u (by omega)⟩
  · rw [sF_c, q4 _ (by omega) (by omega)]; exact h1.1
  · rw [sF_c, q1 _ (by omega), q2 _ (by omega), unT_0 (by decide)]
    show fillg g g 8 _ 3 8 = _
    rw [fg_in (by omega) (by omega), ge _ (by omega)]; exact p2
  · rw [sF_c, q1 _ (by omega), q2 _ (by omega), unT_0 (by decide)]
    show fillg g g 8 _ 3 9 = _
    rw [fg_in (by omega) (by omega), ge _ (by omega)]; exact p3
  · rw [sF_c, q1 _ (by omega), q2 _ (by omega), unT_0 (by decide)]
    show fillg g g 8 _ 3 10 = _
    rw [fg_in (by omega) (by omega), ge _ (by omega)]; exact p4
  · have hh' : h < T 0 0 := hh
    rw [sF_c, show 12 + 8 * h = 12 + 8 * h + 0 from rfl, hs h 0 hh' (by omega)]
    by_cases q : h < P c 0 0
    · rw [if_pos q, unT_in (by decide) (by decide) q]; exact (p5 h q).1
    · rw [if_neg q, unT_out (by decide) (by decide) q, if_neg (by omega), (hl.2 h (by omega) hh').1]; exact (h12 h hh').1
  · have hh' : h < T 0 0 := hh
    rw [sF_c, hs h 1 hh' (by omega)]
    by_cases q : h < P c 0 0
    · rw [if_pos q, unT_in (by decide) (by decide) q]; exact (p5 h q).2.1
    · rw [if_neg q, unT_out (by decide) (by decide) q, if_neg (by omega), (hl.2 h (by omega) hh').2.1]; exact (h12 h hh').2.1
  · have hh' : h < T 0 0 := hh
    rw [sF_c, hs h 2 hh' (by omega)]
    by_cases q : h < P c 0 0
    · rw [if_pos q, unT_in (by decide) (by decide) q]; exact (p5 h q).2.2.1
    · rw [if_neg q, unT_out (by decide) (by decide) q, if_neg (by omega), (hl.2 h (by omega) hh').2.2]; exact (h12 h hh').2.2
  · have hh' : h < T 0 0 := hh
    rw [sF_c, hs h 3 hh' (by omega), unT_0 (by decide)]
    by_cases q : h < P c 0 0
    · rw [if_pos q]; exact (p5 h q).2.2.2
    · rw [if_neg q, if_pos rfl, hU.gf (by omega)]; rfl
  · rw [unT_0 (by decide)] at hk
    rw [sF_c]
    show fillg g2 g2 2268 _ 40 _ = _
    rw [fg_in (by omega) (by omega), show 2268 + k - 2268 = k by omega]
    show g2 (x + 32 + k) = _
    rw [q2 _ (by omega), q3 _ (by omega), ge _ (by omega)]; exact p6 k hk
  · rw [tu_hit] at hj
    exact (h2 j (by omega)).frk (hV.2.1 j (by omega)) (fun k a b => by rw [sF_c, q4 _ (by omega) (by omega)])
  · rw [sF_c, q4 _ (by omega) (by omega)]; exact h4
  · rw [sF_c, q4 _ (by omega) (by omega)]; exact h5
  · rw [sF_c, q1 _ (by omega), q2 _ (by omega), q3 _ (by omega), tu_hit]; exact if_pos rfl
  · rw [sF_c, q4 _ (by omega) (by omega)]; exact h7
  · rw [sF_c, q4 _ (by omega) (by omega)]; exact h8
  · have b3' : k < N 0 3 := hk
    rw [sF_c, sF_c, sF_c, q4 _ (by omega) (by omega), q4 _ (by omega) (by omega), q4 _ (by omega) (by omega)]; exact h10 k hk
  · have b3' : k < N 0 4 := hk
    rw [sF_c, sF_c, q4 _ (by omega) (by omega), q4 _ (by omega) (by omega)]; exact h11 k hk
  · have hh' : h < T 0 0 := hh
    rw [sF_c, sF_c, sF_c, q4 _ (by omega) (by omega), q4 _ (by omega) (by omega), q4 _ (by omega) (by omega)]; exact h12 h hh'
theorem st_undo : ∀ S, Inv S → Step μX8_undo μX9_undo Inv S [] := by
  intro S hI
  obtain ⟨T, P, N, T1, P1, N1, E, hI⟩ := hI
  have hCW := hI.1
  have hRW := hI.2.1
  have hWV := hI.2.2.1
  obtain ⟨F, hF⟩ := big_F
  by_cases q : N 0 0 = 0
  · have h1 : f_X8_undo F S 0 = some (S, -1) := by
      rw [u_X8_undo, u_X7_takeStepBack, hCW.2.2.2.1.2.1, q, if_pos rfl]; rfl
    have h2 : f_X9_undo F S 375 = some (S, -1) := by
      rw [u_X9_undo, inb_n (by omega) (by omega), ck_t, nI_clamp (by omega), hRW.2.2.1.2.2.1, q, if_pos rfl]
    exact stepR ⟨T, P, N, T1, P1, N1, E, hI⟩ (c_X8_undo k_0 h1) (c_X9_undo k_375 h2) (by decide) (by decide)
  · obtain ⟨c, hc⟩ : ∃ c, N 0 0 = c + 1 := ⟨N 0 0 - 1, by omega⟩
    obtain ⟨S1, u1, c1, f1⟩ := x7_back (F := F) hCW hWV hc
    obtain ⟨S2, u2, c2, f2⟩ := x9_undo (F := F) (by omega) (hRW.fc f1) hWV hc
    have h1 : f_X8_undo F S 0 = some (S1, nI c) := by rw [u_X8_undo, u1, bd_s]
    exact stepN (S1 := S1) (S2 := S2) (r := nI c) hI (c_X8_undo k_0 h1) (c_X9_undo k_375 u2) c1 f1 c2 f2 (unT_WV hWV hc) rfl (by decide) (by decide)
