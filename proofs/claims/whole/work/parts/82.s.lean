/-! ===== knocks ===== -/
def wkv (T : Tw) (h s : Nat) : Nat := T 0 2 * 16 + h * 2 + s
def wkT (T : Tw) (h s : Nat) : Tw := if T 0 4 < 40 then tu (tu T 4 (T 0 4) (wkv T h s)) 0 4 (T 0 4 + 1) else fun i k => if i = 4 then (if k < 39 then T 4 (k + 1) else if k = 39 then wkv T h s else T 4 k) else T i k
theorem wk_o {T : Tw} {h s i k : Nat} (h4 : i ≠ 4) (h0 : i ≠ 0 ∨ k ≠ 4) : wkT T h s i k = T i k := by
  unfold wkT
  split
  · simp (disch := omega) only [sq_hit, sq_off, tu_hit, tu_off]
  · exact if_neg h4
theorem wk_Wf {T : Tw} (hW : Wf T) {h s : Nat} (hh : h < T 0 0) (hs : s < 2) : Wf (wkT T h s) := by
  have w0 := hW.1
  have e00 : wkT T h s 0 0 = T 0 0 := wk_o (by decide) (by decide)
  obtain ⟨a0, a1, a2, a3, a4, a5, a6⟩ := hW
  have v : wkv T h s < 160000 := by unfold wkv; omega
  refine ⟨by rw [e00]; exact a0, by rw [e00, wk_o (by decide) (by decide)]; exact a1, by rw [wk_o (by decide) (by decide)]; exact a2, by rw [wk_o (by decide) (by decide)]; exact a3, ?_, fun i hi => ?_, fun k hk => ?_⟩
  · unfold wkT
    by_cases q : T 0 4 < 40
    · rw [if_pos q, tu_hit]; omega
    · rw [if_neg q]; exact a4
  · rw [e00] at hi
    rw [wk_o (by decide) (by omega), wk_o (by decide) (by omega), wk_o (by decide) (by omega)]
    exact a5 i hi
  · unfold wkT at hk ⊢
    by_cases q : T 0 4 < 40
    · rw [if_pos q] at hk ⊢
      rw [tu_hit] at hk
      by_cases z : k = T 0 4
      · rw [z]; simp (disch := omega) only [sq_hit, sq_off, tu_hit, tu_off]; exact v
      · simp (disch := omega) only [sq_hit, sq_off, tu_hit, tu_off]; exact a6 k (by omega)
    · rw [if_neg q] at hk ⊢
      have hk' : k < T 0 4 := hk
      show (if k < 39 then T 4 (k + 1) else if k = 39 then wkv T h s else T 4 k) < 160000
      split
      · exact a6 _ (by omega)
      · rw [if_pos (by omega)]; exact v
section
variable {F : Nat} {S : mS} {T : Tw} {h s : Nat}
theorem wk_val {d : Nat} (hd : d ≤ 9999) (hh : h < 8) (hs : s < 2) : ((nI d <<< (nI 4 &&& 31)) ||| (nI h <<< (nI 1 &&& 31))) ||| nI s = nI (d * 16 + h * 2 + s) := by
  rw [i_shl2 (d := 4) (by omega) (by omega), i_shl2 (d := 1) (by omega) (by omega), Nat.mul_comm d, fa_or_sum (k := 4) d (show h * 2 ^ 1 < 2 ^ 4 by omega), show 2 ^ 4 * d + h * 2 ^ 1 = 2 ^ 1 * (8 * d + h) by omega, fa_or_sum (k := 1) _ (show s < 2 ^ 1 by omega), show 2 ^ 1 * (8 * d + h) + s = d * 16 + h * 2 + s by omega]
theorem x6_w30 {S1 : mS} {n : Nat} (hn : n < 40) (h7 : S1.1 41 7 = nI (T 0 2)) (h4 : S1.1 41 4 = nI n) (hd : T 0 2 ≤ 9999) (hh : h < 7) (hs : s < 2) : lX6_writeKnock_30 F 41 (nI h) (nI s) S1 = some (sI (sI S1 45 n (nI (wkv T h s))) 41 4 (nI (n + 1))) := by
  have e : ∀ v, (sI S1 (41 + 4) n v).1 41 4 = nI n := fun v => (sq_u (by decide)).trans h4
  unfold wkv
  rw [u_X6_writeKnock_30, h4, h7, inb_n hn (by omega), ck_t, ck_t, nI_clamp (by omega), stp_s, stp_s, stp_s, stp_s, e, e, nI_add]
  rcases (show s = 0 ∨ s = 1 by omega) with rfl | rfl
  · rw [if_pos rfl, wk_val hd (by omega) (by omega)]
  · rw [if_neg (by decide), wk_val hd (by omega) (by omega)]
theorem x6_wk (hC : CT S 41 T) (hW : Wf T) (hh : h < T 0 0) (hs : s < 2) : ∃ S', f_X6_writeKnock F S 41 (nI h) (nI s) = some S' ∧ CT S' 41 (wkT T h s) ∧ Ft S S' := by
  have w0 := hW.1
  have w2 := hW.2.2.1
  have w4 := hW.2.2.2.2.1
  have c4 : S.1 41 4 = nI (T 0 4) := hC.2.2.2.2.1
  have c7 : S.1 41 7 = nI (T 0 2) := hC.2.2.1
  obtain ⟨h1, h2, h3, h4, h5, h6, h7, h8, h9⟩ := hC
  by_cases q : T 0 4 < 40
  · refine ⟨_, by rw [u_X6_writeKnock, c4, if_pos (nI_lt q (by omega)), x6_w30 (T := T) q c7 c4 w2 (by omega) hs], ?_, (ft_sI (by omega)).trans (ft_sI (by omega))⟩
    have e : wkT T h s = tu (tu T 4 (T 0 4) (wkv T h s)) 0 4 (T 0 4 + 1) := if_pos q
    rw [e]
    refine ⟨by simp (disch := omega) only [sq_hit, sq_off, tu_hit, tu_off]; exact h1, by simp (disch := omega) only [sq_hit, sq_off, tu_hit, tu_off]; exact h2, by simp (disch := omega) only [sq_hit, sq_off, tu_hit, tu_off]; exact h3, by simp (disch := omega) only [sq_hit, sq_off, tu_hit, tu_off]; exact h4, by simp (disch := omega) only [sq_hit, sq_off, tu_hit, tu_off], fun i hi => by simp (disch := omega) only [sq_hit, sq_off, tu_hit, tu_off]; exact h6 i hi, fun i hi => by simp (disch := omega) only [sq_hit, sq_off, tu_hit, tu_off]; exact h7 i hi, fun i hi => by simp (disch := omega) only [sq_hit, sq_off, tu_hit, tu_off]; exact h8 i hi, fun i hi => ?_⟩
    rw [tu_hit] at hi
    by_cases z : i = T 0 4
    · rw [z]; simp (disch := omega) only [sq_hit, sq_off, tu_hit, tu_off]
    · simp (disch := omega) only [sq_hit, sq_off, tu_hit, tu_off]; exact h9 i (by omega)
  · have e4 : T 0 4 = 40 := by omega
    have y4 : (sI (sC S 45 45 1 0 39) 41 4 (nI 39)).1 41 4 = nI 39 := sq_hit _ _ _ _
    have y7 : (sI (sC S 45 45 1 0 39) 41 4 (nI 39)).1 41 7 = nI (T 0 2) := by rw [sq_off (by omega), sC_u (by omega)]; exact c7
    refine ⟨sI (sI (sI (sC S 45 45 1 0 39) 41 4 (nI 39)) 45 39 (nI (wkv T h s))) 41 4 (nI (39 + 1)), ?_, ?_, fun u k a b => ?_⟩
    · rw [u_X6_writeKnock, c4, if_neg (nI_nlt (by omega) (by omega)), cpo_n (by omega) (by omega) (by omega) (by omega), ck_t, nI_clamp (by omega), nI_clamp (by omega), nI_clamp (by omega), stp_s, stp_s]
      exact x6_w30 (T := T) (by omega) y7 y4 w2 (by omega) hs
    · have e : ∀ i k, wkT T h s i k = if i = 4 then (if k < 39 then T 4 (k + 1) else if k = 39 then wkv T h s else T 4 k) else T i k := fun i k => by unfold wkT; rw [if_neg q]
      refine ⟨?_, ?_, ?_, ?_, ?_, fun i hi => ?_, fun i hi => ?_, fun i hi => ?_, fun i hi => ?_⟩
      · rw [e, if_neg (by decide)]; simp (disch := omega) only [sq_off, sC_u]; exact h1
      · rw [e, if_neg (by decide)]; simp (disch := omega) only [sq_off, sC_u]; exact h2
      · rw [e, if_neg (by decide)]; simp (disch := omega) only [sq_off, sC_u]; exact h3
      · rw [e, if_neg (by decide)]; simp (disch := omega) only [sq_off, sC_u]; exact h4
      · rw [e, if_neg (by decide), sq_hit, e4]
      · rw [e, if_neg (by decide)] at hi
        rw [e, if_neg (by decide)]; simp (disch := omega) only [sq_u, sC_u]; exact h6 i hi
      · rw [e, if_neg (by decide)] at hi
        rw [e, if_neg (by decide)]; simp (disch := omega) only [sq_u, sC_u]; exact h7 i hi
      · rw [e, if_neg (by decide)] at hi
        rw [e, if_neg (by decide)]; simp (disch := omega) only [sq_u, sC_u]; exact h8 i hi
      · rw [e, if_neg (by decide), e4] at hi
        rw [e, if_pos rfl, sq_u (by omega)]
        by_cases z : i = 39
        · rw [if_neg (by omega), if_pos z, z]; exact sq_hit _ _ _ _
        · rw [if_pos (by omega), sq_off (by omega), sq_u (by omega)]
          show (sC S 45 45 1 0 39).1 45 i = _
          rw [sC_b]
          unfold va_cpy
          rw [if_pos (by omega), Nat.sub_zero, Nat.add_comm]
          exact h9 (i + 1) (by omega)
    · simp (disch := omega) only [sq_u, sC_u]
theorem x9_wk (hF : 100 < F) (hR : RT S 376 T) (hW : Wf T) (hh : h < T 0 0) (hs : s < 2) : ∃ S', f_X9_write F S 375 (nI h) (nI s) = some S' ∧ RT S' 376 (wkT T h s) ∧ Fq S S' := by
  have w0 := hW.1
  have w2 := hW.2.2.1
  have w4 := hW.2.2.2.2.1
  have w59 : ∀ (g : Nat → Int32) n, n < 40 → g 8 = nI (T 0 2) → g 10 = nI n → lX9_write_59 F 375 (nI h) (nI s) (sF S 376 g) = some (sF S 376 (fun j => if j = 10 then nI (n + 1) else if j = 2268 + n then nI (wkv T h s) else g j)) := fun g n hn g8 g10 => by
    unfold wkv
    rw [u_X9_write_59, inb_n (n := 10) (by omega) (by omega), inb_n (n := 8) (by omega) (by omega), ck_t, ck_t, nI_clamp (n := 10) (by omega), nI_clamp (n := 8) (by omega), sF_c, sF_c, g8, g10, nI_add, inb_n (n := 2268 + n) (by omega) (by omega), ck_t, nI_clamp (n := 2268 + n) (by omega), pk_mul, pk_mul, nI_add, nI_add, stp_s, ck_t, ck_t, sF_I, sF_c, if_neg (by omega), g10, nI_add, stp_s, sF_I]
  obtain ⟨h1, h2, h3, h4, h5, h6, h7, h8, h9⟩ := hR
  rw [u_X9_write, inb_n (n := 10) (by omega) (by omega), ck_t, nI_clamp (n := 10) (by omega), h4]
  by_cases q : T 0 4 < 40
  · have u := w59 (S.1 376) (T 0 4) q h2 h4
    rw [← sF_e] at u
    refine ⟨_, by rw [if_neg (nne (show T 0 4 ≠ 40 by omega) (by omega) (by omega)), u], ?_, ⟨fun u k c => sF_u (by omega), fun k c => ?_⟩⟩
    · have e : wkT T h s = tu (tu T 4 (T 0 4) (wkv T h s)) 0 4 (T 0 4 + 1) := if_pos q
      rw [e]
      refine ⟨?_, ?_, ?_, ?_, fun i hi => ?_, fun i hi => ?_, fun i hi => ?_, fun i hi => ?_, fun i hi => ?_⟩
      · rw [sF_c, if_neg (by omega), if_neg (by omega)]; simp (disch := omega) only [sq_hit, sq_off, tu_hit, tu_off]; exact h1
      · rw [sF_c, if_neg (by omega), if_neg (by omega)]; simp (disch := omega) only [sq_hit, sq_off, tu_hit, tu_off]; exact h2
      · rw [sF_c, if_neg (by omega), if_neg (by omega)]; simp (disch := omega) only [sq_hit, sq_off, tu_hit, tu_off]; exact h3
      · rw [sF_c, if_pos rfl]; simp (disch := omega) only [sq_hit, sq_off, tu_hit, tu_off]
      · have hi' : i < T 0 0 := hi
        rw [sF_c, if_neg (by omega), if_neg (by omega)]; simp (disch := omega) only [sq_hit, sq_off, tu_hit, tu_off]; exact h5 i hi'
      · have hi' : i < T 0 0 := hi
        rw [sF_c, if_neg (by omega), if_neg (by omega)]; simp (disch := omega) only [sq_hit, sq_off, tu_hit, tu_off]; exact h6 i hi'
      · have hi' : i < T 0 0 := hi
        rw [sF_c, if_neg (by omega), if_neg (by omega)]; simp (disch := omega) only [sq_hit, sq_off, tu_hit, tu_off]; exact h7 i hi'
      · have hi' : i < T 0 0 := hi
        rw [sF_c, if_neg (by omega), if_neg (by omega)]; simp (disch := omega) only [sq_hit, sq_off, tu_hit, tu_off]; exact h8 i hi'
      · rw [tu_hit] at hi
        rw [sF_c, if_neg (by omega)]
        by_cases z : i = T 0 4
        · rw [if_pos (by omega), z]; simp (disch := omega) only [sq_hit, sq_off, tu_hit, tu_off]
        · rw [if_neg (by omega)]; simp (disch := omega) only [sq_hit, sq_off, tu_hit, tu_off]; exact h9 i (by omega)
    · rw [sF_c, if_neg (by omega), if_neg (by omega)]
  · have e4 : T 0 4 = 40 := by omega
    let g : Nat → Int32 := fun j => if j = 10 then nI 39 else fillg (S.1 376) (S.1 376) 2268 (fun k => 2269 + k) 39 j
    have lp := up_l (fun k i => lX9_write_14 F (fun (S : mS) => lX9_write_59 F 375 (nI h) (nI s) S) 375 (nI h) (nI s) k (sF S 376 (fillg (S.1 376) (S.1 376) 2268 (fun k => 2269 + k) i)) (nI (i + 1))) (lX9_write_59 F 375 (nI h) (nI s) (sF S 376 g)) 39 (fun k => ?_) (fun k i hi => ?_) F 0 (by omega) (by omega)
    · rw [fg_0, ← sF_e] at lp
      have u := w59 g 39 (by omega) (by show (if 8 = 10 then _ else _) = _; rw [if_neg (by omega), fg_out (by omega)]; exact h2) (if_pos rfl)
      refine ⟨_, by rw [if_pos (by rw [e4]), lp, u], ?_, ⟨fun u k c => sF_u (by omega), fun k c => ?_⟩⟩
      · have e : ∀ i k, wkT T h s i k = if i = 4 then (if k < 39 then T 4 (k + 1) else if k = 39 then wkv T h s else T 4 k) else T i k := fun i k => by unfold wkT; rw [if_neg q]
        have ge : ∀ k, k ≠ 10 → k < 2268 → (sF S 376 (fun j => if j = 10 then nI (39 + 1) else if j = 2268 + 39 then nI (wkv T h s) else g j)).1 376 k = S.1 376 k := fun k h10 hk => by
          rw [sF_c, if_neg h10, if_neg (by omega)]
          show (if k = 10 then _ else _) = _
          rw [if_neg h10, fg_out (by omega)]
        refine ⟨?_, ?_, ?_, ?_, fun i hi => ?_, fun i hi => ?_, fun i hi => ?_, fun i hi => ?_, fun i hi => ?_⟩
        · rw [ge _ (by omega) (by omega), e, if_neg (by decide)]; exact h1
        · rw [ge _ (by omega) (by omega), e, if_neg (by decide)]; exact h2
        · rw [ge _ (by omega) (by omega), e, if_neg (by decide)]; exact h3
        · rw [sF_c, if_pos rfl, e, if_neg (by decide), e4]
        · rw [e, if_neg (by decide)] at hi
          rw [ge _ (by omega) (by omega), e, if_neg (by decide)]; exact h5 i hi
        · rw [e, if_neg (by decide)] at hi
          rw [ge _ (by omega) (by omega), e, if_neg (by decide)]; exact h6 i hi
        · rw [e, if_neg (by decide)] at hi
          rw [ge _ (by omega) (by omega), e, if_neg (by decide)]; exact h7 i hi
        · rw [e, if_neg (by decide)] at hi
          rw [ge _ (by omega) (by omega), e 0 1, if_neg (show ¬ 0 = 4 by decide)]; exact h8 i hi
        · rw [e, if_neg (by decide), e4] at hi
          rw [e, if_pos rfl, sF_c, if_neg (by omega)]
          by_cases z : i = 39
          · rw [if_pos (by omega), if_neg (by omega), if_pos z]
          · rw [if_neg (by omega), if_pos (by omega)]
            show (if 2268 + i = 10 then _ else _) = _
            rw [if_neg (by omega), fg_in (by omega) (by omega), show 2268 + i - 2268 = i by omega, show 2269 + i = 2268 + (i + 1) by omega]
            exact h9 (i + 1) (by omega)
      · rw [sF_c, if_neg (by omega), if_neg (by omega)]
        show (if k = 10 then _ else _) = _
        rw [if_neg (by omega), fg_out (by omega)]
    · show lX9_write_14 F _ 375 (nI h) (nI s) (k + 1) _ _ = _
      rw [u_X9_write_14, if_pos (nI_le (by omega) (by omega)), inb_n (n := 10) (by omega) (by omega), ck_t, ck_t, nI_clamp (n := 10) (by omega), sF_c, fg_out (by omega), h4, e4, stp_s, sF_I]
      rfl
    · show lX9_write_14 F _ 375 (nI h) (nI s) (k + 1) _ _ = lX9_write_14 F _ 375 (nI h) (nI s) k _ _
      rw [u_X9_write_14, if_neg (nI_ge (by omega) (by omega)), nI_add, pk_sub (by omega), inb_n (n := 2268 + (i + 1)) (by omega) (by omega), inb_n (n := 2268 + (i + 1) - 1) (by omega) (by omega), ck_t, ck_t, nI_clamp (n := 2268 + (i + 1)) (by omega), nI_clamp (n := 2268 + (i + 1) - 1) (by omega), sF_c, stp_s, fg_s (show 2268 + (i + 1) - 1 = 2268 + i by omega) (show fillg (S.1 376) (S.1 376) 2268 (fun k => 2269 + k) i (2268 + (i + 1)) = S.1 376 (2269 + i) by rw [fg_out (by omega)]; exact congrArg (S.1 376) (by omega)), nI_add]
/-- the town behind a knock -/
def knT (Et T : Tw) (h : Nat) : Tw := if (T 1 h).testBit (T 0 2 % 20) = true then tu (wkT T h 1) 3 h (T 3 h - 1) else if lts Et (wkT T h 0) (T 0 2) h = true then tu (wkT T h 0) 3 h (min 99 (T 3 h + 1)) else wkT T h 0
def knr (T : Tw) (h : Nat) : Nat := if (T 1 h).testBit (T 0 2 % 20) = true then 1 else 0
theorem kn_Wf (Et : Tw) (hW : Wf T) (hh : h < T 0 0) : Wf (knT Et T h) ∧ knT Et T h 0 0 = T 0 0 := by
  have s3 := hW.2.2.2.2.2.1 h hh
  unfold knT
  split
  · exact ⟨(wk_Wf hW hh (by omega)).friends (by omega), wk_o (by decide) (by decide)⟩
  · split
    · exact ⟨(wk_Wf hW hh (by omega)).friends (Nat.min_le_left _ _), wk_o (by decide) (by decide)⟩
    · exact ⟨wk_Wf hW hh (by omega), wk_o (by decide) (by decide)⟩
theorem x6_befr (hC : CT S 41 T) (hW : Wf T) (hh : h < T 0 0) : f_X6_befriend F S 41 (nI h) (-1) = some (sI S 44 h (nI (T 3 h - 1))) ∧ f_X6_befriend F S 41 (nI h) (nI 1) = some (sI S 44 h (nI (min 99 (T 3 h + 1)))) := by
  have w0 := hW.1
  have s3 := hW.2.2.2.2.2.1 h hh
  have c3 : S.1 (41 + 3) h = nI (T 3 h) := hC.2.2.2.2.2.2.2.1 h hh
  have e : ∀ v, f_X6_befriend F S 41 (nI h) v = some (sI S (41 + 3) h (imax (nI 0) (imin (nI 99) (nI (T 3 h) + v)))) := fun v => by
    rw [u_X6_befriend, x6_told hC hW, tld_n (by omega) (by omega), decide_eq_true hh, if_pos rfl, inb_n (n := h) (by omega) (by omega), ck_t, ck_t, nI_clamp (by omega), c3, stp_s]
  refine ⟨?_, ?_⟩
  · rw [e]
    refine congrArg (fun z => some (sI S 44 h z)) ?_
    by_cases q : T 3 h = 0
    · rw [q]; decide
    · obtain ⟨n, hn⟩ : ∃ n, T 3 h = n + 1 := ⟨T 3 h - 1, by omega⟩
      rw [hn, pk_m1, imin_n (by omega) (by omega), imax_n (by omega) (by omega)]
      exact congrArg nI (by omega)
  · rw [e, nI_add, imin_n (by omega) (by omega), imax_n (by omega) (by omega)]
    exact congrArg (fun z => some (sI S 44 h (nI z))) (by omega)
end
