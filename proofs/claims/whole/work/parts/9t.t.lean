/-! ===== what the reference asks of a token ===== -/
def tkp : List (Nat × Nat) := [(0, 0), (1, 2), (40, 11), (41, 12), (43, 7), (45, 8), (42, 9), (47, 10), (59, 13), (60, 3), (4, 14), (62, 4), (5, 15), (61, 5), (35, 6)]
theorem tk_all : ∀ p ∈ tkp, p.1 < 64 ∧ ∀ t, t < 64 → ∀ k, k < 38 → tkr k t = true → (t = p.1 ↔ k = p.2) := by decide +kernel
theorem tk_2 : ∀ t, t < 64 → ∀ k, k < 38 → tkr k t = true → t ≠ 2 → k < 16 := by decide +kernel
theorem tk_1 : ∀ t, t < 64 → ∀ k, k < 38 → tkr k t = true → k = 2 → t = 1 := by decide +kernel
theorem cw_day {S : mS} : f_X9_w3 S (nI 100) (nI 97) (nI 121) = lN (wcs.getD 0 0) := by
  unfold f_X9_w3 f_X9_w2
  decide +kernel
theorem cw_date {S : mS} : f_X9_w4 S (nI 100) (nI 97) (nI 116) (nI 101) = lN (wcs.getD 1 0) := by
  unfold f_X9_w4 f_X9_w3 f_X9_w2
  decide +kernel
theorem cw_house {S : mS} : f_X9_w5 S (nI 104) (nI 111) (nI 117) (nI 115) (nI 101) = lN (wcs.getD 2 0) := by
  unfold f_X9_w5 f_X9_w4 f_X9_w3 f_X9_w2
  decide +kernel
theorem cw_purse {S : mS} : f_X9_w5 S (nI 112) (nI 117) (nI 114) (nI 115) (nI 101) = lN (wcs.getD 3 0) := by
  unfold f_X9_w5 f_X9_w4 f_X9_w3 f_X9_w2
  decide +kernel
theorem cw_days {S : mS} : f_X9_w4 S (nI 100) (nI 97) (nI 121) (nI 115) = lN (wcs.getD 5 0) := by
  unfold f_X9_w4 f_X9_w3 f_X9_w2
  decide +kernel
theorem cw_open {S : mS} : f_X9_w4 S (nI 111) (nI 112) (nI 101) (nI 110) = lN (wcs.getD 6 0) := by
  unfold f_X9_w4 f_X9_w3 f_X9_w2
  decide +kernel
theorem cw_beside {S : mS} : f_X9_w6 S (nI 98) (nI 101) (nI 115) (nI 105) (nI 100) (nI 101) = lN (wcs.getD 7 0) := by
  unfold f_X9_w6 f_X9_w5 f_X9_w4 f_X9_w3 f_X9_w2
  decide +kernel
theorem cw_earns {S : mS} : f_X9_w5 S (nI 101) (nI 97) (nI 114) (nI 110) (nI 115) = lN (wcs.getD 8 0) := by
  unfold f_X9_w5 f_X9_w4 f_X9_w3 f_X9_w2
  decide +kernel
theorem cw_loses {S : mS} : f_X9_w5 S (nI 108) (nI 111) (nI 115) (nI 101) (nI 115) = lN (wcs.getD 9 0) := by
  unfold f_X9_w5 f_X9_w4 f_X9_w3 f_X9_w2
  decide +kernel
theorem cw_lets {S : mS} : f_X9_w4 S (nI 108) (nI 101) (nI 116) (nI 115) = lN (wcs.getD 10 0) := by
  unfold f_X9_w4 f_X9_w3 f_X9_w2
  decide +kernel
theorem cw_knock {S : mS} : f_X9_w5 S (nI 107) (nI 110) (nI 111) (nI 99) (nI 107) = lN (wcs.getD 11 0) := by
  unfold f_X9_w5 f_X9_w4 f_X9_w3 f_X9_w2
  decide +kernel
theorem cw_marry {S : mS} : f_X9_w5 S (nI 109) (nI 97) (nI 114) (nI 114) (nI 121) = lN (wcs.getD 12 0) := by
  unfold f_X9_w5 f_X9_w4 f_X9_w3 f_X9_w2
  decide +kernel
theorem cw_hat {S : mS} : f_X9_w3 S (nI 104) (nI 97) (nI 116) = lN (wcs.getD 13 0) := by
  unfold f_X9_w3 f_X9_w2
  decide +kernel
theorem cw_forget {S : mS} : f_X9_w6 S (nI 102) (nI 111) (nI 114) (nI 103) (nI 101) (nI 116) = lN (wcs.getD 14 0) := by
  unfold f_X9_w6 f_X9_w5 f_X9_w4 f_X9_w3 f_X9_w2
  decide +kernel
theorem cw_to {S : mS} : f_X9_w2 S (nI 116) (nI 111) = lN (wcs.getD 15 0) := by
  unfold f_X9_w2
  decide +kernel
theorem cw_of {S : mS} : f_X9_w2 S (nI 111) (nI 102) = lN (wcs.getD 16 0) := by
  unfold f_X9_w2
  decide +kernel
theorem cw_or {S : mS} : f_X9_w2 S (nI 111) (nI 114) = lN (wcs.getD 17 0) := by
  unfold f_X9_w2
  decide +kernel
theorem cw_and {S : mS} : f_X9_w3 S (nI 97) (nI 110) (nI 100) = lN (wcs.getD 18 0) := by
  unfold f_X9_w3 f_X9_w2
  decide +kernel
theorem cw_not {S : mS} : f_X9_w3 S (nI 110) (nI 111) (nI 116) = lN (wcs.getD 19 0) := by
  unfold f_X9_w3 f_X9_w2
  decide +kernel
theorem cw_digit {S : mS} : f_X9_w5 S (nI 100) (nI 105) (nI 103) (nI 105) (nI 116) = lN (wcs.getD 21 0) := by
  unfold f_X9_w5 f_X9_w4 f_X9_w3 f_X9_w2
  decide +kernel
theorem cw_friends4 {S : mS} : f_X9_w4 S (nI 102) (nI 114) (nI 105) (nI 101) = lN 1718774117 := by
  unfold f_X9_w4 f_X9_w3 f_X9_w2
  decide +kernel
theorem cw_friends3 {S : mS} : f_X9_w3 S (nI 110) (nI 100) (nI 115) = lN 7234675 := by
  unfold f_X9_w3 f_X9_w2
  decide +kernel
theorem cw_divides4 {S : mS} : f_X9_w4 S (nI 100) (nI 105) (nI 118) (nI 105) = lN 1684633193 := by
  unfold f_X9_w4 f_X9_w3 f_X9_w2
  decide +kernel
theorem cw_divides3 {S : mS} : f_X9_w3 S (nI 100) (nI 101) (nI 115) = lN 6579571 := by
  unfold f_X9_w3 f_X9_w2
  decide +kernel

section
variable {F : Nat} {B : Nat → Nat} {L : Nat} {S : mS} {s : Nat}
theorem iT (h : TQ B S s) (a b : Nat) (hab : (a, b) ∈ tkp) {α : Type} (x y : α) : (if S.1 375 9 = nI a then x else y) = if kd B s = b then x else y := by
  obtain ⟨_, _, t, t1, t2, t3, _⟩ := h
  obtain ⟨ha, q⟩ := tk_all (a, b) hab
  have ha : a < 64 := ha
  have q : t = a ↔ kd B s = b := q t t1 (kd B s) (kd_lt s) t3
  rw [t2, ifn (by omega) (by omega)]
  by_cases e : t = a
  · rw [if_pos e, if_pos (q.mp e)]
  · rw [if_neg e, if_neg (fun z => e (q.mpr z))]
theorem tE_L (hB : BL B L) (h : isL (B s) = true) : ∀ k, k < tE B s - s → isL (B (s + k)) = true := fun k hk => by
  have et : tE B s = rn B isL 301 (s + 1) := if_pos h
  by_cases e : k = 0
  · rw [e]; exact h
  · exact rn_al isL 301 (s + 1) (s + k) (by omega) (by rw [← et]; omega)
theorem TQ.w2 (hB : BL B L) (h : TQ B S s) : (S.1 375 9 = nI 2 ∧ isL (B s) = true ∧ S.2 375 11 = lN (wW B s (tE B s - s)) ∧ wW B s (tE B s - s) < 2 ^ 62 ∧ kd B s = kW (wW B s (tE B s - s))) ∨ (¬ S.1 375 9 = nI 2 ∧ kd B s < 16) := by
  obtain ⟨_, _, t, t1, t2, t3, _, t5⟩ := h
  by_cases e : t = 2
  · obtain ⟨a, b⟩ := t5 e
    refine Or.inl ⟨by rw [t2, e], a, b, wW_lt hB (tE_L hB a), ?_⟩
    unfold kd
    rw [if_neg (isL_n a).1, a, if_pos rfl]
  · exact Or.inr ⟨fun z => e (by rw [t2, nI_eq (by omega) (by omega)] at z; exact z), tk_2 t t1 _ (kd_lt s) t3 e⟩
theorem wcs_lt : ∀ w, w < 22 → wcs.getD w 0 < 2 ^ 62 := by decide
theorem wq {W w k : Nat} (hW : W < 2 ^ 62) (hk : k = kW W) (hw : w < 22) : lN W = lN (wcs.getD w 0) ↔ k = 16 + w := by
  have := wcs_lt w hw
  rw [pk_lEQ (by omega) (by omega), hk, kW_iff W hw]
theorem iW (hB : BL B L) (h : TQ B S s) {w : Nat} (hw : w < 22) {c : Int64} (hc : c = lN (wcs.getD w 0)) : f_X9_isWord S 375 c = decide (kd B s = 16 + w) := by
  rw [u_X9_isWord]
  rcases h.w2 hB with ⟨a, b, d, e, f⟩ | ⟨a, b⟩
  · rw [if_pos a, d, hc]
    have q := wq e f hw
    by_cases z : kd B s = 16 + w
    · rw [if_pos (q.mpr z), decide_eq_true z]
    · rw [if_neg (fun y => z (q.mp y)), decide_eq_false z]
  · rw [if_neg a, decide_eq_false (by omega)]
theorem w2_n {a b : Nat} (ha : a < 256) (hb : b < 256) : f_X9_w2 S (nI a) (nI b) = lN (a * 256 + b) := by
  rw [u_X9_w2, nI_l (n := a) (by omega), pk8 hb]
theorem w3_n {a b c : Nat} (ha : a < 256) (hb : b < 256) (hc : c < 256) : f_X9_w3 S (nI a) (nI b) (nI c) = lN ((a * 256 + b) * 256 + c) := by
  rw [u_X9_w3, w2_n ha hb, pk8 hc]
theorem w4_n {a b c d : Nat} (ha : a < 256) (hb : b < 256) (hc : c < 256) (hd : d < 256) : f_X9_w4 S (nI a) (nI b) (nI c) (nI d) = lN (((a * 256 + b) * 256 + c) * 256 + d) := by
  rw [u_X9_w4, w3_n ha hb hc, pk8 hd]
theorem x9_long (hB : BL B L) (hT : TP S B L) (hs : s ≤ L) (h : TQ B S s) {w x y : Nat} (hw : w < 22) (hy : y < 16777216) (hx : 16777216 ≤ x ∧ x < 4294967296) (hc : wcs.getD w 0 = x * 16777216 + y) : f_X9_isLong F S 375 (lN x) (lN y) = some (decide (kd B s = 16 + w)) := by
  have h0 := hB.1
  rw [u_X9_isLong]
  rcases h.w2 hB with ⟨a, b, d, e, f⟩ | ⟨a, b⟩
  · have hL := hB.nz (isL_n b).1
    have te := tE_le hB (isL_n b).1
    have tg := tE_gt (B := B) s
    have al := tE_L hB b
    have q := wq e f hw
    have kq : kd B s = 16 + w ↔ wW B s (tE B s - s) = wcs.getD w 0 := by rw [f, kW_iff _ hw]
    rw [if_pos a, h.2.1 (isL_n b).1, h.1, pk_sub (by omega), ifn (by omega) (by omega)]
    by_cases n7 : tE B s - s = 7
    · rw [if_pos n7]
      rw [n7] at al kq
      have lb : ∀ k, k < 7 → B (s + k) ≠ 256 ∧ B (s + k) < 256 := fun k hk => by
        have h1 := (isL_n (al k hk)).1
        have h2 := hB.b (s + k)
        omega
      have bb : ∀ k, k < 7 → bv B (s + k) = nI (B (s + k)) := fun k hk => bv_n (lb k hk).1
      have b0 := bb 0 (by omega)
      rw [Nat.add_zero] at b0
      have l0 := (lb 0 (by omega)).2
      rw [Nat.add_zero] at l0
      rw [nI_add, nI_add, nI_add, nI_add, nI_add, nI_add, x9_byte hB hT (by omega), x9_byte hB hT (by omega), x9_byte hB hT (by omega), x9_byte hB hT (by omega), x9_byte hB hT (by omega), x9_byte hB hT (by omega), x9_byte hB hT (by omega), bd_s, bd_s, bd_s, bd_s, bd_s, bd_s, bd_s, b0, bb 1 (by omega), bb 2 (by omega), bb 3 (by omega), bb 4 (by omega), bb 5 (by omega), bb 6 (by omega)]
      have l1 := (lb 1 (by omega)).2
      have l2 := (lb 2 (by omega)).2
      have l3 := (lb 3 (by omega)).2
      have l4 := (lb 4 (by omega)).2
      have l5 := (lb 5 (by omega)).2
      have l6 := (lb 6 (by omega)).2
      have ew : wW B s 7 = ((((((B s * 256 + B (s + 1)) * 256 + B (s + 2)) * 256 + B (s + 3)) * 256 + B (s + 4)) * 256 + B (s + 5)) * 256 + B (s + 6)) := by
        show (((((((0 * 256 + B (s + 0)) * 256 + B (s + 1)) * 256 + B (s + 2)) * 256 + B (s + 3)) * 256 + B (s + 4)) * 256 + B (s + 5)) * 256 + B (s + 6)) = _
        rw [Nat.add_zero, Nat.zero_mul, Nat.zero_add]
      rw [w4_n l0 l1 l2 l3, w3_n l4 l5 l6]
      have p1 : (lN (((B s * 256 + B (s + 1)) * 256 + B (s + 2)) * 256 + B (s + 3)) = lN x) ↔ (((B s * 256 + B (s + 1)) * 256 + B (s + 2)) * 256 + B (s + 3)) = x := pk_lEQ (by omega) (by omega)
      have p2 : (lN ((B (s + 4) * 256 + B (s + 5)) * 256 + B (s + 6)) = lN y) ↔ ((B (s + 4) * 256 + B (s + 5)) * 256 + B (s + 6)) = y := pk_lEQ (by omega) (by omega)
      by_cases z : kd B s = 16 + w
      · have z2 := kq.mp z
        rw [if_pos (p1.mpr (by omega)), if_pos (p2.mpr (by omega)), decide_eq_true z]
      · rw [decide_eq_false z]
        by_cases z1 : (((B s * 256 + B (s + 1)) * 256 + B (s + 2)) * 256 + B (s + 3)) = x
        · rw [if_pos (p1.mpr z1), if_neg (fun z2 => z (kq.mpr (by have := p2.mp z2; omega)))]
        · rw [if_neg (fun z2 => z1 (p1.mp z2))]
    · rw [if_neg n7, decide_eq_false]
      intro z
      have z2 := kq.mp z
      unfold wW at z2
      by_cases y7 : tE B s - s ≤ 7
      · rw [if_pos y7] at z2
        have pb := pkf_lt (f := fun k => B (s + k)) (tE B s - s) (fun k hk => by
          have h1 := (isL_n (al k hk)).1
          have h2 := hB.b (s + k)
          show B (s + k) < 256
          omega)
        have h2 : 256 ^ (tE B s - s) ≤ 256 ^ 6 := Nat.pow_le_pow_right (by omega) (by omega)
        have p6 : (256 : Nat) ^ 6 = 281474976710656 := by decide
        omega
      · rw [if_neg y7] at z2
        omega
  · rw [if_neg a, decide_eq_false (by omega)]
theorem x9_fri (hB : BL B L) (hT : TP S B L) (hs : s ≤ L) (h : TQ B S s) : f_X9_isFriends F S 375 = some (decide (kd B s = 20)) := by
  rw [u_X9_isFriends, cw_friends4, cw_friends3, x9_long hB hT hs h (w := 4) (by omega) (by omega) (by omega) (by decide), bd_s]
theorem x9_nmo (hB : BL B L) (hT : TP S B L) (hs : s ≤ L) (h : TQ B S s) : f_X9_nameOf F S 375 = some (if 16 ≤ kd B s ∧ kd B s ≤ 23 then nI (kd B s - 16) else -1) := by
  rw [u_X9_nameOf, cw_day, cw_date, cw_house, cw_purse, x9_fri hB hT hs h, bd_s, cw_days, cw_open, cw_beside]
  rcases h.w2 hB with ⟨a, b, d, e, f⟩ | ⟨a, b⟩
  · rw [if_pos a, d]
    have q : ∀ w, w < 22 → (lN (wW B s (tE B s - s)) = lN (wcs.getD w 0) ↔ kd B s = 16 + w) := fun w hw => wq e f hw
    by_cases e0 : kd B s = 16
    · rw [if_pos ((q 0 (by omega)).mpr e0), e0]; rfl
    rw [if_neg (fun z => e0 ((q 0 (by omega)).mp z))]
    by_cases e1 : kd B s = 17
    · rw [if_pos ((q 1 (by omega)).mpr e1), e1]; rfl
    rw [if_neg (fun z => e1 ((q 1 (by omega)).mp z))]
    by_cases e2 : kd B s = 18
    · rw [if_pos ((q 2 (by omega)).mpr e2), e2]; rfl
    rw [if_neg (fun z => e2 ((q 2 (by omega)).mp z))]
    by_cases e3 : kd B s = 19
    · rw [if_pos ((q 3 (by omega)).mpr e3), e3]; rfl
    rw [if_neg (fun z => e3 ((q 3 (by omega)).mp z))]
    by_cases e4 : kd B s = 20
    · rw [decide_eq_true e4, if_pos rfl, e4]; rfl
    rw [decide_eq_false e4, if_neg Bool.false_ne_true]
    by_cases e5 : kd B s = 21
    · rw [if_pos ((q 5 (by omega)).mpr e5), e5]; rfl
    rw [if_neg (fun z => e5 ((q 5 (by omega)).mp z))]
    by_cases e6 : kd B s = 22
    · rw [if_pos ((q 6 (by omega)).mpr e6), e6]; rfl
    rw [if_neg (fun z => e6 ((q 6 (by omega)).mp z))]
    by_cases e7 : kd B s = 23
    · rw [if_pos ((q 7 (by omega)).mpr e7), e7]; rfl
    rw [if_neg (fun z => e7 ((q 7 (by omega)).mp z)), if_neg (by omega)]
  · rw [if_neg a, if_neg (by omega)]
theorem TQ.num (h : TQ B S s) (hk : kd B s = 2) : S.1 375 9 = nI 1 ∧ ∃ m, m < 2000000 ∧ S.1 375 10 = nI m ∧ min m 10000 = nmC B s (tE B s - s) := by
  obtain ⟨_, _, t, t1, t2, t3, t4, _⟩ := h
  have e := tk_1 t t1 _ (kd_lt s) t3 hk
  exact ⟨by rw [t2, e], t4 e⟩
end
