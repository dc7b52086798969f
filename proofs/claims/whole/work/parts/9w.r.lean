/-! ===== the reference reads a law ===== -/
section
variable {F : Nat} {B : Nat → Nat} {L : Nat} {S0 S : mS} {t0 w0 ei so i op wh : Nat} {P c : List Nat}
/-- behind a whole ONE: what joins -/
theorem H_bin (hF : 1000 < F) (h0 : RB0 B L S0 t0 w0 ei so) {w ℓ : Nat} {q : List Nat} (hw : f_X9_betweenOf F S 375 = some (nI (rq w))) (hl : (if rk w = 4 then 5 else rk w) = ℓ) (h1 : 1 ≤ rk w) (hq : ∀ w, w ∈ q → ℓ ≤ rk w ∧ gw w) (h : RQ B L S0 S t0 w0 i (q ++ P) c (op + cnN q) 1) (hk : kp B i ≠ 0) (hb : w0 + c.length + q.length < 304) (hp : q.length + P.length < 150) (ht : tpl ℓ P) : ∃ S', (∀ k, LL F ei (k + 1) S = LL F ei k S') ∧ RQ B L S0 S' t0 w0 (i + 1) (w :: P) (c ++ q) op 0 := by
  have hr := rq_lt w
  have hk2 := rkO_lt (rq w)
  have hlb : ℓ < 10 := by
    rw [← hl]
    show (if rkO (rq w) = 4 then 5 else rkO (rq w)) < 10
    split <;> omega
  have o8 := h.2.1.2.2
  obtain ⟨S1, a, b⟩ := settle_q (F := F) h0 hlb q (k := F) hq h hb hp (by omega) ht (by omega)
  rw [show op + cnN q - cnN q = op by omega] at b
  have b16 := b.2.2.1.1
  have hR : RQ B L S0 (sI (sI (sI S1 380 P.length (nI (rq w))) 375 16 (nI (P.length + 1))) 375 18 (nI 0)) t0 w0 i (w :: P) (c ++ q) op 0 := by
    refine b.ch (fun u k x y => by rw [sq_off (by omega), sq_off (by omega), sq_off (by omega)]) rfl ?_ ⟨?_, ?_⟩ ?_ (sq_hit _ _ _ _) (by omega)
    · rw [sq_off (by omega), sq_hit]; rfl
    · rw [sq_off (by omega), sq_off (by omega), sq_hit]
    · exact b.2.2.1.2.fr (fun k hk => by rw [sq_off (by omega), sq_off (by omega), sq_off (by omega)])
    · rw [sq_off (by omega), sq_off (by omega), sq_off (by omega)]; exact b.2.2.2.2.1.1
  obtain ⟨S2, a2, b2⟩ := hR.nx (F := F) hF h0 hk
  refine ⟨S2, fun k => ?_, b2⟩
  have E : lX9_behindOne_26 F 375 S (nI (rq w)) (nI ℓ) = some (S2, nI 0) := by
    rw [u_X9_behindOne_26, u_X9_settle, a, bd_s, b16, inb_n (by omega) (by omega), ck_t, nI_clamp (by omega), stp_s, sq_off (by omega), b16, nI_add, stp_s, stp_s, a2, bd_s]
  rw [LL_h h, u_X9_behindOne, hw, bd_s, if_neg (nI_nlt (by omega) (by omega)), n_rank (by omega), ifn (by omega) (by omega)]
  have hl : (if rkO (rq w) = 4 then 5 else rkO (rq w)) = ℓ := hl
  by_cases z : rkO (rq w) = 4
  · rw [if_pos z] at hl
    rw [if_pos z, hl, E, bd_s]
    exact L3_0
  · rw [if_neg z] at hl
    rw [if_neg z, hl, E, bd_s]
    exact L3_0
theorem bt_ar (h : RQ B L S0 S t0 w0 i P c op wh) (hk : 7 ≤ kp B i ∧ kp B i ≤ 10) : f_X9_betweenOf F S 375 = some (nI (rq (10000 + kp B i))) := by
  have hk' : 7 ≤ kd B (tS B i) ∧ kd B (tS B i) ≤ 10 := hk
  show _ = some (nI (rq (10000 + kd B (tS B i))))
  rw [u_X9_betweenOf, iT h.1 43 7 (by decide), iT h.1 45 8 (by decide), iT h.1 42 9 (by decide), iT h.1 47 10 (by decide)]
  by_cases a : kd B (tS B i) = 7
  · rw [if_pos a, a]; rfl
  by_cases b : kd B (tS B i) = 8
  · rw [if_neg a, if_pos b, b]; rfl
  by_cases d : kd B (tS B i) = 9
  · rw [if_neg a, if_neg b, if_pos d, d]; rfl
  · rw [if_neg a, if_neg b, if_neg d, if_pos (by omega), show kd B (tS B i) = 10 by omega]; rfl
theorem bt_no (hF : 1000 < F) (h0 : RB0 B L S0 t0 w0 ei so) (h : RQ B L S0 S t0 w0 i P c op wh) (hp : P.length < 150) (hk : ¬ (7 ≤ kp B i ∧ kp B i ≤ 10)) (hs : ei = 0 ∨ 10011 ∈ P) : f_X9_betweenOf F S 375 = some (-1) := by
  have hk' : ¬ (7 ≤ kd B (tS B i) ∧ kd B (tS B i) ≤ 10) := hk
  have eb := h0.2.2.2.2.2.2.1
  rw [u_X9_betweenOf, iT h.1 43 7 (by decide), iT h.1 45 8 (by decide), iT h.1 42 9 (by decide), iT h.1 47 10 (by decide), if_neg (by omega), if_neg (by omega), if_neg (by omega), if_neg (by omega), h.xe h0, ifn (by omega) (by omega)]
  by_cases e : ei = 0
  · rw [if_pos e]
  · obtain ⟨b, x, y⟩ := x9_shutP (F := F) hF h hp
    rw [if_neg e, x, bd_s, y.mpr (by rcases hs with z | z; exact absurd z e; exact z), if_pos rfl]
theorem bt_lt (hF : 1000 < F) (h0 : RB0 B L S0 t0 w0 ei so) (h : RQ B L S0 S t0 w0 i P c op wh) (hp : P.length < 150) (hk : ¬ (7 ≤ kp B i ∧ kp B i ≤ 10)) (he : ei = 1) (hs : ¬ 10011 ∈ P) : f_X9_betweenOf F S 375 = if cmp P = true then some (if kp B i = 34 then nI 21 else if kp B i = 33 then nI 22 else -1) else some (if isR (kp B i) = true then nI (rq (10000 + kp B i)) else -1) := by
  have hk' : ¬ (7 ≤ kd B (tS B i) ∧ kd B (tS B i) ≤ 10) := hk
  have eb := h0.2.2.2.2.2.2.1
  obtain ⟨b, x, y⟩ := x9_shutP (F := F) hF h hp
  have bf : b = false := Bool.eq_false_iff.mpr (fun z => hs (y.mp z))
  have iw := iW (c := f_X9_w3 S (nI 97) (nI 110) (nI 100)) h0.1 h.1 (w := 18) (by omega) cw_and
  have iw2 := iW (c := f_X9_w2 S (nI 111) (nI 114)) h0.1 h.1 (w := 17) (by omega) cw_or
  rw [u_X9_betweenOf, iT h.1 43 7 (by decide), iT h.1 45 8 (by decide), iT h.1 42 9 (by decide), iT h.1 47 10 (by decide), if_neg (by omega), if_neg (by omega), if_neg (by omega), if_neg (by omega), h.xe h0, ifn (by omega) (by omega), if_neg (by omega), x, bd_s, bf, if_neg Bool.false_ne_true, x9_cmp hF h hp, bd_s]
  show _ = if cmp P = true then some (if kd B (tS B i) = 34 then nI 21 else if kd B (tS B i) = 33 then nI 22 else -1) else some (if isR (kd B (tS B i)) = true then nI (rq (10000 + kd B (tS B i))) else -1)
  cases hc : cmp P
  · rw [if_neg Bool.false_ne_true, if_neg Bool.false_ne_true, bd_id, u_X9_compareOf, iT h.1 60 3 (by decide), iT h.1 4 14 (by decide), iT h.1 62 4 (by decide), iT h.1 5 15 (by decide), iT h.1 61 5 (by decide), iT h.1 35 6 (by decide), cw_divides4, cw_divides3, x9_long h0.1 (h.tp h0) h.2.1.1 h.1 (w := 20) (by omega) (by omega) (by omega) (by decide), bd_s]
    by_cases a1 : kd B (tS B i) = 3
    · rw [if_pos a1, a1]; rfl
    by_cases a2 : kd B (tS B i) = 14
    · rw [if_neg a1, if_pos a2, a2]; rfl
    by_cases a3 : kd B (tS B i) = 4
    · rw [if_neg a1, if_neg a2, if_pos a3, a3]; rfl
    by_cases a4 : kd B (tS B i) = 15
    · rw [if_neg a1, if_neg a2, if_neg a3, if_pos a4, a4]; rfl
    by_cases a5 : kd B (tS B i) = 5
    · rw [if_neg a1, if_neg a2, if_neg a3, if_neg a4, if_pos a5, a5]; rfl
    by_cases a6 : kd B (tS B i) = 6
    · rw [if_neg a1, if_neg a2, if_neg a3, if_neg a4, if_neg a5, if_pos a6, a6]; rfl
    rw [if_neg a1, if_neg a2, if_neg a3, if_neg a4, if_neg a5, if_neg a6]
    by_cases a7 : kd B (tS B i) = 36
    · rw [decide_eq_true (show kd B (tS B i) = 16 + 20 from a7), if_pos rfl, a7]; rfl
    · rw [decide_eq_false (show ¬ kd B (tS B i) = 16 + 20 from a7), if_neg Bool.false_ne_true, if_neg (fun z => by have := of_decide_eq_true z; omega)]
  · rw [if_pos rfl, if_pos rfl, iw, iw2]
    by_cases a : kd B (tS B i) = 34
    · rw [decide_eq_true (show kd B (tS B i) = 16 + 18 from a), if_pos rfl, if_pos a]
    · rw [decide_eq_false (show ¬ kd B (tS B i) = 16 + 18 from a), if_neg Bool.false_ne_true, if_neg a]
      by_cases b : kd B (tS B i) = 33
      · rw [decide_eq_true (show kd B (tS B i) = 16 + 17 from b), if_pos rfl, if_pos b]
      · rw [decide_eq_false (show ¬ kd B (tS B i) = 16 + 17 from b), if_neg Bool.false_ne_true, if_neg b]
/-- what closes -/
theorem H_cl (hF : 1000 < F) (h0 : RB0 B L S0 t0 w0 ei so) {q : List Nat} (hq : ∀ w, w ∈ q → 1 ≤ rk w ∧ gw w) (h : RQ B L S0 S t0 w0 i (q ++ 10011 :: P) c (op + 1 + cnN q) 1) (hk : kp B i = 12) (hb : w0 + c.length + q.length < 304) (hp : q.length + P.length + 1 < 150) : ∃ S', (∀ k, LL F ei (k + 1) S = EE F ei F k S') ∧ RQ B L S0 S' t0 w0 (i + 1) P (c ++ q) op 1 := by
  have hk' : kd B (tS B i) = 12 := hk
  have hl : (q ++ 10011 :: P).length < 150 := by rw [List.length_append, List.length_cons]; omega
  have hm : 10011 ∈ q ++ 10011 :: P := List.mem_append.mpr (Or.inr (List.mem_cons_self ..))
  have o8 := h.2.1.2.2
  have bt := bt_no (F := F) hF h0 h hl (by omega) (Or.inr hm)
  obtain ⟨b, x, y⟩ := x9_shutP (F := F) hF h hl
  obtain ⟨S1, a, r⟩ := settle_q (F := F) h0 (ℓ := 1) (by omega) q (k := F) (P := 10011 :: P) hq h hb (by rw [List.length_cons]; omega) (by omega) (Or.inr ⟨10011, P, rfl, by decide⟩) (by omega)
  rw [show op + 1 + cnN q - cnN q = op + 1 by omega] at r
  have r16 : S1.1 375 16 = nI (P.length + 1) := r.2.2.1.1
  have r17 : S1.1 375 17 = nI (op + 1) := r.2.2.2.2.1.1
  have hR : RQ B L S0 (sI (sI S1 375 16 (nI P.length)) 375 17 (nI op)) t0 w0 i P (c ++ q) op 1 := by
    refine r.ch (fun u k x y => by rw [sq_off (by omega), sq_off (by omega)]) rfl ?_ ?_ (sq_hit _ _ _ _) ?_ (by omega)
    · rw [sq_off (by omega), sq_hit]
    · exact r.2.2.1.2.2.fr (fun k hk => by rw [sq_off (by omega), sq_off (by omega)])
    · rw [sq_off (by omega), sq_off (by omega)]; exact r.2.2.2.2.1.2
  obtain ⟨S2, a2, b2⟩ := hR.nx (F := F) hF h0 (by omega)
  refine ⟨S2, fun k => ?_, b2⟩
  rw [LL_h h, u_X9_behindOne, bt, bd_s, if_pos (by decide), x, bd_s, y.mpr hm, if_pos rfl, iT h.1 41 12 (by decide), if_pos hk', u_X9_settle, a, bd_s, r16, pk_sub (by omega), show P.length + 1 - 1 = P.length by omega, stp_s, sq_off (by omega), r17, pk_sub (by omega), show op + 1 - 1 = op by omega, stp_s, a2, bd_s]
  exact EE_F
/-- nothing joins -/
theorem H_no {k : Nat} (hF : 1000 < F) (h : RQ B L S0 S t0 w0 i P c op 1) (hp : P.length < 150) (bt : f_X9_betweenOf F S 375 = some (-1)) (hn : ¬ (10011 ∈ P ∧ kp B i = 12)) : LL F ei (k + 1) S = L3 F ei k (S, -1) := by
  obtain ⟨b, x, y⟩ := x9_shutP (F := F) hF h hp
  have hn : ¬ (10011 ∈ P ∧ kd B (tS B i) = 12) := hn
  rw [LL_h h, u_X9_behindOne, bt, bd_s, if_pos (by decide), x, bd_s, iT h.1 41 12 (by decide)]
  cases hb : b
  · rw [if_neg Bool.false_ne_true, bd_s]
  · rw [if_pos rfl, if_neg (fun z => hn ⟨y.mp hb, z⟩), bd_s]
theorem L3_m {k : Nat} (hF : 1000 < F) (h : RQ B L S0 S t0 w0 i P c op 1) (hp : P.length < 150) (eb : ei < 2) : (10011 ∈ P ∨ (ei = 1 ∧ cmp P = false) → L3 F ei k (S, -1) = some (S, nI 1)) ∧ (¬ 10011 ∈ P → (ei = 0 ∨ cmp P = true) → L3 F ei k (S, -1) = bd (lX9_settle_0 F 375 (nI 1) F S) fun q2 => some (q2, nI 0)) := by
  obtain ⟨b, x, y⟩ := x9_shutP (F := F) hF h hp
  unfold L3
  rw [u_X9_parsed_38, if_pos (show (-1 : Int32) ≤ nI 0 by decide), if_neg (show ¬ (-1 : Int32) = nI 0 by decide), x, bd_s, ifn (by omega) (by omega), x9_cmp hF h hp, bd_s]
  constructor
  · intro z
    by_cases q : 10011 ∈ P
    · rw [y.mpr q, if_pos rfl]
    · have bf : b = false := Bool.eq_false_iff.mpr (fun z => q (y.mp z))
      rcases z with z | ⟨z1, z2⟩
      · exact absurd z q
      · rw [bf, if_neg Bool.false_ne_true, if_neg (by omega), z2, if_neg Bool.false_ne_true]
  · intro q z
    have bf : b = false := Bool.eq_false_iff.mpr (fun z => q (y.mp z))
    rw [bf, if_neg Bool.false_ne_true, u_X9_settle]
    by_cases e : ei = 0
    · rw [if_pos e]
    · rw [if_neg e]
      rcases z with z | z
      · exact absurd z e
      · rw [z, if_pos rfl]
end
section
variable (F ei : Nat) (B : Nat → Nat) (L : Nat) (S0 : mS) (t0 w0 : Nat)
def rF (S : mS) (i : Nat) (r : tR) : Prop := ∃ N S', N + i ≤ r.2.1 + 1 ∧ (∀ k, LL F ei (k + N) S = some (S', nI r.1)) ∧ RF B S0 S' t0 w0 r.2.1
def rE (S : mS) (i : Nat) (P c : List Nat) (op : Nat) (r : tR) : Prop := (r.1 = 0 → ∃ N g S' wh, N + i ≤ r.2.1 ∧ P.length < g ∧ (∀ k, LL F ei (k + N) S = EE F ei g k S') ∧ RQ B L S0 S' t0 w0 r.2.1 P (c ++ r.2.2) op wh) ∧ (r.1 ≠ 0 → rF F ei B S0 t0 w0 S i r)
def rW (ℓ m : Nat) (st : List Nat → Nat → Prop) (S : mS) (i : Nat) (P c : List Nat) (op : Nat) (r : tR) : Prop := (r.1 = 0 → ∃ N S' q c', N + i ≤ r.2.1 ∧ (∀ k, LL F ei (k + N) S = LL F ei k S') ∧ RQ B L S0 S' t0 w0 r.2.1 (q ++ P) c' (op + cnN q) 1 ∧ c' ++ q = c ++ r.2.2 ∧ (∀ w, w ∈ q → ℓ ≤ rk w ∧ gw w) ∧ q.length ≤ m ∧ st q r.2.1) ∧ (r.1 ≠ 0 → rF F ei B S0 t0 w0 S i r)
end
section
variable {F : Nat} {B : Nat → Nat} {L : Nat} {S0 : mS} {t0 w0 ei so : Nat}
theorem rF_up {S S1 : mS} {i j n : Nat} {r : tR} (hx : ∀ k, LL F ei (k + n) S = LL F ei k S1) (hn : n + i ≤ j) (h : rF F ei B S0 t0 w0 S1 j r) : rF F ei B S0 t0 w0 S i r := by
  obtain ⟨N, S', a, b, d⟩ := h
  refine ⟨N + n, S', by omega, fun k => ?_, d⟩
  rw [← b k, ← hx (k + N), Nat.add_assoc]
theorem rE_W {m ℓ : Nat} {st : List Nat → Nat → Prop} {S : mS} {i op : Nat} {P c : List Nat} {r : tR} (h0 : RB0 B L S0 t0 w0 ei so) (h : rE F ei B L S0 t0 w0 S i P c op r) (hp : P.length < 150) (ht : P = [] ∨ ∃ w P', P = w :: P' ∧ rk w < 7 ∧ w ≠ 10012) (hs : r.1 = 0 → st [] r.2.1) : rW F ei B L S0 t0 w0 ℓ m st S i P c op r := by
  refine ⟨fun e => ?_, h.2⟩
  obtain ⟨N, g, S', wh, a, b, d, f⟩ := h.1 e
  obtain ⟨g, rfl⟩ : ∃ g', g = g' + 1 := ⟨g - 1, by omega⟩
  obtain ⟨S2, x, y⟩ := EE_w (F := F) (ei := ei) h0 (g := g) f hp ht
  exact ⟨N, S2, [], c ++ r.2.2, a, fun k => (d k).trans (x k), y, List.append_nil _, fun w hw => absurd hw List.not_mem_nil, Nat.zero_le _, hs e⟩
theorem cnN_app : ∀ (q r : List Nat), cnN (q ++ r) = cnN q + cnN r
  | [], r => (Nat.zero_add _).symm
  | w :: q, r => by
    show _ + cnN (q ++ r) = _ + cnN q + cnN r
    rw [cnN_app q r, Nat.add_assoc]
/-- a chain of them -/
theorem r_cl {ty : Nat × Nat → Nat × Nat} {cond : Nat × Nat → Prop} {one : Nat → tR} {o : Nat → Bool} {ℓ ℓ1 m op : Nat} {st1 st2 : List Nat → Nat → Prop} {C : Nat → List Nat → Prop} {P c : List Nat} (hF : 1000 < F) (h0 : RB0 B L S0 t0 w0 ei so) (hN : ∀ k, 300 ≤ k → kp B k = 0) (hG : tG ty cond one) (hℓ : 1 ≤ ℓ ∧ ℓ ≤ ℓ1 ∧ ℓ ≠ 4)
    (H1 : ∀ {S : mS} {i : Nat} {P c : List Nat}, RQ B L S0 S t0 w0 i P c op 0 → w0 + c.length + P.length ≤ i → C i P → rW F ei B L S0 t0 w0 ℓ1 m st1 S i P c op (one i))
    (H2 : ∀ k, o k = true → k ≠ 0 ∧ k < 38 ∧ rk (10000 + k) = ℓ ∧ gw (10000 + k) ∧ cnN [10000 + k] = 0)
    (H3 : ∀ {S : mS} {j : Nat} {q c : List Nat} {op' : Nat}, RQ B L S0 S t0 w0 j (q ++ P) c op' 1 → (q ++ P).length < 150 → (∀ w, w ∈ q → gw w) → st1 q j → o (kp B j) = true → f_X9_betweenOf F S 375 = some (nI (rq (10000 + kp B j))))
    (H4 : ∀ j, o (kp B j) = true → C (j + 1) ((10000 + kp B j) :: P))
    (H5 : ∀ q j w, st1 q j → rk w = ℓ → st1 (q ++ [w]) j) (H6 : ∀ q j, st1 q j → o (kp B j) = false → st2 q j) (htp : tpl ℓ P) (hM : P.length + m + 2 < 140) : ∀ (fu : Nat) {S : mS} {j : Nat} {acc q c' : List Nat}, RQ B L S0 S t0 w0 j (q ++ P) c' (op + cnN q) 1 → c' ++ q = c ++ acc → (∀ w, w ∈ q → ℓ ≤ rk w ∧ gw w) → q.length ≤ m + 1 → st1 q j → w0 + c.length + acc.length + P.length ≤ j → 300 ≤ j + fu → ((tCl (kp B) one o fu j acc).1 = 0 → ∃ N S' q' c'', N + j ≤ (tCl (kp B) one o fu j acc).2.1 ∧ (∀ k, LL F ei (k + N) S = LL F ei k S') ∧ RQ B L S0 S' t0 w0 (tCl (kp B) one o fu j acc).2.1 (q' ++ P) c'' (op + cnN q') 1 ∧ c'' ++ q' = c ++ (tCl (kp B) one o fu j acc).2.2 ∧ (∀ w, w ∈ q' → ℓ ≤ rk w ∧ gw w) ∧ q'.length ≤ m + 1 ∧ st2 q' (tCl (kp B) one o fu j acc).2.1) ∧ ((tCl (kp B) one o fu j acc).1 ≠ 0 → rF F ei B S0 t0 w0 S j (tCl (kp B) one o fu j acc))
  | fu, S, j, acc, q, c', h, hc, hq, hl, hs, hb, hfu => by
    have fin : o (kp B j) = false → tCl (kp B) one o fu j acc = (0, j, acc) := fun z => by
      cases fu
      · rfl
      · exact if_neg (by rw [z]; exact Bool.false_ne_true)
    cases ho : o (kp B j)
    · rw [fin ho]
      exact ⟨fun _ => ⟨0, S, q, c', by show 0 + j ≤ j; omega, fun _ => rfl, h, hc, hq, hl, H6 q j hs ho⟩, fun z => absurd rfl z⟩
    · obtain ⟨k0, k38, kr, kg, kc⟩ := H2 _ ho
      have j3 : j < 300 := by
        rcases Nat.lt_or_ge j 300 with z | z
        · exact z
        · exact absurd (hN j z) k0
      obtain ⟨fu, rfl⟩ : ∃ f', fu = f' + 1 := ⟨fu - 1, by omega⟩
      have hcl : c'.length + q.length = c.length + acc.length := by
        have := congrArg List.length hc
        rw [List.length_append, List.length_append] at this
        exact this
      have bt := H3 h (by rw [List.length_append]; omega) (fun w hw => (hq w hw).2) hs ho
      obtain ⟨S1, x1, y1⟩ := H_bin (F := F) (ei := ei) hF h0 bt (ℓ := ℓ) (by rw [kr, if_neg hℓ.2.2]) (by omega) hq h k0 (by omega) (by omega) htp
      rw [hc] at y1
      have E : tCl (kp B) one o (fu + 1) j acc = tB (one (j + 1)) fun j' c' => tCl (kp B) one o fu j' (acc ++ c' ++ [10000 + kp B j]) := if_pos ho
      rw [E]
      have r1 := H1 y1 (by rw [List.length_append, List.length_cons]; omega) (H4 j ho)
      have g := hG (j + 1) (by omega)
      by_cases e : (one (j + 1)).1 = 0
      · obtain ⟨N, S2, q1, c1, a1, a2, a3, a4, a5, a6, a7⟩ := r1.1 e
        have g1 := (g.2.2.2 e).2.1
        have g2 := (g.2.2.2 e).1
        rw [tB_0 e]
        have ih := r_cl (st2 := st2) hF h0 hN hG hℓ H1 H2 H3 H4 H5 H6 htp hM fu (S := S2) (j := (one (j + 1)).2.1) (acc := acc ++ (one (j + 1)).2.2 ++ [10000 + kp B j]) (q := q1 ++ [10000 + kp B j]) (c' := c1) (c := c) (by
          rw [List.append_assoc, cnN_app, kc]
          exact a3) (by
          rw [← List.append_assoc, a4]
          simp only [List.append_assoc]) (fun w hw => by
          rw [List.mem_append, List.mem_singleton] at hw
          rcases hw with hw | hw
          · have := a5 w hw
            exact ⟨by omega, this.2⟩
          · rw [hw]; exact ⟨by omega, kg⟩) (by rw [List.length_append, List.length_singleton]; omega) (H5 q1 _ _ a7 kr) (by rw [List.length_append, List.length_append, List.length_singleton]; omega) (by omega)
        have up : ∀ k, LL F ei (k + (N + 1)) S = LL F ei k S2 := fun k => by
          rw [← a2 k, ← x1 (k + N), Nat.add_assoc]
        refine ⟨fun z => ?_, fun z => rF_up up (by omega) (ih.2 z)⟩
        obtain ⟨N', S3, q', c'', b1, b2, b3⟩ := ih.1 z
        refine ⟨N' + (N + 1), S3, q', c'', by omega, fun k => ?_, b3⟩
        rw [← b2 k, ← up (k + N'), Nat.add_assoc]
      · rw [tB_n e]
        refine ⟨fun z => absurd z e, fun z => rF_up x1 (by omega) (r1.2 z)⟩
theorem r_ch {ty : Nat × Nat → Nat × Nat} {cond : Nat × Nat → Prop} {one : Nat → tR} {o : Nat → Bool} {ℓ ℓ1 m op : Nat} {st1 st2 : List Nat → Nat → Prop} {C : Nat → List Nat → Prop} {P : List Nat} (hF : 1000 < F) (h0 : RB0 B L S0 t0 w0 ei so) (hN : ∀ k, 300 ≤ k → kp B k = 0) (hG : tG ty cond one) (hℓ : 1 ≤ ℓ ∧ ℓ ≤ ℓ1 ∧ ℓ ≠ 4)
    (H1 : ∀ {S : mS} {i : Nat} {P c : List Nat}, RQ B L S0 S t0 w0 i P c op 0 → w0 + c.length + P.length ≤ i → C i P → rW F ei B L S0 t0 w0 ℓ1 m st1 S i P c op (one i))
    (H2 : ∀ k, o k = true → k ≠ 0 ∧ k < 38 ∧ rk (10000 + k) = ℓ ∧ gw (10000 + k) ∧ cnN [10000 + k] = 0)
    (H3 : ∀ {S : mS} {j : Nat} {q c : List Nat} {op' : Nat}, RQ B L S0 S t0 w0 j (q ++ P) c op' 1 → (q ++ P).length < 150 → (∀ w, w ∈ q → gw w) → st1 q j → o (kp B j) = true → f_X9_betweenOf F S 375 = some (nI (rq (10000 + kp B j))))
    (H4 : ∀ j, o (kp B j) = true → C (j + 1) ((10000 + kp B j) :: P))
    (H5 : ∀ q j w, st1 q j → rk w = ℓ → st1 (q ++ [w]) j) (H6 : ∀ q j, st1 q j → o (kp B j) = false → st2 q j) (htp : tpl ℓ P) (hM : P.length + m + 2 < 140) {S : mS} {i : Nat} {c : List Nat} (h : RQ B L S0 S t0 w0 i P c op 0) (hb : w0 + c.length + P.length ≤ i) (hC : C i P) : rW F ei B L S0 t0 w0 ℓ (m + 1) st2 S i P c op (tCh (kp B) one o i) := by
  have r1 := H1 h hb hC
  have g := hG i h.2.1.2.1
  unfold tCh
  by_cases e : (one i).1 = 0
  · obtain ⟨N, S2, q1, c1, a1, a2, a3, a4, a5, a6, a7⟩ := r1.1 e
    have g1 := (g.2.2.2 e).2.1
    rw [tB_0 e]
    have ih := r_cl (st2 := st2) (c := c) hF h0 hN hG hℓ H1 H2 H3 H4 H5 H6 htp hM 300 a3 a4 (fun w hw => ⟨by have := (a5 w hw).1; omega, (a5 w hw).2⟩) (by omega) a7 (by omega) (by omega)
    refine ⟨fun z => ?_, fun z => rF_up a2 (by omega) (ih.2 z)⟩
    obtain ⟨N', S3, q', c'', b1, b2, b3⟩ := ih.1 z
    refine ⟨N' + N, S3, q', c'', by omega, fun k => ?_, b3⟩
    rw [← b2 k, ← a2 (k + N'), Nat.add_assoc]
  · rw [tB_n e]
    exact ⟨fun z => absurd z e, r1.2⟩
/-- the words that join -/
theorem jw : ∀ k, k < 39 → (o69 k = true → rk (10000 + k) = 6) ∧ (o78 k = true → rk (10000 + k) = 5) ∧ (oAn k = true → rk (10000 + k) = 2) ∧ (oOr k = true → rk (10000 + k) = 1) ∧ (isR k = true → rk (10000 + k) = 4) ∧ ((o69 k = true ∨ o78 k = true ∨ oAn k = true ∨ oOr k = true ∨ isR k = true) → (rq (10000 + k) = rOp (10000 + k) ∧ rVal (10000 + k) = 0 ∧ 10000 + k ≠ 10011 ∧ 10000 + k ≠ 10012) ∧ cnN [10000 + k] = 0 ∧ k ≠ 0) := by decide
/-- where a SUM may begin -/
def c5 (B : Nat → Nat) (ei M i : Nat) (P : List Nat) : Prop := nA B ei i P ∧ P.length ≤ M
def s69 (B : Nat → Nat) (_ : List Nat) (j : Nat) : Prop := o69 (kp B j) = false
def s78 (B : Nat → Nat) (_ : List Nat) (j : Nat) : Prop := o69 (kp B j) = false ∧ o78 (kp B j) = false
theorem nA_w {i w : Nat} {P : List Nat} (h : rk w = 0 ∨ 4 ≤ rk w) : nA B ei i (w :: P) := fun _ => Or.inr ⟨w, P, rfl, h⟩
theorem r_Pr {one : Nat → tR} {op M : Nat} (hF : 1000 < F) (h0 : RB0 B L S0 t0 w0 ei so) (hN : ∀ k, 300 ≤ k → kp B k = 0) (hG : tG tyN cdN one) (hM : M ≤ 100) (hO : ∀ {S : mS} {i : Nat} {P c : List Nat}, RQ B L S0 S t0 w0 i P c op 0 → w0 + c.length + P.length ≤ i → c5 B ei M i P → rE F ei B L S0 t0 w0 S i P c op (one i)) {S : mS} {i : Nat} {P c : List Nat} (h : RQ B L S0 S t0 w0 i P c op 0) (hb : w0 + c.length + P.length ≤ i) (ht : P = [] ∨ ∃ w P', P = w :: P' ∧ rk w < 6 ∧ w ≠ 10012) (hC : c5 B ei (M - 1) i P) (hM1 : 1 ≤ M) : rW F ei B L S0 t0 w0 6 1 (s69 B) S i P c op (tPr (kp B) one i) := by
  have hp := hC.2
  refine r_ch (C := fun i P => c5 B ei M i P ∧ (P = [] ∨ ∃ w P', P = w :: P' ∧ rk w < 7 ∧ w ≠ 10012)) (ℓ1 := 6) (m := 0) (st1 := fun _ _ => True) hF h0 hN hG (by omega) (fun h hb hc => rE_W h0 (hO h hb hc.1) (by have := hc.1.2; omega) hc.2 (fun _ => trivial)) (fun k hk => ?_) (fun h hl _ _ ho => ?_) (fun j ho => ?_) (fun _ _ _ _ _ => trivial) (fun _ _ _ ho => ho) ?_ (by omega) h hb ⟨⟨hC.1, by omega⟩, ?_⟩
  · have k9 := of_decide_eq_true hk
    have z := jw k (by omega)
    obtain ⟨z1, z2, z3⟩ := z.2.2.2.2.2 (Or.inl hk)
    exact ⟨by omega, by omega, z.1 hk, z1, z2⟩
  · have k9 := of_decide_eq_true ho
    exact bt_ar h (by omega)
  · have k9 := of_decide_eq_true ho
    have z := (jw (kp B j) (by omega)).1 ho
    exact ⟨⟨nA_w (Or.inr (by omega)), by rw [List.length_cons]; omega⟩, Or.inr ⟨_, _, rfl, by omega, by omega⟩⟩
  · rcases ht with z | ⟨w, P', z1, z2, z3⟩
    · exact Or.inl z
    · exact Or.inr ⟨w, P', z1, z2⟩
  · rcases ht with z | ⟨w, P', z1, z2, z3⟩
    · exact Or.inl z
    · exact Or.inr ⟨w, P', z1, by omega, z3⟩
theorem r_Sm {one : Nat → tR} {op M : Nat} (hF : 1000 < F) (h0 : RB0 B L S0 t0 w0 ei so) (hN : ∀ k, 300 ≤ k → kp B k = 0) (hG : tG tyN cdN one) (hM : M ≤ 100) (hO : ∀ {S : mS} {i : Nat} {P c : List Nat}, RQ B L S0 S t0 w0 i P c op 0 → w0 + c.length + P.length ≤ i → c5 B ei M i P → rE F ei B L S0 t0 w0 S i P c op (one i)) {S : mS} {i : Nat} {P c : List Nat} (h : RQ B L S0 S t0 w0 i P c op 0) (hb : w0 + c.length + P.length ≤ i) (ht : P = [] ∨ ∃ w P', P = w :: P' ∧ rk w < 5 ∧ w ≠ 10012) (hC : c5 B ei (M - 2) i P) (hM1 : 2 ≤ M) : rW F ei B L S0 t0 w0 5 2 (s78 B) S i P c op (tSm (kp B) one i) := by
  have hp := hC.2
  refine r_ch (C := fun i P => c5 B ei (M - 1) i P ∧ (P = [] ∨ ∃ w P', P = w :: P' ∧ rk w < 6 ∧ w ≠ 10012)) (ℓ1 := 6) (m := 1) (st1 := s69 B) hF h0 hN (tPr_g hN hG) (by omega) (fun h hb hc => r_Pr hF h0 hN hG hM hO h hb hc.2 hc.1 (by omega)) (fun k hk => ?_) (fun h hl _ _ ho => ?_) (fun j ho => ?_) (fun _ _ _ z _ => z) (fun _ _ z ho => ⟨z, ho⟩) ?_ (by omega) h hb ⟨⟨hC.1, by omega⟩, ?_⟩
  · have k9 := of_decide_eq_true hk
    have z := jw k (by omega)
    obtain ⟨z1, z2, z3⟩ := z.2.2.2.2.2 (Or.inr (Or.inl hk))
    exact ⟨by omega, by omega, z.2.1 hk, z1, z2⟩
  · have k9 := of_decide_eq_true ho
    exact bt_ar h (by omega)
  · have k9 := of_decide_eq_true ho
    have z := (jw (kp B j) (by omega)).2.1 ho
    exact ⟨⟨nA_w (Or.inr (by omega)), by rw [List.length_cons]; omega⟩, Or.inr ⟨_, _, rfl, by omega, by omega⟩⟩
  · rcases ht with z | ⟨w, P', z1, z2, z3⟩
    · exact Or.inl z
    · exact Or.inr ⟨w, P', z1, z2⟩
  · rcases ht with z | ⟨w, P', z1, z2, z3⟩
    · exact Or.inl z
    · exact Or.inr ⟨w, P', z1, by omega, z3⟩
theorem n78 {j : Nat} {q : List Nat} (h : s78 B q j) : ¬ (7 ≤ kp B j ∧ kp B j ≤ 10) := fun z => by
  have h1 := of_decide_eq_false h.1
  have h2 := of_decide_eq_false h.2
  omega
theorem r_One {lt : Bool} (hF : 1000 < F) (h0 : RB0 B L S0 t0 w0 ei so) (hlt : lt = decide (so = 2)) (hN : ∀ k, 300 ≤ k → kp B k = 0) : ∀ (d : Nat), d ≤ 8 → ∀ {S : mS} {i : Nat} {P c : List Nat}, RQ B L S0 S t0 w0 i P c (8 - d) 0 → w0 + c.length + P.length ≤ i → c5 B ei (60 - 3 * d) i P → rE F ei B L S0 t0 w0 S i P c (8 - d) (tOn (kp B) (vp B) lt d i)
  | d, hd, S, i, P, c, h, hb, hC => by
    have hp := hC.2
    have i3 := h.2.1.2.1
    have hd' : tOn (kp B) (vp B) lt d i = tHd (kp B) (vp B) lt i (match d with | 0 => (3, i, []) | d + 1 => tEn (kp B) (tOn (kp B) (vp B) lt d) i) := by cases d <;> rfl
    rw [hd']
    unfold tHd
    by_cases e2 : kp B i = 2
    · rw [if_pos e2]
      obtain ⟨z1, z2⟩ := B_num (F := F) (ei := ei) hF h0 h e2 (by omega)
      by_cases q : vp B i ≤ 9999
      · rw [if_pos q]
        obtain ⟨S', x, y⟩ := z1 q
        exact ⟨fun _ => ⟨1, F, S', 0, by show 1 + i ≤ i + 1; omega, by omega, x, y⟩, fun z => absurd rfl z⟩
      · rw [if_neg q]
        exact ⟨fun z => absurd z (by show ¬ 2 = 0; omega), fun _ => ⟨1, S, by show 1 + i ≤ i + 1; omega, z2 q, h.rf⟩⟩
    rw [if_neg e2]
    by_cases e3 : 16 ≤ kp B i ∧ kp B i ≤ 23
    · rw [if_pos e3]
      obtain ⟨z1, z2⟩ := B_nam (F := F) (ei := ei) hF h0 h e3 (by omega)
      by_cases q : kp B i = 23 ∧ lt = true
      · rw [if_pos q]
        have q2 : kp B i = 23 ∧ so = 2 := ⟨q.1, by have := q.2; rw [hlt] at this; exact of_decide_eq_true this⟩
        exact ⟨fun z => absurd z (by show ¬ 5 = 0; omega), fun _ => ⟨1, S, by show 1 + i ≤ i + 1; omega, z1 q2, h.rf⟩⟩
      · rw [if_neg q]
        obtain ⟨S', x, y⟩ := z2 (fun z => q ⟨z.1, by rw [hlt]; exact decide_eq_true z.2⟩)
        exact ⟨fun _ => ⟨1, F, S', 0, by show 1 + i ≤ i + 1; omega, by omega, x, y⟩, fun z => absurd rfl z⟩
    rw [if_neg e3]
    by_cases e5 : kp B i = 11 ∨ kp B i = 8 ∨ kp B i = 37
    · rw [if_pos e5]
      obtain ⟨z1, z2⟩ := B_opn (F := F) (ei := ei) hF h0 h e5 (by omega)
      cases d with
      | zero => exact ⟨fun z => absurd z (by show ¬ 3 = 0; omega), fun _ => ⟨1, S, by show 1 + i ≤ i + 1; omega, z1 rfl, h.rf⟩⟩
      | succ d =>
        obtain ⟨S1, x1, y1⟩ := z2 (by omega)
        rw [show 8 - (d + 1) + 1 = 8 - d by omega] at y1
        have j3 := y1.2.1.2.1
        have gO := tOn_g (vl := vp B) (lt := lt) hN d
        have ih : ∀ {S : mS} {i : Nat} {P c : List Nat}, RQ B L S0 S t0 w0 i P c (8 - d) 0 → w0 + c.length + P.length ≤ i → c5 B ei (60 - 3 * d) i P → rE F ei B L S0 t0 w0 S i P c (8 - d) (tOn (kp B) (vp B) lt d i) := r_One hF h0 hlt hN d (by omega)
        show rE F ei B L S0 t0 w0 S i P c (8 - (d + 1)) (tEn (kp B) (tOn (kp B) (vp B) lt d) i)
        unfold tEn
        by_cases a : kp B i = 11
        · rw [if_pos a]
          rw [show opw (kp B i) = 10011 by rw [a]; rfl] at y1
          have r1 := r_Sm hF h0 hN gO (by omega) ih y1 (by rw [List.length_cons]; omega) (Or.inr ⟨_, _, rfl, by decide, by decide⟩) ⟨nA_w (Or.inl (by decide)), by rw [List.length_cons]; omega⟩ (by omega)
          have g := tSm_g hN gO (i + 1) (by omega)
          by_cases e : (tSm (kp B) (tOn (kp B) (vp B) lt d) (i + 1)).1 = 0
          · rw [tB_0 e]
            obtain ⟨N, S2, q, c1, a1, a2, a3, a4, a5, a6, a7⟩ := r1.1 e
            have g1 := (g.2.2.2 e).2.1
            have j5 := a3.2.1.2.1
            have hcl : c1.length + q.length = c.length + (tSm (kp B) (tOn (kp B) (vp B) lt d) (i + 1)).2.2.length := by
              have := congrArg List.length a4
              rw [List.length_append, List.length_append] at this
              exact this
            have up : ∀ k, LL F ei (k + (N + 1)) S = LL F ei k S2 := fun k => by
              rw [← a2 k, ← x1 (k + N), Nat.add_assoc]
            unfold tEx
            by_cases b : kp B (tSm (kp B) (tOn (kp B) (vp B) lt d) (i + 1)).2.1 = 12
            · rw [if_pos b]
              rw [show 8 - d = 8 - (d + 1) + 1 by omega] at a3
              obtain ⟨S3, x3, y3⟩ := H_cl (F := F) (ei := ei) hF h0 (fun w hw => ⟨by have := (a5 w hw).1; omega, (a5 w hw).2⟩) a3 b (by omega) (by omega)
              rw [a4] at y3
              refine ⟨fun _ => ⟨1 + (N + 1), F, S3, 1, by dsimp only; omega, by omega, fun k => ?_, y3⟩, fun z => absurd rfl z⟩
              rw [← x3 k, ← up (k + 1), Nat.add_assoc]
            · rw [if_neg b]
              have hl : (q ++ 10011 :: P).length < 150 := by rw [List.length_append, List.length_cons]; omega
              have hm : 10011 ∈ q ++ 10011 :: P := List.mem_append.mpr (Or.inr (List.mem_cons_self ..))
              refine ⟨fun z => absurd z (by show ¬ 1 = 0; omega), fun _ => ⟨1 + (N + 1), S2, by dsimp only; omega, fun k => ?_, a3.rf⟩⟩
              rw [← Nat.add_assoc, up, H_no hF a3 hl (bt_no hF h0 a3 hl (n78 a7) (Or.inr hm)) (fun z => b z.2)]
              exact (L3_m hF a3 hl h0.2.2.2.2.2.2.1).1 (Or.inl hm)
          · rw [tB_n e]
            exact ⟨fun z => absurd z e, fun z => rF_up x1 (by omega) (r1.2 z)⟩
        rw [if_neg a]
        have wk : kp B i = 8 ∨ kp B i = 37 := by omega
        have top : rk (opw (kp B i)) = 0 ∨ 4 ≤ rk (opw (kp B i)) := by
          rcases wk with z | z <;> rw [z] <;> decide
        have r1 := ih y1 (by rw [List.length_cons]; omega) ⟨nA_w top, by rw [List.length_cons]; omega⟩
        have g := gO (i + 1) (by omega)
        by_cases b : kp B i = 8
        · rw [if_pos b]
          rw [show opw (kp B i) = 10038 by rw [b]; rfl] at y1 r1
          by_cases e : (tOn (kp B) (vp B) lt d (i + 1)).1 = 0
          · rw [tB_0 e]
            obtain ⟨N, g', S2, wh, a1, a2, a3, a4⟩ := r1.1 e
            have j5 := a4.2.1.2.1
            have g1 := (g.2.2.2 e).2.1
            obtain ⟨g', rfl⟩ : ∃ g'', g' = g'' + 1 := ⟨g' - 1, by omega⟩
            have a2 : P.length + 1 < g' + 1 := a2
            obtain ⟨S3, x3, y3⟩ := EE_7 (F := F) (ei := ei) h0 (w := 10038) (g := g') (by decide) (by unfold gw; decide) a4 (by rw [List.length_append]; omega) (by omega) (by omega)
            rw [show 8 - d - 1 = 8 - (d + 1) by omega, List.append_assoc] at y3
            refine ⟨fun _ => ⟨N + 1, g', S3, wh, by dsimp only; omega, by omega, fun k => ?_, y3⟩, fun z => absurd rfl z⟩
            rw [← x3 k, ← a3 k, ← x1 (k + N), Nat.add_assoc]
          · rw [tB_n e]
            exact ⟨fun z => absurd z e, fun z => rF_up x1 (by omega) (r1.2 z)⟩
        · rw [if_neg b]
          have k37 : kp B i = 37 := by omega
          rw [show opw (kp B i) = 10012 by rw [k37]; rfl] at y1 r1
          by_cases e : (tOn (kp B) (vp B) lt d (i + 1)).1 = 0
          · rw [tB_0 e]
            obtain ⟨N, g', S2, wh, a1, a2, a3, a4⟩ := r1.1 e
            have j5 := a4.2.1.2.1
            have g1 := (g.2.2.2 e).2.1
            obtain ⟨g', rfl⟩ : ∃ g'', g' = g'' + 1 := ⟨g' - 1, by omega⟩
            have ed := EE_d (F := F) (ei := ei) hF h0 (g := g') a4 (by omega)
            unfold tEx
            by_cases q : kp B (tOn (kp B) (vp B) lt d (i + 1)).2.1 = 32
            · rw [if_pos q, tB_0 (r := (0, _, _)) rfl]
              obtain ⟨S3, x3, y3⟩ := ed.1 q
              have j4 := y3.2.1.2.1
              have up : ∀ k, LL F ei (k + (N + 1)) S = LL F ei k S3 := fun k => by
                rw [← x3 k, ← a3 k, ← x1 (k + N), Nat.add_assoc]
              have r2 := ih y3 (by rw [List.length_append, List.length_cons]; omega) ⟨nA_w (Or.inr (by decide)), by rw [List.length_cons]; omega⟩
              have g0 := gO ((tOn (kp B) (vp B) lt d (i + 1)).2.1 + 1) (by omega)
              by_cases e2 : (tOn (kp B) (vp B) lt d ((tOn (kp B) (vp B) lt d (i + 1)).2.1 + 1)).1 = 0
              · rw [tB_0 e2]
                obtain ⟨N2, g2, S4, wh2, b1, b2, b3, b4⟩ := r2.1 e2
                have g3 := (g0.2.2.2 e2).2.1
                have j6 := b4.2.1.2.1
                obtain ⟨g2, rfl⟩ : ∃ g'', g2 = g'' + 1 := ⟨g2 - 1, by omega⟩
                have b2 : P.length + 1 < g2 + 1 := b2
                obtain ⟨S5, x5, y5⟩ := EE_7 (F := F) (ei := ei) h0 (w := 10037) (g := g2) (by decide) (by unfold gw; decide) b4 (by rw [List.length_append, List.length_append]; omega) (by omega) (by omega)
                rw [show 8 - d - 1 = 8 - (d + 1) by omega] at y5
                simp only [List.append_assoc] at y5 ⊢
                refine ⟨fun _ => ⟨N2 + (N + 1), g2, S5, wh2, by dsimp only; omega, by omega, fun k => ?_, y5⟩, fun z => absurd rfl z⟩
                rw [← x5 k, ← b3 k, ← up (k + N2), Nat.add_assoc]
              · rw [tB_n e2]
                exact ⟨fun z => absurd z e2, fun z => rF_up up (by omega) (r2.2 z)⟩
            · rw [if_neg q, tB_n (r := (1, _, _)) (by show ¬ 1 = 0; omega)]
              obtain ⟨S3, x3, y3⟩ := ed.2 q
              refine ⟨fun z => absurd z (by show ¬ 1 = 0; omega), fun _ => ⟨N + 1, S3, by dsimp only; omega, fun k => ?_, y3⟩⟩
              rw [← x3 k, ← a3 k, ← x1 (k + N), Nat.add_assoc]
          · rw [tB_n e]
            exact ⟨fun z => absurd z e, fun z => rF_up x1 (by omega) (r1.2 z)⟩
    · rw [if_neg e5]
      have z := fun k => B_bad (F := F) (ei := ei) hF h0 h e2 e3 e5 hC.1 (by omega) k
      exact ⟨fun z => absurd z (by show ¬ 1 = 0; omega), fun _ => ⟨1, S, by show 1 + i ≤ i + 1; omega, z, h.rf⟩⟩
end
