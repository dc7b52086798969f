/-! ===== the reference's pile ===== -/
def kp (B : Nat → Nat) (i : Nat) : Nat := kd B (tS B i)
def vp (B : Nat → Nat) (i : Nat) : Nat := nmC B (tS B i) (tE B (tS B i) - tS B i)
/-- the words on the pile: as in the code, 10011 an opening, 10012 a digit without its of -/
def rq (w : Nat) : Nat := if w = 10011 then 40 else if w = 10012 then 41 else rOp w
def rkO (o : Nat) : Nat := if o < 40 then (if o = 22 then 1 else (if o = 21 then 2 else (if o = 20 then 3 else (if o < 10 then (if o = 2 then 7 else (if o = 7 then 7 else (if o < 5 then 5 else 6))) else 4)))) else 0
def rk (w : Nat) : Nat := rkO (rq w)
def gw (w : Nat) : Prop := rq w = rOp w ∧ rVal w = 0 ∧ w ≠ 10011 ∧ w ≠ 10012
def PL (S : mS) : List Nat → Prop
  | [] => True
  | o :: P => S.1 380 P.length = nI (rq o) ∧ PL S P
theorem PL.fr {S S' : mS} : ∀ {P : List Nat}, PL S P → (∀ k, k < P.length → S'.1 380 k = S.1 380 k) → PL S' P
  | [], _, _ => trivial
  | o :: P, h, e => ⟨(e _ (Nat.lt_succ_self _)).trans h.1, PL.fr h.2 (fun k hk => e k (Nat.lt_succ_of_lt hk))⟩
theorem PL.get {S : mS} : ∀ {P : List Nat}, PL S P → ∀ m, m < P.length → S.1 380 (P.length - 1 - m) = nI (rq (P.getD m 0))
  | [], _, m, hm => absurd hm (Nat.not_lt_zero _)
  | o :: P, h, 0, _ => by
    show S.1 380 (P.length + 1 - 1 - 0) = nI (rq o)
    rw [show P.length + 1 - 1 - 0 = P.length by omega]
    exact h.1
  | o :: P, h, m + 1, hm => by
    have hm' : m + 1 < P.length + 1 := hm
    show S.1 380 (P.length + 1 - 1 - (m + 1)) = nI (rq (P.getD m 0))
    rw [show P.length + 1 - 1 - (m + 1) = P.length - 1 - m by omega]
    exact PL.get h.2 m (by omega)
theorem rOp_lo {w : Nat} (h : w < 10000) : rOp w = 0 := if_pos h
theorem rOp_hi {w : Nat} (h : 10038 < w) : rOp w = 1 := by
  unfold rOp
  rw [if_neg (by omega), if_neg (by omega), if_neg (by omega), if_neg (by omega), if_neg (by omega), if_neg (by omega), if_neg (by omega), if_neg (by omega), if_neg (by omega), if_neg (by omega), if_neg (by omega), if_neg (by omega), if_neg (by omega), if_neg (by omega), if_neg (by omega), if_neg (by omega), if_neg (by omega)]
theorem rOp_c (w : Nat) : rOp w = 0 ∨ rOp w = 1 ∨ ∃ v, v < 39 ∧ w = 10000 + v := by
  rcases Nat.lt_or_ge w 10000 with h | h
  · exact Or.inl (rOp_lo h)
  · rcases Nat.lt_or_ge 10038 w with h2 | h2
    · exact Or.inr (Or.inl (rOp_hi h2))
    · exact Or.inr (Or.inr ⟨w - 10000, by omega, by omega⟩)
theorem rOp_lt (w : Nat) : rOp w < 23 := by
  rcases rOp_c w with h | h | ⟨v, hv, rfl⟩
  · omega
  · omega
  · exact (by decide : ∀ v, v < 39 → rOp (10000 + v) < 23) v hv
theorem rq_lt (w : Nat) : rq w < 42 := by
  have := rOp_lt w
  unfold rq
  repeat' split
  all_goals omega
theorem rq_40 (w : Nat) : rq w = 40 ↔ w = 10011 := by
  have := rOp_lt w
  unfold rq
  by_cases a : w = 10011
  · rw [if_pos a]; exact ⟨fun _ => a, fun _ => rfl⟩
  · rw [if_neg a]
    split
    · omega
    · omega
theorem rq_41 (w : Nat) : rq w = 41 ↔ w = 10012 := by
  have := rOp_lt w
  unfold rq
  by_cases a : w = 10011
  · rw [if_pos a]; omega
  · rw [if_neg a]
    split
    · rename_i h; exact ⟨fun _ => h, fun _ => rfl⟩
    · omega
theorem n_rank {S : mS} {o : Nat} (h : o < 1000) : f_X9_rank S (nI o) = nI (rkO o) := by
  rw [u_X9_rank]
  unfold rkO
  by_cases a : o < 40
  · rw [if_pos (nI_lt a (by omega)), if_pos a, ifn (b := 22) (by omega) (by omega), ifn (b := 21) (by omega) (by omega), ifn (b := 20) (by omega) (by omega)]
    by_cases b : o < 10
    · rw [if_pos (nI_lt b (by omega)), if_pos b, ifn (b := 2) (by omega) (by omega), ifn (b := 7) (by omega) (by omega)]
      by_cases c : o < 5
      · rw [if_pos (nI_lt c (by omega)), if_pos c]
        repeat' split
        all_goals rfl
      · rw [if_neg (nI_nlt (by omega) (by omega)), if_neg c]
        repeat' split
        all_goals rfl
    · rw [if_neg (nI_nlt (by omega) (by omega)), if_neg b]
      repeat' split
      all_goals rfl
  · rw [if_neg (nI_nlt (by omega) (by omega)), if_neg a]
theorem rkO_lt (o : Nat) : rkO o < 8 := by
  unfold rkO
  repeat' split
  all_goals omega
/-- the frame, what stands fast, and a state of the reading -/
def FQ (t0 w0 : Nat) (S0 S : mS) : Prop := ∀ u k, ¬ (u = 375 ∧ ((7 ≤ k ∧ k ≤ 10) ∨ k = 13 ∨ (16 ≤ k ∧ k ≤ 18))) → u ≠ 380 → ¬ (u = 378 ∧ t0 + 97 + 2 * w0 ≤ k ∧ k < t0 + 705) → S.1 u k = S0.1 u k
def RB0 (B : Nat → Nat) (L : Nat) (S0 : mS) (t0 w0 ei so : Nat) : Prop := BL B L ∧ TP S0 B L ∧ S0.1 375 12 = nI t0 ∧ t0 ≤ 2115 ∧ S0.1 375 19 = nI ei ∧ S0.1 375 14 = nI so ∧ ei < 2 ∧ so < 9 ∧ w0 ≤ 300
def RQ (B : Nat → Nat) (L : Nat) (S0 S : mS) (t0 w0 i : Nat) (P c : List Nat) (op wh : Nat) : Prop := TQ B S (tS B i) ∧ (tS B i ≤ L ∧ i ≤ 300 ∧ op ≤ 8) ∧ (S.1 375 16 = nI P.length ∧ PL S P) ∧ (S.1 375 13 = nI (w0 + c.length) ∧ ∀ k, k < c.length → S.1 378 (t0 + 97 + 2 * (w0 + k)) = nI (rOp (c.getD k 0)) ∧ S.1 378 (t0 + 97 + 2 * (w0 + k) + 1) = nI (rVal (c.getD k 0))) ∧ (S.1 375 17 = nI op ∧ S.1 375 18 = nI wh) ∧ FQ t0 w0 S0 S
section
variable {F : Nat} {B : Nat → Nat} {L : Nat} {S0 S : mS} {t0 w0 ei so i op wh : Nat} {P c : List Nat}
theorem RQ.tp (h0 : RB0 B L S0 t0 w0 ei so) (h : RQ B L S0 S t0 w0 i P c op wh) : TP S B L := h0.2.1.fr (h.2.2.2.2.2 _ _ (by omega) (by omega) (by omega)) (fun k => h.2.2.2.2.2 _ _ (by omega) (by omega) (by omega))
theorem RQ.xt (h0 : RB0 B L S0 t0 w0 ei so) (h : RQ B L S0 S t0 w0 i P c op wh) : S.1 375 12 = nI t0 := (h.2.2.2.2.2 _ _ (by omega) (by omega) (by omega)).trans h0.2.2.1
theorem RQ.xe (h0 : RB0 B L S0 t0 w0 ei so) (h : RQ B L S0 S t0 w0 i P c op wh) : S.1 375 19 = nI ei := (h.2.2.2.2.2 _ _ (by omega) (by omega) (by omega)).trans h0.2.2.2.2.1
theorem RQ.xs (h0 : RB0 B L S0 t0 w0 ei so) (h : RQ B L S0 S t0 w0 i P c op wh) : S.1 375 14 = nI so := (h.2.2.2.2.2 _ _ (by omega) (by omega) (by omega)).trans h0.2.2.2.2.2.1
theorem kp_lt (B : Nat → Nat) (i : Nat) : kp B i < 38 := kd_lt _
/-- the next token -/
theorem RQ.nx (hF : 1000 < F) (h0 : RB0 B L S0 t0 w0 ei so) (h : RQ B L S0 S t0 w0 i P c op wh) (hk : kp B i ≠ 0) : ∃ S', f_X9_nextToken F S 375 = some S' ∧ RQ B L S0 S' t0 w0 (i + 1) P c op wh := by
  have hB := h0.1
  have hB1 := hB.1
  have nz : B (tS B i) ≠ 256 := fun z => hk ((kd_0 _).mpr z)
  obtain ⟨h1, ⟨h2, h3, h3'⟩, ⟨h4, h5⟩, ⟨h6, h7⟩, ⟨h8, h9⟩, h10⟩ := id h
  have te := tE_le hB nz
  have tl := hB.nz nz
  have ti := tS_i (B := B) i
  obtain ⟨S', a, b, d⟩ := x9_nt hF hB (h.tp h0) (h1.2.1 nz) te
  refine ⟨S', a, b, ⟨sk_le hB te, by omega, h3'⟩, ⟨(d _ _ (by omega)).trans h4, h5.fr (fun k _ => d _ _ (by omega))⟩, ⟨(d _ _ (by omega)).trans h6, fun k hk => ?_⟩, ⟨(d _ _ (by omega)).trans h8, (d _ _ (by omega)).trans h9⟩, fun u k x y z => (d u k (by omega)).trans (h10 u k x y z)⟩
  rw [d _ _ (by omega), d _ _ (by omega)]
  exact h7 k hk
/-- other cells changed -/
theorem RQ.ch {S' : mS} {P' : List Nat} {op' wh' : Nat} (h : RQ B L S0 S t0 w0 i P c op wh) (e : ∀ u k, ¬ (u = 375 ∧ 16 ≤ k ∧ k ≤ 18) → u ≠ 380 → S'.1 u k = S.1 u k) (e2 : S'.2 = S.2) (a : S'.1 375 16 = nI P'.length) (b : PL S' P') (d : S'.1 375 17 = nI op') (f : S'.1 375 18 = nI wh') (g : op' ≤ 8) : RQ B L S0 S' t0 w0 i P' c op' wh' := by
  obtain ⟨h1, ⟨h2, h3, h3'⟩, ⟨h4, h5⟩, ⟨h6, h7⟩, ⟨h8, h9⟩, h10⟩ := h
  refine ⟨⟨(e _ _ (by omega) (by omega)).trans h1.1, fun z => (e _ _ (by omega) (by omega)).trans (h1.2.1 z), ?_⟩, ⟨h2, h3, g⟩, ⟨a, b⟩, ⟨(e _ _ (by omega) (by omega)).trans h6, fun k hk => ?_⟩, ⟨d, f⟩, fun u k x y z => (e u k (by omega) y).trans (h10 u k x y z)⟩
  · rw [e _ _ (by omega) (by omega), e _ _ (by omega) (by omega), e2]
    exact h1.2.2
  · rw [e _ _ (by omega) (by omega), e _ _ (by omega) (by omega)]
    exact h7 k hk
/-- a word of code -/
theorem RQ.em (h0 : RB0 B L S0 t0 w0 ei so) (h : RQ B L S0 S t0 w0 i P c op wh) (hb : w0 + c.length < 304) (w : Nat) : ∃ S', f_X9_emit F S 375 (nI (rOp w)) (nI (rVal w)) = some S' ∧ RQ B L S0 S' t0 w0 i P (c ++ [w]) op wh ∧ ∀ u k, ¬ (u = 375 ∧ k = 13) → u ≠ 378 → S'.1 u k = S.1 u k := by
  have e0 := h.xt h0
  have t0b := h0.2.2.2.1
  obtain ⟨h1, ⟨h2, h3, h3'⟩, ⟨h4, h5⟩, ⟨h6, h7⟩, ⟨h8, h9⟩, h10⟩ := h
  have hl : (c ++ [w]).length = c.length + 1 := by rw [List.length_append, List.length_singleton]
  have fr : ∀ u k, ¬ (u = 375 ∧ k = 13) → u ≠ 378 → (sI (sI (sI S 378 (t0 + 97 + 2 * (w0 + c.length)) (nI (rOp w))) 378 (t0 + 97 + 2 * (w0 + c.length) + 1) (nI (rVal w))) 375 13 (nI (w0 + c.length + 1))).1 u k = S.1 u k := fun u k x y => by rw [sq_off (by omega), sq_off (by omega), sq_off (by omega)]
  refine ⟨sI (sI (sI S 378 (t0 + 97 + 2 * (w0 + c.length)) (nI (rOp w))) 378 (t0 + 97 + 2 * (w0 + c.length) + 1) (nI (rVal w))) 375 13 (nI (w0 + c.length + 1)), ?_, ⟨⟨(fr _ _ (by omega) (by omega)).trans h1.1, fun z => (fr _ _ (by omega) (by omega)).trans (h1.2.1 z), ?_⟩, ⟨h2, h3, h3'⟩, ⟨(fr _ _ (by omega) (by omega)).trans h4, h5.fr (fun k _ => fr _ _ (by omega) (by omega))⟩, ⟨?_, fun k hk => ?_⟩, ⟨(fr _ _ (by omega) (by omega)).trans h8, (fr _ _ (by omega) (by omega)).trans h9⟩, fun u k x y z => ?_⟩, fr⟩
  · rw [u_X9_emit, e0, h6, nI_add, pk_mul, nI_add, inb_n (by omega) (by omega), ck_t, stp_s, nI_clamp (by omega), sq_off (by omega), e0, sq_off (by omega), h6, nI_add, pk_mul, nI_add, nI_add, inb_n (by omega) (by omega), ck_t, stp_s, nI_clamp (by omega), sq_off (by omega), sq_off (by omega), h6, nI_add, stp_s]
  · rw [fr _ _ (by omega) (by omega), fr _ _ (by omega) (by omega)]
    exact h1.2.2
  · rw [sq_hit, hl, Nat.add_assoc]
  · rw [gd_app]
    by_cases q : k < c.length
    · rw [if_pos q]
      refine ⟨?_, ?_⟩
      · rw [sq_off (by omega), sq_off (by omega), sq_off (by omega)]; exact (h7 k q).1
      · rw [sq_off (by omega), sq_off (by omega), sq_off (by omega)]; exact (h7 k q).2
    · have q2 : k = c.length := by omega
      rw [if_neg q, if_pos q2, q2]
      refine ⟨?_, ?_⟩
      · rw [sq_off (by omega), sq_off (by omega), sq_hit]
      · rw [sq_off (by omega), sq_hit]
  · by_cases q : u = 378
    · subst q
      rw [sq_off (by omega), sq_off (by omega), sq_off (by omega)]
      exact h10 _ k x y z
    · rw [fr u k (by omega) q]
      exact h10 u k x y z
/-- what is popped counts: those that were opened -/
def cnN : List Nat → Nat
  | [] => 0
  | w :: q => (if rk w = 7 ∨ w = 10035 then 1 else 0) + cnN q
theorem rOp_20 {w : Nat} (hg : gw w) : rq w = 20 ↔ w = 10035 := by
  rw [hg.1]
  rcases Nat.lt_or_ge w 10000 with h | h
  · rw [rOp_lo h]; omega
  · rcases Nat.lt_or_ge 10038 w with h2 | h2
    · rw [rOp_hi h2]; omega
    · obtain ⟨v, hv, rfl⟩ : ∃ v, v < 39 ∧ w = 10000 + v := ⟨w - 10000, by omega, by omega⟩
      exact (by decide : ∀ v, v < 39 → (rOp (10000 + v) = 20 ↔ 10000 + v = 10035)) v hv
theorem settle_1 (h0 : RB0 B L S0 t0 w0 ei so) {w ℓ k : Nat} (hℓ : ℓ ≤ rk w) (hl : ℓ < 10) (hg : gw w) (h : RQ B L S0 S t0 w0 i (w :: P) c op wh) (hb : w0 + c.length < 304) (hp : P.length < 150) (ho : cnN [w] ≤ op) : ∃ S', lX9_settle_0 F 375 (nI ℓ) (k + 1) S = lX9_settle_0 F 375 (nI ℓ) k S' ∧ RQ B L S0 S' t0 w0 i P (c ++ [w]) (op - cnN [w]) wh := by
  have hr := rq_lt w
  have hk := rkO_lt (rq w)
  have hℓ : ℓ ≤ rkO (rq w) := hℓ
  obtain ⟨x4, x5⟩ := h.2.2.1
  have x4 : S.1 375 16 = nI (P.length + 1) := x4
  have x8 := h.2.2.2.2.1.1
  have o8 := h.2.1.2.2
  have h' : RQ B L S0 (sI S 375 16 (nI P.length)) t0 w0 i P c op wh := h.ch (fun u k x y => sq_off (by omega)) rfl (sq_hit _ _ _ _) (x5.2.fr (fun k _ => sq_off (by omega))) ((sq_off (by omega)).trans x8) ((sq_off (by omega)).trans h.2.2.2.2.1.2) o8
  obtain ⟨S1, a, b, d⟩ := h'.em (F := F) h0 hb w
  have g1 : S1.1 375 16 = nI P.length := b.2.2.1.1
  have g2 : S1.1 380 P.length = nI (rq w) := by
    rw [d _ _ (by omega) (by omega), sq_off (by omega)]
    exact x5.1
  have g3 : S1.1 375 17 = nI op := b.2.2.2.2.1.1
  have E : lX9_settle_0 F 375 (nI ℓ) (k + 1) S = if rk w = 7 ∨ w = 10035 then lX9_settle_0 F 375 (nI ℓ) k (sI S1 375 17 (nI op - nI 1)) else lX9_settle_0 F 375 (nI ℓ) k S1 := by
    rw [u_X9_settle_0, x4, if_neg (nI_ge (by omega) (by omega)), pk_sub (by omega), show P.length + 1 - 1 = P.length by omega, inb_n (by omega) (by omega), ck_t, nI_clamp (by omega), x5.1, n_rank (by omega), if_neg (nI_nlt hℓ (by omega)), stp_s, sq_hit, inb_n (by omega) (by omega), ck_t, nI_clamp (by omega), sq_off (by omega), x5.1]
    have a' := a
    rw [← hg.1, hg.2.1] at a'
    rw [a', bd_s, g1, inb_n (by omega) (by omega), ck_t, nI_clamp (by omega), g2, n_rank (by omega), ifn (by omega) (by omega), ifn (by omega) (by omega), ck_t, g3, stp_s]
    by_cases q : rkO (rq w) = 7
    · rw [if_pos q, if_pos (show rk w = 7 ∨ w = 10035 from Or.inl q)]
    · rw [if_neg q]
      by_cases q2 : w = 10035
      · rw [if_pos ((rOp_20 hg).mpr q2), if_pos (Or.inr q2)]
      · rw [if_neg (fun z => q2 ((rOp_20 hg).mp z)), if_neg (fun z => by rcases z with z | z; exact q z; exact q2 z)]
  rw [E]
  have ec : cnN [w] = if rk w = 7 ∨ w = 10035 then 1 else 0 := rfl
  by_cases q : rk w = 7 ∨ w = 10035
  · rw [if_pos q] at ec
    rw [ec] at ho ⊢
    rw [if_pos q, pk_sub (by omega)]
    exact ⟨_, rfl, b.ch (fun u k x y => sq_off (by omega)) rfl ((sq_off (by omega)).trans g1) (b.2.2.1.2.fr (fun k _ => sq_off (by omega))) (sq_hit _ _ _ _) ((sq_off (by omega)).trans b.2.2.2.2.1.2) (by omega)⟩
  · rw [if_neg q] at ec
    rw [ec, if_neg q]
    exact ⟨S1, rfl, b⟩
/-- the top of the pile is below a rank -/
def tpl (ℓ : Nat) (P : List Nat) : Prop := P = [] ∨ ∃ w P', P = w :: P' ∧ rk w < ℓ
theorem settle_0 {ℓ k : Nat} (hl : ℓ < 10) (h : RQ B L S0 S t0 w0 i P c op wh) (hp : P.length < 150) (ht : tpl ℓ P) : lX9_settle_0 F 375 (nI ℓ) (k + 1) S = some S := by
  obtain ⟨x4, x5⟩ := h.2.2.1
  rw [u_X9_settle_0, x4]
  rcases ht with rfl | ⟨w, P', rfl, hw⟩
  · rw [if_pos (by exact nI_le (Nat.le_refl _) (by decide))]
  · have hr := rq_lt w
    have hk := rkO_lt (rq w)
    have hp' : P'.length + 1 < 150 := hp
    have x5 := x5.1
    have hw : rkO (rq w) < ℓ := hw
    rw [show (w :: P').length = P'.length + 1 from rfl, if_neg (nI_ge (by omega) (by omega)), pk_sub (by omega), show P'.length + 1 - 1 = P'.length by omega, inb_n (by omega) (by omega), ck_t, nI_clamp (by omega), x5, n_rank (by omega), if_pos (nI_lt hw (by omega))]
theorem settle_q (h0 : RB0 B L S0 t0 w0 ei so) {ℓ : Nat} (hl : ℓ < 10) : ∀ (q : List Nat) {k : Nat} {S : mS} {c : List Nat} {op : Nat}, (∀ w, w ∈ q → ℓ ≤ rk w ∧ gw w) → RQ B L S0 S t0 w0 i (q ++ P) c op wh → w0 + c.length + q.length < 304 → q.length + P.length < 150 → cnN q ≤ op → tpl ℓ P → q.length < k → ∃ S', lX9_settle_0 F 375 (nI ℓ) k S = some S' ∧ RQ B L S0 S' t0 w0 i P (c ++ q) (op - cnN q) wh
  | [], k, S, c, op, _, h, hb, hp, ho, ht, hk => by
    obtain ⟨k, rfl⟩ : ∃ k', k = k' + 1 := ⟨k - 1, by omega⟩
    have hp' : 0 + P.length < 150 := hp
    refine ⟨S, settle_0 hl h (by show P.length < 150; omega) ht, ?_⟩
    rw [List.append_nil]
    exact h
  | w :: q, k, S, c, op, hq, h, hb, hp, ho, ht, hk => by
    obtain ⟨k, rfl⟩ : ∃ k', k = k' + 1 := ⟨k - 1, by omega⟩
    have hb' : w0 + c.length + (q.length + 1) < 304 := hb
    have hp' : q.length + 1 + P.length < 150 := hp
    have hk' : q.length + 1 < k + 1 := hk
    have ho' : cnN [w] + cnN q ≤ op := ho
    obtain ⟨a1, a2⟩ := hq w (List.mem_cons_self ..)
    obtain ⟨S1, x, y⟩ := settle_1 (F := F) h0 (k := k) a1 hl a2 h (by omega) (by show (q ++ P).length < 150; rw [List.length_append]; omega) (by omega)
    obtain ⟨S2, x2, y2⟩ := settle_q h0 hl q (k := k) (fun w hw => hq w (List.mem_cons_of_mem _ hw)) y (by rw [List.length_append, List.length_singleton]; omega) (by omega) (by omega) ht (by omega)
    refine ⟨S2, x.trans x2, ?_⟩
    rw [List.append_assoc, Nat.sub_sub] at y2
    exact y2
/-- is an opening on it -/
theorem x9_shutP (hF : 1000 < F) (h : RQ B L S0 S t0 w0 i P c op wh) (hp : P.length < 150) : ∃ b, f_X9_isShut F S 375 = some b ∧ (b = true ↔ 10011 ∈ P) := by
  obtain ⟨x4, x5⟩ := h.2.2.1
  have lp : ∀ (m v k : Nat), v + m = P.length → m < k → ∃ b, lX9_isShut_2 F 375 k S (nI v) = some b ∧ (b = true ↔ ∃ m', m' < m ∧ P.getD m' 0 = 10011) := by
    intro m
    induction m with
    | zero =>
      intro v k hv hk
      obtain ⟨k, rfl⟩ : ∃ k', k = k' + 1 := ⟨k - 1, by omega⟩
      exact ⟨false, by rw [u_X9_isShut_2, x4, if_pos (nI_le (by omega) (by omega))], fun z => absurd z (by decide), fun ⟨m', z, _⟩ => absurd z (Nat.not_lt_zero _)⟩
    | succ m ih =>
      intro v k hv hk
      obtain ⟨k, rfl⟩ : ∃ k', k = k' + 1 := ⟨k - 1, by omega⟩
      obtain ⟨b, e1, e2⟩ := ih (v + 1) k (by omega) (by omega)
      have g := x5.get m (by omega)
      rw [show P.length - 1 - m = v by omega] at g
      have hr := rq_lt (P.getD m 0)
      rw [u_X9_isShut_2, x4, if_neg (nI_ge (by omega) (by omega)), inb_n (by omega) (by omega), ck_t, nI_clamp (by omega), g, ifn (by omega) (by omega), nI_add, e1]
      by_cases q : P.getD m 0 = 10011
      · exact ⟨true, if_pos ((rq_40 _).mpr q), fun _ => ⟨m, by omega, q⟩, fun _ => rfl⟩
      · refine ⟨b, if_neg (fun z => q ((rq_40 _).mp z)), e2.trans ⟨fun ⟨m', z1, z2⟩ => ⟨m', by omega, z2⟩, fun ⟨m', z1, z2⟩ => ⟨m', ?_, z2⟩⟩⟩
        by_cases z : m' = m
        · subst z; exact absurd z2 q
        · omega
  obtain ⟨b, e1, e2⟩ := lp P.length 0 F (by omega) (by omega)
  refine ⟨b, by rw [u_X9_isShut]; exact e1, e2.trans ⟨fun ⟨m, z1, z2⟩ => ?_, fun z => ?_⟩⟩
  · rw [← z2, List.getD_eq_getElem?_getD, List.getElem?_eq_getElem z1]
    exact List.getElem_mem z1
  · obtain ⟨m, z1, z2⟩ := List.mem_iff_getElem.mp z
    exact ⟨m, z1, by rw [List.getD_eq_getElem?_getD, List.getElem?_eq_getElem z1, z2]; rfl⟩
/-- is there a comparison already -/
def cmp : List Nat → Bool
  | [] => false
  | w :: P => if rk w ≤ 4 then decide (rk w = 4) else cmp P
theorem x9_cmp (hF : 1000 < F) (h : RQ B L S0 S t0 w0 i P c op wh) (hp : P.length < 150) : f_X9_isCompared F S 375 = some (cmp P) := by
  obtain ⟨x4, x5⟩ := h.2.2.1
  have lp : ∀ (P : List Nat), PL S P → P.length < 150 → ∀ k, P.length < k → lX9_isCompared_7 F (fun (v1 : Int32) => lX9_isCompared_30 F 375 S v1) 375 k S (nI P.length - nI 1) = some (cmp P) := by
    intro P
    induction P with
    | nil =>
      intro _ _ k hk
      obtain ⟨k, rfl⟩ : ∃ k', k = k' + 1 := ⟨k - 1, by omega⟩
      rw [u_X9_isCompared_7, show nI ([] : List Nat).length - nI 1 = (-1 : Int32) by decide, if_pos (by decide), u_X9_isCompared_30, if_pos (by decide)]
      rfl
    | cons w P ih =>
      intro hP hl k hk
      obtain ⟨k, rfl⟩ : ∃ k', k = k' + 1 := ⟨k - 1, by omega⟩
      have hl' : P.length + 1 < 150 := hl
      have hk' : P.length + 1 < k + 1 := hk
      have hr := rq_lt w
      have hk2 := rkO_lt (rq w)
      rw [show (w :: P).length = P.length + 1 from rfl, pk_sub (by omega), show P.length + 1 - 1 = P.length by omega, u_X9_isCompared_7, if_neg (nI_nlt (by omega) (by omega)), inb_n (by omega) (by omega), ck_t, nI_clamp (by omega), hP.1, n_rank (by omega)]
      show _ = some (if rkO (rq w) ≤ 4 then decide (rkO (rq w) = 4) else cmp P)
      by_cases q : rkO (rq w) ≤ 4
      · rw [if_pos (nI_le q (by omega)), if_pos q, u_X9_isCompared_30, if_neg (nI_nlt (by omega) (by omega)), inb_n (by omega) (by omega), ck_t, nI_clamp (by omega), hP.1, n_rank (by omega), ifn (by omega) (by omega)]
        by_cases q2 : rkO (rq w) = 4
        · rw [if_pos q2, decide_eq_true q2]
        · rw [if_neg q2, decide_eq_false q2]
      · rw [if_neg (nI_ge (by omega) (by omega)), if_neg q, show nI P.length + (-1 : Int32) = nI P.length - nI 1 by rw [Int32.sub_eq_add_neg]; rfl]
        exact ih hP.2 (by omega) k (by omega)
  rw [u_X9_isCompared, x4]
  exact lp P x5 hp F (by omega)
end
