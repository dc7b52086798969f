/-! ===== the reference reads a lets, and any law ===== -/
def cA (M : Nat) (P : List Nat) : Prop := ¬ 10011 ∈ P ∧ (P = [] ∨ ∃ w P', P = w :: P' ∧ 1 ≤ rk w ∧ rk w ≤ 3) ∧ P.length ≤ M
def sA (B : Nat → Nat) (q : List Nat) (j : Nat) : Prop := s78 B q j ∧ ∀ P, cmp (q ++ P) = true
def sB (B : Nat → Nat) (q : List Nat) (j : Nat) : Prop := sA B q j ∧ oAn (kp B j) = false
def sE (B : Nat → Nat) (q : List Nat) (j : Nat) : Prop := sB B q j ∧ oOr (kp B j) = false
theorem cmp_hi {P : List Nat} : ∀ {q : List Nat}, (∀ w, w ∈ q → 5 ≤ rk w) → cmp (q ++ P) = cmp P
  | [], _ => rfl
  | w :: q, h => by
    show (if rk w ≤ 4 then decide (rk w = 4) else cmp (q ++ P)) = cmp P
    have := h w (List.mem_cons_self ..)
    rw [if_neg (by omega)]
    exact cmp_hi (fun w hw => h w (List.mem_cons_of_mem _ hw))
section
variable {F : Nat} {B : Nat → Nat} {L : Nat} {S0 : mS} {t0 w0 ei so : Nat}
theorem B_not (hF : 1000 < F) (h0 : RB0 B L S0 t0 w0 ei so) (he : ei = 1) {M : Nat} {S : mS} {i op : Nat} {P c : List Nat} (h : RQ B L S0 S t0 w0 i P c op 0) (hk : kp B i = 35) (hA : cA M P) (hM : M < 100) : (op = 8 → ∀ k, LL F ei (k + 1) S = some (S, nI 3)) ∧ (op < 8 → ∃ S', (∀ k, LL F ei (k + 1) S = LL F ei k S') ∧ RQ B L S0 S' t0 w0 (i + 1) (10035 :: P) c (op + 1) 0) := by
  have hp := hA.2.2
  have hk' : kd B (tS B i) = 35 := hk
  have nm := x9_nmo (F := F) h0.1 (h.tp h0) h.2.1.1 h.1
  rw [if_neg (by omega)] at nm
  have iw := iW (c := f_X9_w5 S (nI 100) (nI 105) (nI 103) (nI 105) (nI 116)) h0.1 h.1 (w := 21) (by omega) cw_digit
  have iw2 := iW (c := f_X9_w3 S (nI 110) (nI 111) (nI 116)) h0.1 h.1 (w := 19) (by omega) cw_not
  obtain ⟨b, x, y⟩ := x9_shutP (F := F) hF h (by omega)
  have bf : b = false := Bool.eq_false_iff.mpr (fun z => hA.1 (y.mp z))
  have ak : f_X9_isAskAhead F S 375 = some true := by
    rw [u_X9_isAskAhead, h.xe h0, he, if_neg (by decide), x, bd_s, bf, if_neg Bool.false_ne_true]
    rcases hA.2.1 with rfl | ⟨w, P', rfl, z1, z2⟩
    · rw [h.2.2.1.1, if_pos (show nI ([] : List Nat).length = nI 0 from rfl)]
    · have hr := rq_lt w
      have hk2 := rkO_lt (rq w)
      have hp' : P'.length + 1 ≤ M := hp
      have z1 : 1 ≤ rkO (rq w) := z1
      have z2 : rkO (rq w) ≤ 3 := z2
      rw [h.2.2.1.1, show (w :: P').length = P'.length + 1 from rfl, ifn (by omega) (by omega), if_neg (by omega), pk_sub (by omega), show P'.length + 1 - 1 = P'.length by omega, inb_n (by omega) (by omega), ck_t, nI_clamp (by omega), h.2.2.1.2.1, n_rank (by omega), x9_isIn, win_n (by omega) (by omega) (by omega), decide_eq_true ⟨z1, z2⟩, if_pos rfl]
  have E : ∀ k, LL F ei (k + 1) S = bd (f_X9_opened F S 375 (nI (rq 10035))) (L3 F ei k) := fun k => by
    rw [LL_b h, u_begin _ nm, iT h.1 1 2 (by decide), if_neg (by omega), if_neg (by decide), u_X9_beginOne_41, iT h.1 1 2 (by decide), if_neg (by omega), if_pos (by decide), iT h.1 40 11 (by decide), iT h.1 45 8 (by decide), iw, iw2, if_neg (by omega), if_neg (by omega), decide_eq_false (by omega), if_neg Bool.false_ne_true, decide_eq_true (show kd B (tS B i) = 16 + 19 from hk'), if_pos rfl, ak, bd_s, if_pos rfl, bd_pr]
    rfl
  obtain ⟨z1, z2⟩ := x9_opn (F := F) hF h0 (w := 10035) h (by omega) (by omega)
  constructor
  · intro e k
    rw [E, z1 e, bd_s]
    exact L3_f (f := 3) (by omega)
  · intro e
    obtain ⟨S', a, b⟩ := z2 e
    exact ⟨S', fun k => by rw [E, a, bd_s]; exact L3_0, b⟩
theorem gw_n {q P : List Nat} (h : ∀ w, w ∈ q → gw w) (hP : ¬ 10011 ∈ P) : ¬ 10011 ∈ q ++ P := fun z => by
  rcases List.mem_append.mp z with z | z
  · exact (h _ z).2.2.1 rfl
  · exact hP z
theorem r_Rl {lt : Bool} (hF : 1000 < F) (h0 : RB0 B L S0 t0 w0 ei so) (he : ei = 1) (hlt : lt = decide (so = 2)) (hN : ∀ k, 300 ≤ k → kp B k = 0) {d : Nat} (hd : d ≤ 8) {S : mS} {i : Nat} {P c : List Nat} (h : RQ B L S0 S t0 w0 i P c (8 - d) 0) (hb : w0 + c.length + P.length ≤ i) (hA : cA 30 P) (hk : kp B i ≠ 35) : rW F ei B L S0 t0 w0 4 3 (sA B) S i P c (8 - d) (tRl (kp B) (vp B) lt d i) := by
  have hp := hA.2.2
  have gO := tOn_g (vl := vp B) (lt := lt) hN d
  have hO : ∀ {S : mS} {i : Nat} {P c : List Nat}, RQ B L S0 S t0 w0 i P c (8 - d) 0 → w0 + c.length + P.length ≤ i → c5 B ei (60 - 3 * d) i P → rE F ei B L S0 t0 w0 S i P c (8 - d) (tOn (kp B) (vp B) lt d i) := r_One hF h0 hlt hN d hd
  have top5 : P = [] ∨ ∃ w P', P = w :: P' ∧ rk w < 5 ∧ w ≠ 10012 := by
    rcases hA.2.1 with z | ⟨w, P', z1, z2, z3⟩
    · exact Or.inl z
    · exact Or.inr ⟨w, P', z1, by omega, fun z => by rw [z] at z2; exact absurd z2 (by decide)⟩
  have cP : cmp P = false := by
    rcases hA.2.1 with rfl | ⟨w, P', rfl, z2, z3⟩
    · rfl
    · show (if rk w ≤ 4 then decide (rk w = 4) else cmp P') = false
      rw [if_pos (by omega), decide_eq_false (by omega)]
  have r1 := r_Sm hF h0 hN gO (by omega) hO h hb top5 ⟨fun z => absurd z hk, by omega⟩ (by omega)
  have g := tSm_g hN gO i h.2.1.2.1
  unfold tRl
  by_cases e : (tSm (kp B) (tOn (kp B) (vp B) lt d) i).1 = 0
  · rw [tB_0 e]
    obtain ⟨N, S2, q, c1, a1, a2, a3, a4, a5, a6, a7⟩ := r1.1 e
    have g1 := (g.2.2.2 e).2.1
    have j5 := a3.2.1.2.1
    have hcl : c1.length + q.length = c.length + (tSm (kp B) (tOn (kp B) (vp B) lt d) i).2.2.length := by
      have := congrArg List.length a4
      rw [List.length_append, List.length_append] at this
      exact this
    have hl : (q ++ P).length < 150 := by rw [List.length_append]; omega
    have n11 : ¬ 10011 ∈ q ++ P := gw_n (fun w hw => (a5 w hw).2) hA.1
    have bt := bt_lt (F := F) hF h0 a3 hl (n78 a7) he n11
    rw [cmp_hi (fun w hw => (a5 w hw).1), cP, if_neg Bool.false_ne_true] at bt
    cases hr : isR (kp B (tSm (kp B) (tOn (kp B) (vp B) lt d) i).2.1)
    · rw [hr, if_neg Bool.false_ne_true] at bt
      rw [if_neg Bool.false_ne_true]
      refine ⟨fun z => absurd z (by show ¬ 1 = 0; omega), fun _ => ⟨1 + N, S2, by dsimp only; omega, fun k => ?_, a3.rf⟩⟩
      rw [← Nat.add_assoc, a2, H_no hF a3 hl bt (fun z => n11 z.1)]
      exact (L3_m hF a3 hl h0.2.2.2.2.2.2.1).1 (Or.inr ⟨he, by rw [cmp_hi (fun w hw => (a5 w hw).1)]; exact cP⟩)
    · rw [hr, if_pos rfl] at bt
      rw [if_pos rfl]
      have hkr := of_decide_eq_true hr
      have jz := jw (kp B (tSm (kp B) (tOn (kp B) (vp B) lt d) i).2.1) (by omega)
      have rk4 := jz.2.2.2.2.1 hr
      obtain ⟨jg, jc, -⟩ := jz.2.2.2.2.2 (Or.inr (Or.inr (Or.inr (Or.inr hr))))
      obtain ⟨S3, x3, y3⟩ := H_bin (F := F) (ei := ei) hF h0 bt (ℓ := 5) (by rw [rk4]; rfl) (by omega) a5 a3 (by omega) (by omega) (by omega) (by
        rcases top5 with z | ⟨w, P', z1, z2, _⟩
        · exact Or.inl z
        · exact Or.inr ⟨w, P', z1, z2⟩)
      rw [a4] at y3
      have j6 := y3.2.1.2.1
      have up : ∀ k, LL F ei (k + (1 + N)) S = LL F ei k S3 := fun k => by
        rw [← x3 k, ← a2 (k + 1), Nat.add_assoc]
      have r2 := r_Sm hF h0 hN gO (by omega) hO y3 (by rw [List.length_append, List.length_cons]; omega) (Or.inr ⟨_, _, rfl, by omega, by omega⟩) ⟨nA_w (Or.inr (by omega)), by rw [List.length_cons]; omega⟩ (by omega)
      have g2 := tSm_g hN gO ((tSm (kp B) (tOn (kp B) (vp B) lt d) i).2.1 + 1) (by omega)
      by_cases e2 : (tSm (kp B) (tOn (kp B) (vp B) lt d) ((tSm (kp B) (tOn (kp B) (vp B) lt d) i).2.1 + 1)).1 = 0
      · rw [tB_0 e2]
        obtain ⟨N2, S4, q2, c2, b1, b2, b3, b4, b5, b6, b7⟩ := r2.1 e2
        refine ⟨fun _ => ⟨N2 + (1 + N), S4, q2 ++ [10000 + kp B (tSm (kp B) (tOn (kp B) (vp B) lt d) i).2.1], c2, by dsimp only; omega, fun k => ?_, ?_, ?_, fun w hw => ?_, by rw [List.length_append, List.length_singleton]; omega, b7, fun P' => ?_⟩, fun z => absurd rfl z⟩
        · rw [← b2 k, ← up (k + N2), Nat.add_assoc]
        · dsimp only
          rw [List.append_assoc, cnN_app, jc]
          exact b3
        · rw [← List.append_assoc, b4]
          simp only [List.append_assoc]
        · rw [List.mem_append, List.mem_singleton] at hw
          rcases hw with hw | hw
          · exact ⟨by have := (b5 w hw).1; omega, (b5 w hw).2⟩
          · rw [hw]; exact ⟨by omega, jg⟩
        · rw [List.append_assoc, cmp_hi (fun w hw => (b5 w hw).1)]
          show (if rk (10000 + kp B (tSm (kp B) (tOn (kp B) (vp B) lt d) i).2.1) ≤ 4 then decide (rk (10000 + kp B (tSm (kp B) (tOn (kp B) (vp B) lt d) i).2.1) = 4) else _) = true
          rw [if_pos (by omega), decide_eq_true rk4]
      · rw [tB_n e2]
        exact ⟨fun z => absurd z e2, fun z => rF_up up (by omega) (r2.2 z)⟩
  · rw [tB_n e]
    exact ⟨fun z => absurd z e, r1.2⟩
theorem rW_lo {ℓ ℓ' m m' : Nat} {st : List Nat → Nat → Prop} {S : mS} {i op : Nat} {P c : List Nat} {r : tR} (h : rW F ei B L S0 t0 w0 ℓ m st S i P c op r) (hl : ℓ' ≤ ℓ) (hm : m ≤ m') : rW F ei B L S0 t0 w0 ℓ' m' st S i P c op r := by
  refine ⟨fun e => ?_, h.2⟩
  obtain ⟨N, S', q, c', a1, a2, a3, a4, a5, a6, a7⟩ := h.1 e
  exact ⟨N, S', q, c', a1, a2, a3, a4, fun w hw => ⟨by have := (a5 w hw).1; omega, (a5 w hw).2⟩, by omega, a7⟩
theorem r_Ak {lt : Bool} (hF : 1000 < F) (h0 : RB0 B L S0 t0 w0 ei so) (he : ei = 1) (hlt : lt = decide (so = 2)) (hN : ∀ k, 300 ≤ k → kp B k = 0) : ∀ (d : Nat), d ≤ 8 → ∀ {S : mS} {i : Nat} {P c : List Nat}, RQ B L S0 S t0 w0 i P c (8 - d) 0 → w0 + c.length + P.length ≤ i → cA (30 - d) P → rW F ei B L S0 t0 w0 3 (3 + d) (sA B) S i P c (8 - d) (tAk (kp B) (vp B) lt d i)
  | d, hd, S, i, P, c, h, hb, hA => by
    have hA' : cA 30 P := ⟨hA.1, hA.2.1, by have := hA.2.2; omega⟩
    by_cases e : kp B i = 35
    · obtain ⟨z1, z2⟩ := B_not (F := F) hF h0 he h e hA (by omega)
      cases d with
      | zero =>
        rw [show tAk (kp B) (vp B) lt 0 i = (3, i, []) from if_pos e]
        exact ⟨fun z => absurd z (by show ¬ 3 = 0; omega), fun _ => ⟨1, S, by dsimp only; omega, z1 rfl, h.rf⟩⟩
      | succ d =>
        rw [show tAk (kp B) (vp B) lt (d + 1) i = tB (tAk (kp B) (vp B) lt d (i + 1)) fun j c => (0, j, c ++ [10035]) from if_pos e]
        obtain ⟨S1, x1, y1⟩ := z2 (by omega)
        have hl := hA.2.2
        rw [show 8 - (d + 1) + 1 = 8 - d by omega] at y1
        have r1 := r_Ak hF h0 he hlt hN d (by omega) y1 (by rw [List.length_cons]; omega) ⟨fun z => by
          rcases List.mem_cons.mp z with z | z
          · exact absurd z (by decide)
          · exact hA.1 z, Or.inr ⟨_, _, rfl, by decide, by decide⟩, by rw [List.length_cons]; omega⟩
        by_cases e2 : (tAk (kp B) (vp B) lt d (i + 1)).1 = 0
        · rw [tB_0 e2]
          obtain ⟨N, S2, q, c1, a1, a2, a3, a4, a5, a6, a7, a8⟩ := r1.1 e2
          refine ⟨fun _ => ⟨N + 1, S2, q ++ [10035], c1, by dsimp only; omega, fun k => ?_, ?_, ?_, fun w hw => ?_, by rw [List.length_append, List.length_singleton]; omega, a7, fun P' => ?_⟩, fun z => absurd rfl z⟩
          · rw [← a2 k, ← x1 (k + N), Nat.add_assoc]
          · rw [List.append_assoc, cnN_app, show 8 - (d + 1) + (cnN q + cnN [10035]) = 8 - d + cnN q by rw [show cnN [10035] = 1 by decide]; omega]
            exact a3
          · rw [← List.append_assoc, a4]
            simp only [List.append_assoc]
          · rw [List.mem_append, List.mem_singleton] at hw
            rcases hw with hw | hw
            · exact a5 w hw
            · rw [hw]; exact ⟨by decide, by unfold gw; decide⟩
          · rw [List.append_assoc]; exact a8 _
        · rw [tB_n e2]
          exact ⟨fun z => absurd z e2, fun z => rF_up x1 (by omega) (r1.2 z)⟩
    · have e2 : tAk (kp B) (vp B) lt d i = tRl (kp B) (vp B) lt d i := by cases d <;> exact if_neg e
      rw [e2]
      exact rW_lo (r_Rl hF h0 he hlt hN hd h hb hA' e) (by omega) (by omega)
theorem r_Bo {lt : Bool} (hF : 1000 < F) (h0 : RB0 B L S0 t0 w0 ei so) (he : ei = 1) (hlt : lt = decide (so = 2)) (hN : ∀ k, 300 ≤ k → kp B k = 0) {S : mS} {i : Nat} {P c : List Nat} (h : RQ B L S0 S t0 w0 i P c 0 0) (hb : w0 + c.length + P.length ≤ i) (hP : P = [] ∨ P = [10033]) : rW F ei B L S0 t0 w0 2 12 (sB B) S i P c 0 (tBo (kp B) (vp B) lt i) := by
  have hl : P.length ≤ 1 := by rcases hP with rfl | rfl <;> decide
  have n11 : ¬ 10011 ∈ P := by rcases hP with rfl | rfl <;> decide
  have hA : cA 22 P := ⟨n11, by
    rcases hP with rfl | rfl
    · exact Or.inl rfl
    · exact Or.inr ⟨_, _, rfl, by decide, by decide⟩, by omega⟩
  refine r_ch (C := fun _ P => cA 22 P) (ℓ1 := 3) (m := 11) (st1 := sA B) hF h0 hN (tAk_g hN 8) (by omega) (fun h hb hc => r_Ak hF h0 he hlt hN 8 (by omega) h hb hc) (fun k hk => ?_) (fun h hl hg hs ho => ?_) (fun j ho => ?_) (fun q j w hs _ => ⟨hs.1, fun P' => by rw [List.append_assoc]; exact hs.2 _⟩) (fun _ _ hs ho => ⟨hs, ho⟩) ?_ (by omega) h hb hA
  · have k9 := of_decide_eq_true hk
    have z := jw k (by omega)
    obtain ⟨z1, z2, z3⟩ := z.2.2.2.2.2 (Or.inr (Or.inr (Or.inl hk)))
    exact ⟨by omega, by omega, z.2.2.1 hk, z1, z2⟩
  · have k9 := of_decide_eq_true ho
    have bt := bt_lt (F := F) hF h0 h hl (by omega) he (gw_n hg n11)
    rw [hs.2, if_pos rfl, if_pos k9] at bt
    rw [bt, k9]
    rfl
  · have k9 := of_decide_eq_true ho
    rw [k9]
    exact ⟨fun z => by
      rcases List.mem_cons.mp z with z | z
      · exact absurd z (by decide)
      · exact n11 z, Or.inr ⟨_, _, rfl, by decide, by decide⟩, by rw [List.length_cons]; omega⟩
  · rcases hP with rfl | rfl
    · exact Or.inl rfl
    · exact Or.inr ⟨_, _, rfl, by decide⟩
theorem r_Ei {lt : Bool} (hF : 1000 < F) (h0 : RB0 B L S0 t0 w0 ei so) (he : ei = 1) (hlt : lt = decide (so = 2)) (hN : ∀ k, 300 ≤ k → kp B k = 0) {S : mS} {i : Nat} {c : List Nat} (h : RQ B L S0 S t0 w0 i [] c 0 0) (hb : w0 + c.length ≤ i) : rW F ei B L S0 t0 w0 1 13 (sE B) S i [] c 0 (tEi (kp B) (vp B) lt i) := by
  refine r_ch (C := fun _ P => P = [] ∨ P = [10033]) (ℓ1 := 2) (m := 12) (st1 := sB B) hF h0 hN (tBo_g hN) (by omega) (fun h hb hc => r_Bo hF h0 he hlt hN h hb hc) (fun k hk => ?_) (fun h hl hg hs ho => ?_) (fun j ho => ?_) (fun q j w hs _ => ⟨⟨hs.1.1, fun P' => by rw [List.append_assoc]; exact hs.1.2 _⟩, hs.2⟩) (fun _ _ hs ho => ⟨hs, ho⟩) (Or.inl rfl) (by decide) h hb (Or.inl rfl)
  · have k9 := of_decide_eq_true hk
    have z := jw k (by omega)
    obtain ⟨z1, z2, z3⟩ := z.2.2.2.2.2 (Or.inr (Or.inr (Or.inr (Or.inl hk))))
    exact ⟨by omega, by omega, z.2.2.2.1 hk, z1, z2⟩
  · have k9 := of_decide_eq_true ho
    have bt := bt_lt (F := F) hF h0 h hl (by omega) he (gw_n hg (by decide))
    rw [hs.1.2, if_pos rfl, if_neg (by omega), if_pos k9] at bt
    rw [bt, k9]
    rfl
  · have k9 := of_decide_eq_true ho
    rw [k9]
    exact Or.inr rfl
/-- a whole law -/
theorem r_Lw {lt : Bool} (hF : 1000 < F) (h0 : RB0 B L S0 t0 w0 ei so) (hlt : lt = decide (so = 2)) (hei : ei = if lt = true then 1 else 0) (hN : ∀ k, 300 ≤ k → kp B k = 0) {S : mS} {i : Nat} (h : RQ B L S0 S t0 w0 i [] [] 0 0) (hb : w0 ≤ i) : ((tLw (kp B) (vp B) lt i).1 = 0 → ∃ S', LL F ei F S = some (S', nI 0) ∧ ∃ wh, RQ B L S0 S' t0 w0 (tLw (kp B) (vp B) lt i).2.1 [] (tLw (kp B) (vp B) lt i).2.2 0 wh) ∧ ((tLw (kp B) (vp B) lt i).1 ≠ 0 → ∃ S', LL F ei F S = some (S', nI (tLw (kp B) (vp B) lt i).1) ∧ RF B S0 S' t0 w0 (tLw (kp B) (vp B) lt i).2.1) := by
  have bad : ∀ r : tR, r.2.1 ≤ 300 → rF F ei B S0 t0 w0 S i r → ∃ S', LL F ei F S = some (S', nI r.1) ∧ RF B S0 S' t0 w0 r.2.1 := fun r hr z => by
    obtain ⟨N, S', a, b, d⟩ := z
    have := b (F - N)
    rw [show F - N + N = F by omega] at this
    exact ⟨S', this, d⟩
  have good : ∀ (r : tR) (N : Nat) (S1 : mS) (q c' : List Nat), r.2.1 ≤ 300 → N + i ≤ r.2.1 → (∀ k, LL F ei (k + N) S = LL F ei k S1) → RQ B L S0 S1 t0 w0 r.2.1 (q ++ []) c' (0 + cnN q) 1 → c' ++ q = [] ++ r.2.2 → (∀ w, w ∈ q → 1 ≤ rk w ∧ gw w) → q.length ≤ 20 → r.2.2.length + i ≤ r.2.1 → f_X9_betweenOf F S1 375 = some (-1) → (ei = 0 ∨ cmp q = true) → ∃ S', LL F ei F S = some (S', nI 0) ∧ ∃ wh, RQ B L S0 S' t0 w0 r.2.1 [] r.2.2 0 wh := fun r N S1 q c' hr hn hx hR hc hq hl hlen bt hcm => by
    have hcl : c'.length + q.length = r.2.2.length := by
      have := congrArg List.length hc
      rw [List.length_append, List.length_append] at this
      simpa using this
    have n11 : ¬ 10011 ∈ q ++ [] := gw_n (fun w hw => (hq w hw).2) (by decide)
    have hl2 : (q ++ []).length < 150 := by rw [List.append_nil]; omega
    obtain ⟨S2, x2, y2⟩ := settle_q (F := F) h0 (ℓ := 1) (by omega) q (k := F) (P := []) hq hR (by omega) (by show q.length + 0 < 150; omega) (by omega) (Or.inl rfl) (by omega)
    rw [show 0 + cnN q - cnN q = 0 by omega, hc] at y2
    have z := hx (F - N)
    rw [show F - N + N = F by omega, show F - N = (F - N - 1) + 1 by omega, H_no hF hR hl2 bt (fun z => n11 z.1), (L3_m hF hR hl2 h0.2.2.2.2.2.2.1).2 n11 (by rw [List.append_nil]; exact hcm), x2, bd_s] at z
    exact ⟨S2, z, 1, y2⟩
  have i3 := h.2.1.2.1
  unfold tLw
  cases lt
  · rw [if_neg Bool.false_ne_true] at hei ⊢
    have gO := tOn_g (vl := vp B) (lt := false) hN 8
    have r1 := r_Sm hF h0 hN gO (M := 60 - 3 * 8) (by omega) (r_One hF h0 hlt hN 8 (by omega)) h (by show w0 + 0 + 0 ≤ i; omega) (Or.inl rfl) ⟨fun _ => Or.inl hei, by decide⟩ (by omega)
    have g := tSm_g hN gO i i3
    refine ⟨fun e => ?_, fun e => bad _ g.2.1 (r1.2 e)⟩
    obtain ⟨N, S2, q, c1, a1, a2, a3, a4, a5, a6, a7⟩ := r1.1 e
    exact good _ N S2 q c1 g.2.1 a1 a2 a3 a4 (fun w hw => ⟨by have := (a5 w hw).1; omega, (a5 w hw).2⟩) (by omega) (g.2.2.2 e).2.1 (bt_no hF h0 a3 (by rw [List.append_nil]; omega) (n78 a7) (Or.inl hei)) (Or.inl hei)
  · rw [if_pos rfl] at hei ⊢
    have r1 := r_Ei hF h0 hei hlt hN h (by show w0 + 0 ≤ i; omega)
    have g := tEi_g (vl := vp B) (lt := true) hN i i3
    refine ⟨fun e => ?_, fun e => bad _ g.2.1 (r1.2 e)⟩
    obtain ⟨N, S2, q, c1, a1, a2, a3, a4, a5, a6, a7⟩ := r1.1 e
    have cq : cmp q = true := by have := a7.1.1.2 []; rw [List.append_nil] at this; exact this
    have k34 := of_decide_eq_false a7.1.2
    have k33 := of_decide_eq_false a7.2
    have bt := bt_lt (F := F) hF h0 a3 (by rw [List.append_nil]; omega) (n78 a7.1.1.1) hei (gw_n (fun w hw => (a5 w hw).2) (by decide))
    rw [a7.1.1.2, if_pos rfl, if_neg k34, if_neg k33] at bt
    exact good _ N S2 q c1 g.2.1 a1 a2 a3 a4 a5 (by omega) (g.2.2.2 e).2.1 bt (Or.inr cq)
end
