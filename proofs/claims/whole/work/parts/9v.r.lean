/-! ===== the reference reads a ONE ===== -/
def eRest (F : Nat) (q1 : mS) : Option (mS × Int32) := stp (sI q1 375 18 (nI 1)) fun S2 => if (S2.1 375 16) = (nI 0) then (some (S2, (nI 0))) else (ck (inb ((S2.1 375 16) - (nI 1)) 160) (if (S2.1 380 ((S2.1 375 16) - (nI 1)).toNatClampNeg) = (nI 41) then (if (f_X9_isWord S2 375 (f_X9_w2 S2 (nI 111) (nI 102))) = true then (bd (f_X9_nextToken F S2 375) fun q4 => ck (inb ((q4.1 375 16) - (nI 1)) 160) (stp (sI q4 380 ((q4.1 375 16) - (nI 1)).toNatClampNeg (nI 7)) fun S6 => stp (sI S6 375 18 (nI 0)) fun S7 => some (S7, (nI 0)))) else (some (S2, (nI 1)))) else (some (S2, (nI 0)))))
theorem u_end {F : Nat} {S : mS} : f_X9_endOne F S 375 = bd (lX9_settle_0 F 375 (nI 7) F S) (eRest F) := u_X9_endOne
/-- the loop, and what follows a whole ONE -/
def LL (F ei k : Nat) (S : mS) : Option (mS × Int32) := lX9_parsed_20 F 375 (nI ei) k S
def L3 (F ei k : Nat) (q : mS × Int32) : Option (mS × Int32) := lX9_parsed_38 F (fun (S : mS) => lX9_parsed_20 F 375 (nI ei) k S) 375 (nI ei) q.1 q.2
def EE (F ei g k : Nat) (S : mS) : Option (mS × Int32) := bd (bd (lX9_settle_0 F 375 (nI 7) g S) (eRest F)) (L3 F ei k)
section
variable {F : Nat} {B : Nat → Nat} {L : Nat} {S0 S : mS} {t0 w0 ei so i op wh : Nat} {P c : List Nat}
theorem L3_0 {k : Nat} : L3 F ei k (S, nI 0) = LL F ei k S := by
  unfold L3
  rw [u_X9_parsed_38, if_pos (show nI 0 ≤ nI 0 by decide), if_pos rfl]
  rfl
theorem L3_f {k f : Nat} (hf : 0 < f ∧ f < 100) : L3 F ei k (S, nI f) = some (S, nI f) := by
  unfold L3
  rw [u_X9_parsed_38, if_neg (nI_ge (by omega) (by omega))]
def RF (B : Nat → Nat) (S0 S : mS) (t0 w0 j : Nat) : Prop := S.1 375 8 = nI (tS B j) ∧ FQ t0 w0 S0 S
theorem RQ.rf (h : RQ B L S0 S t0 w0 i P c op wh) : RF B S0 S t0 w0 i := ⟨h.1.1, h.2.2.2.2.2⟩
theorem RQ.wh' (h : RQ B L S0 S t0 w0 i P c op wh) (wh' : Nat) : RQ B L S0 (sI S 375 18 (nI wh')) t0 w0 i P c op wh' := h.ch (fun u k x y => sq_off (by omega)) rfl ((sq_off (by omega)).trans h.2.2.1.1) (h.2.2.1.2.fr (fun k _ => sq_off (by omega))) ((sq_off (by omega)).trans h.2.2.2.2.1.1) (sq_hit _ _ _ _) h.2.1.2.2
theorem EE_7 (h0 : RB0 B L S0 t0 w0 ei so) {w g : Nat} (hr : rk w = 7) (hg : gw w) (h : RQ B L S0 S t0 w0 i (w :: P) c op wh) (hb : w0 + c.length < 304) (hp : P.length < 150) (ho : 1 ≤ op) : ∃ S', (∀ k, EE F ei (g + 1) k S = EE F ei g k S') ∧ RQ B L S0 S' t0 w0 i P (c ++ [w]) (op - 1) wh := by
  have e : cnN [w] = 1 := by show (if rk w = 7 ∨ w = 10035 then 1 else 0) + 0 = 1; rw [if_pos (Or.inl hr)]
  obtain ⟨S', a, b⟩ := settle_1 (F := F) h0 (ℓ := 7) (k := g) (by omega) (by omega) hg h hb hp (by omega)
  rw [e] at b
  refine ⟨S', fun k => ?_, b⟩
  unfold EE
  rw [a]
theorem EE_w (h0 : RB0 B L S0 t0 w0 ei so) {g : Nat} (h : RQ B L S0 S t0 w0 i P c op wh) (hp : P.length < 150) (ht : P = [] ∨ ∃ w P', P = w :: P' ∧ rk w < 7 ∧ w ≠ 10012) : ∃ S', (∀ k, EE F ei (g + 1) k S = LL F ei k S') ∧ RQ B L S0 S' t0 w0 i P c op 1 := by
  refine ⟨_, fun k => ?_, h.wh' 1⟩
  unfold EE
  have h' := h.wh' 1
  rw [settle_0 (ℓ := 7) (by omega) h hp (by
    rcases ht with z | ⟨w, P', z1, z2, _⟩
    · exact Or.inl z
    · exact Or.inr ⟨w, P', z1, z2⟩), bd_s]
  unfold eRest
  rw [stp_s, h'.2.2.1.1]
  rcases ht with rfl | ⟨w, P', rfl, z2, z3⟩
  · rw [if_pos (show nI ([] : List Nat).length = nI 0 from rfl), bd_s]; exact L3_0
  · have hr := rq_lt w
    have hp' : P'.length + 1 < 150 := hp
    rw [show (w :: P').length = P'.length + 1 from rfl, ifn (by omega) (by omega), if_neg (by omega), pk_sub (by omega), show P'.length + 1 - 1 = P'.length by omega, inb_n (by omega) (by omega), ck_t, nI_clamp (by omega), h'.2.2.1.2.1, ifn (by omega) (by omega), if_neg (fun z => z3 ((rq_41 w).mp z)), bd_s]
    exact L3_0
theorem EE_d (hF : 1000 < F) (h0 : RB0 B L S0 t0 w0 ei so) {g : Nat} (h : RQ B L S0 S t0 w0 i (10012 :: P) c op wh) (hp : P.length < 149) : (kp B i = 32 → ∃ S', (∀ k, EE F ei (g + 1) k S = LL F ei k S') ∧ RQ B L S0 S' t0 w0 (i + 1) (10037 :: P) c op 0) ∧ (kp B i ≠ 32 → ∃ S', (∀ k, EE F ei (g + 1) k S = some (S', nI 1)) ∧ RF B S0 S' t0 w0 i) := by
  have h' := h.wh' 1
  have iw := iW (c := f_X9_w2 (sI S 375 18 (nI 1)) (nI 111) (nI 102)) h0.1 h'.1 (w := 16) (by omega) cw_of
  have E : ∀ k, EE F ei (g + 1) k S = bd (if decide (kp B i = 32) = true then (bd (f_X9_nextToken F (sI S 375 18 (nI 1)) 375) fun q4 => ck (inb ((q4.1 375 16) - (nI 1)) 160) (stp (sI q4 380 ((q4.1 375 16) - (nI 1)).toNatClampNeg (nI 7)) fun S6 => stp (sI S6 375 18 (nI 0)) fun S7 => some (S7, (nI 0)))) else (some (sI S 375 18 (nI 1), (nI 1)))) (L3 F ei k) := fun k => by
    unfold EE
    rw [settle_0 (ℓ := 7) (by omega) h (by show P.length + 1 < 150; omega) (Or.inr ⟨10012, P, rfl, by decide⟩), bd_s]
    unfold eRest
    rw [stp_s, h'.2.2.1.1, show (10012 :: P).length = P.length + 1 from rfl, ifn (by omega) (by omega), if_neg (by omega), pk_sub (by omega), show P.length + 1 - 1 = P.length by omega, inb_n (by omega) (by omega), ck_t, nI_clamp (by omega), h'.2.2.1.2.1, if_pos (by decide), iw]
    rfl
  constructor
  · intro e
    obtain ⟨S1, a, b⟩ := h'.nx (F := F) hF h0 (by omega)
    have b16 : S1.1 375 16 = nI (P.length + 1) := b.2.2.1.1
    have hr : RQ B L S0 (sI (sI S1 380 P.length (nI 7)) 375 18 (nI 0)) t0 w0 (i + 1) (10037 :: P) c op 0 := by
      refine b.ch (fun u k x y => by rw [sq_off (by omega), sq_off (by omega)]) rfl ?_ ⟨?_, ?_⟩ ?_ (sq_hit _ _ _ _) h.2.1.2.2
      · rw [sq_off (by omega), sq_off (by omega)]; exact b16
      · rw [sq_off (by omega), sq_hit]; decide
      · exact b.2.2.1.2.2.fr (fun k hk => by rw [sq_off (by omega), sq_off (by omega)])
      · rw [sq_off (by omega), sq_off (by omega)]; exact b.2.2.2.2.1.1
    refine ⟨_, fun k => ?_, hr⟩
    rw [E, decide_eq_true e, if_pos rfl, a, bd_s, b16, pk_sub (by omega), show P.length + 1 - 1 = P.length by omega, inb_n (by omega) (by omega), ck_t, nI_clamp (by omega), stp_s, stp_s, bd_s]
    exact L3_0
  · intro e
    refine ⟨_, fun k => ?_, h'.rf⟩
    rw [E, decide_eq_false e, if_neg Bool.false_ne_true, bd_s]
    exact L3_f (f := 1) (by omega)
/-- not an ASK ahead -/
def nA (B : Nat → Nat) (ei i : Nat) (P : List Nat) : Prop := kp B i = 35 → ei = 0 ∨ ∃ w P', P = w :: P' ∧ (rk w = 0 ∨ 4 ≤ rk w)
theorem x9_opn (hF : 1000 < F) (h0 : RB0 B L S0 t0 w0 ei so) {w : Nat} (h : RQ B L S0 S t0 w0 i P c op wh) (hk : kp B i ≠ 0) (hp : P.length < 150) : (op = 8 → f_X9_opened F S 375 (nI (rq w)) = some (S, nI 3)) ∧ (op < 8 → ∃ S', f_X9_opened F S 375 (nI (rq w)) = some (S', nI 0) ∧ RQ B L S0 S' t0 w0 (i + 1) (w :: P) c (op + 1) wh) := by
  obtain ⟨x1, x2⟩ := h.2.2.1
  have x3 := h.2.2.2.2.1.1
  constructor
  · intro e
    rw [u_X9_opened, x3, e, if_pos rfl]
  · intro e
    have hr : RQ B L S0 (sI (sI (sI S 375 17 (nI (op + 1))) 380 P.length (nI (rq w))) 375 16 (nI (P.length + 1))) t0 w0 i (w :: P) c (op + 1) wh := by
      refine h.ch (fun u k x y => by rw [sq_off (by omega), sq_off (by omega), sq_off (by omega)]) rfl (sq_hit _ _ _ _) ⟨?_, ?_⟩ ?_ ?_ (by omega)
      · rw [sq_off (by omega), sq_hit]
      · exact x2.fr (fun k hk => by rw [sq_off (by omega), sq_off (by omega), sq_off (by omega)])
      · rw [sq_off (by omega), sq_off (by omega), sq_hit]
      · rw [sq_off (by omega), sq_off (by omega), sq_off (by omega)]; exact h.2.2.2.2.1.2
    obtain ⟨S1, a, b⟩ := hr.nx (F := F) hF h0 hk
    refine ⟨S1, ?_, b⟩
    rw [u_X9_opened, x3, ifn (by omega) (by omega), if_neg (by omega), nI_add, stp_s, sq_off (by omega), x1, inb_n (by omega) (by omega), ck_t, stp_s, nI_clamp (by omega), sq_off (by omega), sq_off (by omega), x1, nI_add, stp_s, a, bd_s]
theorem LL_b {k : Nat} (h : RQ B L S0 S t0 w0 i P c op 0) : LL F ei (k + 1) S = bd (f_X9_beginOne F S 375) (L3 F ei k) := by
  unfold LL
  rw [u_X9_parsed_20, h.2.2.2.2.1.2, if_pos rfl]
  rfl
theorem LL_h {k : Nat} (h : RQ B L S0 S t0 w0 i P c op 1) : LL F ei (k + 1) S = bd (f_X9_behindOne F S 375) (L3 F ei k) := by
  unfold LL
  rw [u_X9_parsed_20, h.2.2.2.2.1.2, if_neg (by decide)]
  rfl
theorem u_begin {S : mS} (v : Int32) (hv : f_X9_nameOf F S 375 = some v) : f_X9_beginOne F S 375 = (if (S.1 375 9) = (nI 1) then (if (S.1 375 10) ≤ (nI 9999) then (if v = nI 7 then (if (S.1 375 14) = (nI 2) then (some (S, (nI 5))) else (bd (f_X9_emit F S 375 (nI 0) (S.1 375 10)) fun q4 => bd (f_X9_nextToken F q4 375) fun q5 => bd (f_X9_endOne F q5 375) fun q6 => some (q6.1, q6.2))) else (bd (f_X9_emit F S 375 (nI 0) (S.1 375 10)) fun q4 => bd (f_X9_nextToken F q4 375) fun q5 => bd (f_X9_endOne F q5 375) fun q6 => some (q6.1, q6.2))) else (some (S, (nI 2)))) else (if v = nI 7 then (if (S.1 375 14) = (nI 2) then (some (S, (nI 5))) else (lX9_beginOne_41 F (fun (S : mS) (v1 : Int32) => lX9_beginOne_53 F (fun (S : mS) (v1 : Int32) (s0 : Int32) => lX9_beginOne_67 F 375 S v1 s0) 375 S v1) 375 S v)) else (lX9_beginOne_41 F (fun (S : mS) (v1 : Int32) => lX9_beginOne_53 F (fun (S : mS) (v1 : Int32) (s0 : Int32) => lX9_beginOne_67 F 375 S v1 s0) 375 S v1) 375 S v))) := by
  rw [u_X9_beginOne]
  by_cases e : S.1 375 9 = nI 1
  · rw [if_pos e, if_pos e, u_X9_beginOne_20, hv, bd_s, u_X9_beginOne_41, if_pos e, u_X9_beginOne_53, if_pos e, u_X9_beginOne_67, if_pos e]
  · rw [if_neg e, if_neg e, u_X9_beginOne_20, hv, bd_s]
theorem bd_pr {γ : Type} (o : Option (mS × Int32)) (l : mS × Int32 → Option γ) : (bd (bd o fun q6 => some (q6.1, q6.2)) l) = bd o l := by cases o <;> rfl
theorem EE_F {k : Nat} : bd (bd (f_X9_endOne F S 375) fun q6 => some (q6.1, q6.2)) (L3 F ei k) = EE F ei F k S := by rw [bd_pr, u_end]; rfl
/-- a leaf: a number or a name -/
theorem B_leaf (hF : 1000 < F) (h0 : RB0 B L S0 t0 w0 ei so) (h : RQ B L S0 S t0 w0 i P c op wh) (hk : kp B i ≠ 0) (hb : w0 + c.length < 304) (w : Nat) : ∃ S', (∀ k, (bd (bd (f_X9_emit F S 375 (nI (rOp w)) (nI (rVal w))) fun q4 => bd (f_X9_nextToken F q4 375) fun q5 => bd (f_X9_endOne F q5 375) fun q6 => some (q6.1, q6.2)) (L3 F ei k)) = EE F ei F k S') ∧ RQ B L S0 S' t0 w0 (i + 1) P (c ++ [w]) op wh := by
  obtain ⟨S1, a, b, _⟩ := h.em (F := F) h0 hb w
  obtain ⟨S2, a2, b2⟩ := b.nx (F := F) hF h0 hk
  refine ⟨S2, fun k => ?_, b2⟩
  rw [a, bd_s, a2, bd_s, EE_F]
theorem B_num (hF : 1000 < F) (h0 : RB0 B L S0 t0 w0 ei so) (h : RQ B L S0 S t0 w0 i P c op 0) (hk : kp B i = 2) (hb : w0 + c.length < 304) : (vp B i ≤ 9999 → ∃ S', (∀ k, LL F ei (k + 1) S = EE F ei F k S') ∧ RQ B L S0 S' t0 w0 (i + 1) P (c ++ [vp B i]) op 0) ∧ (¬ vp B i ≤ 9999 → ∀ k, LL F ei (k + 1) S = some (S, nI 2)) := by
  obtain ⟨n1, m, n2, n3, n4⟩ := h.1.num hk
  have hk' : kd B (tS B i) = 2 := hk
  have n4 : min m 10000 = vp B i := n4
  have nm := x9_nmo (F := F) h0.1 (h.tp h0) h.2.1.1 h.1
  rw [if_neg (by omega)] at nm
  have E : ∀ k, LL F ei (k + 1) S = bd (f_X9_beginOne F S 375) (L3 F ei k) := fun k => LL_b h
  rw [u_begin _ nm, if_pos n1, n3, if_neg (show ¬ (-1 : Int32) = nI 7 by decide)] at E
  constructor
  · intro e
    have em : m = vp B i := by omega
    rw [if_pos (nI_le (by omega) (by omega)), em] at E
    obtain ⟨S', z1, z2⟩ := B_leaf (F := F) (ei := ei) hF h0 h (by omega) hb (vp B i)
    rw [rOp_lo (by omega), show rVal (vp B i) = vp B i from if_pos (by omega)] at z1
    exact ⟨S', fun k => (E k).trans (z1 k), z2⟩
  · intro e k
    rw [E, if_neg (nI_ge (by omega) (by omega)), bd_s]
    exact L3_f (f := 2) (by omega)
theorem rOp_nm : ∀ k, k < 24 → 16 ≤ k → rOp (10000 + k) = 1 ∧ rVal (10000 + k) = k - 16 := by decide
theorem B_nam (hF : 1000 < F) (h0 : RB0 B L S0 t0 w0 ei so) (h : RQ B L S0 S t0 w0 i P c op 0) (hk : 16 ≤ kp B i ∧ kp B i ≤ 23) (hb : w0 + c.length < 304) : (kp B i = 23 ∧ so = 2 → ∀ k, LL F ei (k + 1) S = some (S, nI 5)) ∧ (¬ (kp B i = 23 ∧ so = 2) → ∃ S', (∀ k, LL F ei (k + 1) S = EE F ei F k S') ∧ RQ B L S0 S' t0 w0 (i + 1) P (c ++ [10000 + kp B i]) op 0) := by
  have sb := h0.2.2.2.2.2.2.2.1
  have hk' : 16 ≤ kd B (tS B i) ∧ kd B (tS B i) ≤ 23 := hk
  have nm := x9_nmo (F := F) h0.1 (h.tp h0) h.2.1.1 h.1
  rw [if_pos hk'] at nm
  have E0 : ∀ k, LL F ei (k + 1) S = bd (f_X9_beginOne F S 375) (L3 F ei k) := fun k => LL_b h
  rw [u_begin _ nm, iT h.1 1 2 (by decide), if_neg (by omega), ifn (by omega) (by omega), h.xs h0, ifn (by omega) (by omega)] at E0
  obtain ⟨S', z, z2⟩ := B_leaf (F := F) (ei := ei) hF h0 h (by omega) hb (10000 + kp B i)
  have z1 := rOp_nm (kp B i) (by omega) (by omega)
  rw [z1.1, z1.2] at z
  have E : ∀ k, bd (lX9_beginOne_41 F (fun (S : mS) (v1 : Int32) => lX9_beginOne_53 F (fun (S : mS) (v1 : Int32) (s0 : Int32) => lX9_beginOne_67 F 375 S v1 s0) 375 S v1) 375 S (nI (kd B (tS B i) - 16))) (L3 F ei k) = (bd (bd (f_X9_emit F S 375 (nI 1) (nI (kp B i - 16))) fun q4 => bd (f_X9_nextToken F q4 375) fun q5 => bd (f_X9_endOne F q5 375) fun q6 => some (q6.1, q6.2)) (L3 F ei k)) := fun k => by
    rw [u_X9_beginOne_41, iT h.1 1 2 (by decide), if_neg (by omega), if_neg (nI_nlt (by omega) (by omega)), u_X9_beginOne_53, iT h.1 1 2 (by decide), if_neg (by omega), u_X9_beginOne_67, iT h.1 1 2 (by decide), if_neg (by omega)]
    rfl
  constructor
  · intro e k
    have e1 : kd B (tS B i) = 23 := e.1
    rw [E0, if_pos (by omega), if_pos e.2, bd_s]
    exact L3_f (f := 5) (by omega)
  · intro e
    have e' : ¬ (kd B (tS B i) = 23 ∧ so = 2) := e
    refine ⟨S', fun k => ?_, z2⟩
    rw [E0]
    by_cases q : kd B (tS B i) - 16 = 7
    · rw [if_pos q, if_neg (by omega), E]
      exact z k
    · rw [if_neg q, E]
      exact z k
/-- what opens: 11 (, 8 -, 37 digit, 35 not -/
def opw (k : Nat) : Nat := if k = 11 then 10011 else if k = 8 then 10038 else if k = 37 then 10012 else 10035
theorem B_opn (hF : 1000 < F) (h0 : RB0 B L S0 t0 w0 ei so) (h : RQ B L S0 S t0 w0 i P c op 0) (hk : kp B i = 11 ∨ kp B i = 8 ∨ kp B i = 37) (hp : P.length < 150) : (op = 8 → ∀ k, LL F ei (k + 1) S = some (S, nI 3)) ∧ (op < 8 → ∃ S', (∀ k, LL F ei (k + 1) S = LL F ei k S') ∧ RQ B L S0 S' t0 w0 (i + 1) (opw (kp B i) :: P) c (op + 1) 0) := by
  have hk' : kd B (tS B i) = 11 ∨ kd B (tS B i) = 8 ∨ kd B (tS B i) = 37 := hk
  have nm := x9_nmo (F := F) h0.1 (h.tp h0) h.2.1.1 h.1
  rw [if_neg (by omega)] at nm
  have iw := iW (c := f_X9_w5 S (nI 100) (nI 105) (nI 103) (nI 105) (nI 116)) h0.1 h.1 (w := 21) (by omega) cw_digit
  have E : ∀ k, LL F ei (k + 1) S = bd (f_X9_opened F S 375 (nI (rq (opw (kp B i))))) (L3 F ei k) := fun k => by
    rw [LL_b h, u_begin _ nm, iT h.1 1 2 (by decide), if_neg (by omega), if_neg (by decide), u_X9_beginOne_41, iT h.1 1 2 (by decide), if_neg (by omega), if_pos (by decide), iT h.1 40 11 (by decide), iT h.1 45 8 (by decide), iw]
    show bd _ _ = bd (f_X9_opened F S 375 (nI (rq (opw (kd B (tS B i)))))) _
    by_cases a : kd B (tS B i) = 11
    · rw [if_pos a, a, bd_pr]; rfl
    · by_cases b : kd B (tS B i) = 8
      · rw [if_neg a, if_pos b, b, bd_pr]; rfl
      · have d : kd B (tS B i) = 37 := by omega
        rw [if_neg a, if_neg b, decide_eq_true (show kd B (tS B i) = 16 + 21 from d), if_pos rfl, d, bd_pr]; rfl
  obtain ⟨z1, z2⟩ := x9_opn (F := F) hF h0 (w := opw (kp B i)) h (by omega) hp
  constructor
  · intro e k
    rw [E, z1 e, bd_s]
    exact L3_f (f := 3) (by omega)
  · intro e
    obtain ⟨S', a, b⟩ := z2 e
    exact ⟨S', fun k => by rw [E, a, bd_s]; exact L3_0, b⟩
theorem B_bad (hF : 1000 < F) (h0 : RB0 B L S0 t0 w0 ei so) (h : RQ B L S0 S t0 w0 i P c op 0) (h2 : kp B i ≠ 2) (h3 : ¬ (16 ≤ kp B i ∧ kp B i ≤ 23)) (hk : ¬ (kp B i = 11 ∨ kp B i = 8 ∨ kp B i = 37)) (ha : nA B ei i P) (hp : P.length < 150) (k : Nat) : LL F ei (k + 1) S = some (S, nI 1) := by
  have hk' : ¬ (kd B (tS B i) = 11 ∨ kd B (tS B i) = 8 ∨ kd B (tS B i) = 37) := hk
  have h2' : kd B (tS B i) ≠ 2 := h2
  have h3' : ¬ (16 ≤ kd B (tS B i) ∧ kd B (tS B i) ≤ 23) := h3
  have nm := x9_nmo (F := F) h0.1 (h.tp h0) h.2.1.1 h.1
  rw [if_neg h3'] at nm
  have eb := h0.2.2.2.2.2.2.1
  have iw := iW (c := f_X9_w5 S (nI 100) (nI 105) (nI 103) (nI 105) (nI 116)) h0.1 h.1 (w := 21) (by omega) cw_digit
  have iw2 := iW (c := f_X9_w3 S (nI 110) (nI 111) (nI 116)) h0.1 h.1 (w := 19) (by omega) cw_not
  rw [LL_b h, u_begin _ nm, iT h.1 1 2 (by decide), if_neg h2', if_neg (by decide), u_X9_beginOne_41, iT h.1 1 2 (by decide), if_neg h2', if_pos (by decide), iT h.1 40 11 (by decide), iT h.1 45 8 (by decide), iw, iw2, if_neg (by omega), if_neg (by omega), decide_eq_false (by omega), if_neg Bool.false_ne_true]
  by_cases e : kd B (tS B i) = 16 + 19
  · rw [decide_eq_true e, if_pos rfl, u_X9_isAskAhead, h.xe h0, ifn (by omega) (by omega)]
    have fin : bd (bd (some false) fun q1 => if q1 = true then (bd (f_X9_opened F S 375 (nI 20)) fun q2 => some (q2.1, q2.2)) else (some (S, (nI 1)))) (L3 F ei k) = some (S, nI 1) := by
      rw [bd_s, if_neg Bool.false_ne_true, bd_s]
      exact L3_f (f := 1) (by omega)
    by_cases q : ei = 0
    · rw [if_pos q]; exact fin
    · rw [if_neg q]
      rcases ha e with z | ⟨w, P', rfl, z⟩
      · exact absurd z q
      · have hr := rq_lt w
        have hk2 := rkO_lt (rq w)
        have hp' : P'.length + 1 < 150 := hp
        have z : rkO (rq w) = 0 ∨ 4 ≤ rkO (rq w) := z
        rw [h.2.2.1.1, show (w :: P').length = P'.length + 1 from rfl, ifn (by omega) (by omega), if_neg (by omega), pk_sub (by omega), show P'.length + 1 - 1 = P'.length by omega, inb_n (by omega) (by omega), ck_t, nI_clamp (by omega), h.2.2.1.2.1, n_rank (by omega), x9_isIn, win_n (by omega) (by omega) (by omega), decide_eq_false (by omega), if_neg Bool.false_ne_true]
        exact fin
  · rw [decide_eq_false e, if_neg Bool.false_ne_true, bd_s]
    exact L3_f (f := 1) (by omega)
end
