/-! ===== laws: the words one by one ===== -/
def ev2 (w : Nat) (a b : Int) : Int := if w = 10007 then clp (a + b) else if w = 10008 then clp (a - b) else if w = 10009 then clp (a * b) else if w = 10010 then (if b = 0 then 0 else a.tdiv b) else dgt a b
def evr (w : Nat) (a b : Int) : Bool := if w = 10003 then decide (a < b) else if w = 10004 then decide (b < a) else if w = 10005 then decide (a = b) else if w = 10006 then decide (¬ a = b) else if w = 10014 then decide (¬ b < a) else if w = 10015 then decide (¬ a < b) else if a = 0 then decide (b = 0) else decide (b.tmod a = 0)
theorem ev2_7 (a b : Int) : ev2 10007 a b = clp (a + b) := if_pos rfl
theorem ev2_8 (a b : Int) : ev2 10008 a b = clp (a - b) := (if_neg (by decide)).trans (if_pos rfl)
theorem ev2_9 (a b : Int) : ev2 10009 a b = clp (a * b) := (if_neg (by decide)).trans ((if_neg (by decide)).trans (if_pos rfl))
theorem ev2_10 (a b : Int) : ev2 10010 a b = (if b = 0 then 0 else a.tdiv b) := (if_neg (by decide)).trans ((if_neg (by decide)).trans ((if_neg (by decide)).trans (if_pos rfl)))
theorem ev2_37 (a b : Int) : ev2 10037 a b = dgt a b := (if_neg (by decide)).trans ((if_neg (by decide)).trans ((if_neg (by decide)).trans (if_neg (by decide))))
theorem dgt_R (w v : Int) : inR (dgt w v) := by
  unfold dgt inR
  split
  · omega
  · split <;> omega
theorem ev2_R {w : Nat} {a b : Int} (ha : inR a) (hb : inR b) : inR (ev2 w a b) := by
  unfold ev2
  split
  · exact clp_R _
  split
  · exact clp_R _
  split
  · exact clp_R _
  split
  · split
    · exact R0
    · exact tdiv_rng ha
  · exact dgt_R _ _
section
variable {F : Nat} {S : mS} {a b : Int}
theorem nzz (hb : inR b) (h : ¬ b = 0) : nz (iZ b) = true := decide_eq_true (fun w => h (by
  rw [show (0 : Int32) = iZ 0 from c0I, iZ_eq hb R0] at w
  exact w))
theorem nzlz (hb : inR b) (h : ¬ b = 0) : nzl (lZ b) = true := decide_eq_true (fun w => h (by
  rw [c0L, lZ_eq hb R0] at w
  exact w))
theorem j8_ar (hF : 30 < F) (ha : inR a) (hb : inR b) {w : Nat} (hw : (10007 ≤ w ∧ w ≤ 10010) ∨ w = 10037) : f_X3_joined F S (nI (w - 10000)) (iZ a) (iZ b) = some (iZ (ev2 w a b)) := by
  have m := mul_rng ha hb
  have ha' := ha
  have hb' := hb
  unfold inR at ha' hb'
  have e0 : (iZ b = nI 0) = (b = 0) := by rw [c0I]; exact iZ_eq hb R0
  rw [u_X3_joined]
  rcases (show w = 10007 ∨ w = 10008 ∨ w = 10009 ∨ w = 10010 ∨ w = 10037 by omega) with rfl | rfl | rfl | rfl | rfl
  · rw [if_pos rfl, iZ_l (by omega) (by omega), iZ_l (by omega) (by omega), lZ_add ha hb, lim_z S (by omega), ev2_7]
  · rw [if_neg (by decide), if_pos rfl, iZ_l (by omega) (by omega), iZ_l (by omega) (by omega), lZ_sub ha hb, lim_z S (by omega), ev2_8]
  · rw [if_neg (by decide), if_neg (by decide), if_pos rfl, iZ_l (by omega) (by omega), iZ_l (by omega) (by omega), lZ_mul ha hb, lim_z S m, ev2_9]
  · rw [if_neg (by decide), if_neg (by decide), if_neg (by decide), if_pos rfl]
    simp only [e0]
    rw [ev2_10]
    by_cases q : b = 0
    · rw [if_pos q, if_pos q, c0I]
    · rw [if_neg q, if_neg q, nzz hb q, ck_t, iZ_div ha hb]
  · rw [if_neg (by decide), if_neg (by decide), if_neg (by decide), if_neg (by decide), if_neg (by decide), if_neg (by decide), if_pos rfl, dig_8 hF ha hb, bd_s, ev2_37]
theorem j8_rel (ha : inR a) (hb : inR b) {w : Nat} (hw : (10003 ≤ w ∧ w ≤ 10006) ∨ w = 10014 ∨ w = 10015 ∨ w = 10036) : f_X3_joined F S (nI (w - 10000)) (iZ a) (iZ b) = some (bI (evr w a b)) := by
  have e : f_X3_isSo F S (nI (w - 10000)) (iZ a) (iZ b) = some (evr w a b) := by
    have e0 : (iZ b = nI 0) = (b = 0) := by rw [c0I]; exact iZ_eq hb R0
    have e0a : (iZ a = nI 0) = (a = 0) := by rw [c0I]; exact iZ_eq ha R0
    have e1 : (iZ a ≤ iZ b) = (a ≤ b) := iZ_le ha hb
    have e2 : (iZ b ≤ iZ a) = (b ≤ a) := iZ_le hb ha
    have e3 : (iZ a = iZ b) = (a = b) := iZ_eq ha hb
    have e4 : (iZ a < iZ b) = (a < b) := iZ_lt ha hb
    have e5 : (iZ b < iZ a) = (b < a) := iZ_lt hb ha
    rw [u_X3_isSo]
    simp only [e1, e2, e3, e4, e5]
    rcases (show w = 10003 ∨ w = 10004 ∨ w = 10005 ∨ w = 10006 ∨ w = 10014 ∨ w = 10015 ∨ w = 10036 by omega) with rfl | rfl | rfl | rfl | rfl | rfl | rfl
    · rw [if_pos rfl]
      show _ = some (decide (a < b))
      by_cases q : b ≤ a
      · rw [if_pos q, decide_eq_false (by omega)]
      · rw [if_neg q, decide_eq_true (by omega)]
    · rw [if_neg (by decide), if_pos rfl]
      show _ = some (decide (b < a))
      by_cases q : a ≤ b
      · rw [if_pos q, decide_eq_false (by omega)]
      · rw [if_neg q, decide_eq_true (by omega)]
    · rw [if_neg (by decide), if_neg (by decide), if_pos rfl]
      show _ = some (decide (a = b))
      by_cases q : a = b
      · rw [if_pos q, decide_eq_true q]
      · rw [if_neg q, decide_eq_false q]
    · rw [if_neg (by decide), if_neg (by decide), if_neg (by decide), if_pos rfl]
      show _ = some (decide (¬ a = b))
      by_cases q : a = b
      · rw [if_pos q, decide_eq_false (fun h => h q)]
      · rw [if_neg q, decide_eq_true q]
    · rw [if_neg (by decide), if_neg (by decide), if_neg (by decide), if_neg (by decide), if_pos rfl]
      show _ = some (decide (¬ b < a))
      by_cases q : b < a
      · rw [if_pos q, decide_eq_false (fun h => h q)]
      · rw [if_neg q, decide_eq_true q]
    · rw [if_neg (by decide), if_neg (by decide), if_neg (by decide), if_neg (by decide), if_neg (by decide), if_pos rfl]
      show _ = some (decide (¬ a < b))
      by_cases q : a < b
      · rw [if_pos q, decide_eq_false (fun h => h q)]
      · rw [if_neg q, decide_eq_true q]
    · rw [if_neg (by decide), if_neg (by decide), if_neg (by decide), if_neg (by decide), if_neg (by decide), if_neg (by decide), u_X3_isSo_134]
      simp only [e0, e0a]
      show _ = some (if a = 0 then decide (b = 0) else decide (b.tmod a = 0))
      by_cases q : a = 0
      · rw [if_pos q, if_pos q]
        by_cases q2 : b = 0
        · rw [if_pos q2, decide_eq_true q2]
        · rw [if_neg q2, decide_eq_false q2]
      · have e6 : (iZ (b.tmod a) = nI 0) = (b.tmod a = 0) := by rw [c0I]; exact iZ_eq (tmod_rng hb) R0
        rw [if_neg q, if_neg q, nzz ha q, ck_t, iZ_rem hb ha]
        simp only [e6]
        by_cases q2 : b.tmod a = 0
        · rw [if_pos q2, decide_eq_true q2]
        · rw [if_neg q2, decide_eq_false q2]
  rw [u_X3_joined, e, bd_s]
  rcases (show w = 10003 ∨ w = 10004 ∨ w = 10005 ∨ w = 10006 ∨ w = 10014 ∨ w = 10015 ∨ w = 10036 by omega) with rfl | rfl | rfl | rfl | rfl | rfl | rfl
  all_goals
    rw [if_neg (by decide), if_neg (by decide), if_neg (by decide), if_neg (by decide), if_neg (by decide), if_neg (by decide), if_neg (by decide)]
    cases evr _ a b <;> rfl
theorem j8_bo (p q : Bool) {w : Nat} (hw : w = 10033 ∨ w = 10034) : f_X3_joined F S (nI (w - 10000)) (bI p) (bI q) = some (bI (if w = 10034 then p && q else p || q)) := by
  rw [u_X3_joined]
  rcases hw with rfl | rfl
  · rw [if_neg (by decide), if_neg (by decide), if_neg (by decide), if_neg (by decide), if_pos rfl]
    cases p <;> cases q <;> rfl
  · rw [if_neg (by decide), if_neg (by decide), if_neg (by decide), if_neg (by decide), if_neg (by decide), if_pos rfl]
    cases p <;> cases q <;> rfl
theorem j9_ar (ha : inR a) (hb : inR b) {w : Nat} (hw : 10007 ≤ w ∧ w ≤ 10010) : f_X9_two F S (nI (rOp w)) (lZ a) (lZ b) = some (lZ (ev2 w a b)) := by
  have m := mul_rng ha hb
  have ha' := ha
  have hb' := hb
  unfold inR at ha' hb'
  have e0 : (lZ b = (0 : Int64)) = (b = 0) := by rw [c0L]; exact lZ_eq hb R0
  rw [u_X9_two]
  rcases (show w = 10007 ∨ w = 10008 ∨ w = 10009 ∨ w = 10010 by omega) with rfl | rfl | rfl | rfl
  · rw [if_pos (by decide), lZ_add ha hb, clip_z S (by omega), ev2_7]
  · rw [if_neg (by decide), if_pos (by decide), lZ_sub ha hb, clip_z S (by omega), ev2_8]
  · rw [if_neg (by decide), if_neg (by decide), if_pos (by decide), lZ_mul ha hb, clip_z S m, ev2_9]
  · rw [if_neg (by decide), if_neg (by decide), if_neg (by decide)]
    simp only [e0]
    rw [ev2_10]
    by_cases q : b = 0
    · rw [if_pos q, if_pos q, c0L]
    · have t := tdiv_rng (b := b) ha
      have ec : clp (a.tdiv b) = a.tdiv b := by
        unfold inR at t
        unfold clp
        rw [if_neg (by omega), if_neg (by omega)]
      have t' := t
      unfold inR at t'
      rw [if_neg q, if_neg q, nzlz hb q, ck_t, lZ_div ha hb, clip_z S (by omega), ec]
theorem j9_rel (ha : inR a) (hb : inR b) {w : Nat} (hw : (10003 ≤ w ∧ w ≤ 10006) ∨ w = 10014 ∨ w = 10015) : f_X9_isAsked S (nI (rOp w)) (lZ a) (lZ b) = evr w a b := by
  have ha' := ha
  have hb' := hb
  unfold inR at ha' hb'
  have e3 : (lZ a = lZ b) = (a = b) := lZ_eq ha hb
  have e4 : (lZ a < lZ b) = (a < b) := lZ_lt (by omega) (by omega)
  have e5 : (lZ b < lZ a) = (b < a) := lZ_lt (by omega) (by omega)
  rw [u_X9_isAsked]
  simp only [e3, e4, e5]
  rcases (show w = 10003 ∨ w = 10004 ∨ w = 10005 ∨ w = 10006 ∨ w = 10014 ∨ w = 10015 by omega) with rfl | rfl | rfl | rfl | rfl | rfl
  · rw [if_pos (by decide)]
    show _ = decide (a < b)
    by_cases q : a < b
    · rw [if_pos q, decide_eq_true q]
    · rw [if_neg q, decide_eq_false q]
  · rw [if_neg (by decide), if_neg (by decide), if_pos (by decide)]
    show _ = decide (b < a)
    by_cases q : b < a
    · rw [if_pos q, decide_eq_true q]
    · rw [if_neg q, decide_eq_false q]
  · rw [if_neg (by decide), if_neg (by decide), if_neg (by decide), if_neg (by decide), if_pos (by decide)]
    show _ = decide (a = b)
    by_cases q : a = b
    · rw [if_pos q, decide_eq_true q]
    · rw [if_neg q, decide_eq_false q]
  · rw [if_neg (by decide), if_neg (by decide), if_neg (by decide), if_neg (by decide), if_neg (by decide)]
    show _ = decide (¬ a = b)
    by_cases q : a = b
    · rw [if_pos q, decide_eq_false (fun h => h q)]
    · rw [if_neg q, decide_eq_true q]
  · rw [if_neg (by decide), if_pos (by decide)]
    show _ = decide (¬ b < a)
    by_cases q : b < a
    · rw [if_pos q, decide_eq_false (fun h => h q)]
    · rw [if_neg q, decide_eq_true q]
  · rw [if_neg (by decide), if_neg (by decide), if_neg (by decide), if_pos (by decide)]
    show _ = decide (¬ a < b)
    by_cases q : a < b
    · rw [if_pos q, decide_eq_false (fun h => h q)]
    · rw [if_neg q, decide_eq_true q]
theorem j9_div (ha : inR a) (hb : inR b) : f_X9_isDividing F S (lZ a) (lZ b) = some (evr 10036 a b) := by
  have e0 : (lZ b = (0 : Int64)) = (b = 0) := by rw [c0L]; exact lZ_eq hb R0
  have e0a : (lZ a = (0 : Int64)) = (a = 0) := by rw [c0L]; exact lZ_eq ha R0
  rw [u_X9_isDividing]
  simp only [e0, e0a]
  show _ = some (if a = 0 then decide (b = 0) else decide (b.tmod a = 0))
  by_cases q : a = 0
  · rw [if_pos q, if_pos q]
    by_cases q2 : b = 0
    · rw [if_pos q2, decide_eq_true q2]
    · rw [if_neg q2, decide_eq_false q2]
  · have e6 : (lZ (b.tmod a) = (0 : Int64)) = (b.tmod a = 0) := by rw [c0L]; exact lZ_eq (tmod_rng hb) R0
    rw [if_neg q, if_neg q, nzlz ha q, ck_t, lZ_rem hb ha]
    simp only [e6]
    by_cases q2 : b.tmod a = 0
    · rw [if_pos q2, decide_eq_true q2]
    · rw [if_neg q2, decide_eq_false q2]
theorem j9_bo (p q : Bool) {w : Nat} (hw : w = 10033 ∨ w = 10034) : f_X9_joined S (nI (rOp w)) (bI p) (bI q) = (if w = 10034 then p && q else p || q) := by
  rw [u_X9_joined]
  rcases hw with rfl | rfl
  · rw [if_neg (by decide)]
    cases p <;> cases q <;> rfl
  · rw [if_pos (by decide)]
    cases p <;> cases q <;> rfl
end
/-- the piles: numbers, truths -/
def evw (nm : Nat → Nat) (w : Nat) (ns : List Int) (ts : List Bool) : List Int × List Bool :=
  if w < 10000 then ((w : Int) :: ns, ts)
  else if 10016 ≤ w ∧ w < 10024 then ((nm (w - 10016) : Int) :: ns, ts)
  else if w = 10038 then (match ns with | z :: r => (-z :: r, ts) | [] => (ns, ts))
  else if (10007 ≤ w ∧ w ≤ 10010) ∨ w = 10037 then (match ns with | b :: a :: r => (ev2 w a b :: r, ts) | _ => (ns, ts))
  else if (10003 ≤ w ∧ w ≤ 10006) ∨ w = 10014 ∨ w = 10015 ∨ w = 10036 then (match ns with | b :: a :: r => (r, evr w a b :: ts) | _ => (ns, ts))
  else if w = 10035 then (match ts with | b :: r => (ns, (!b) :: r) | [] => (ns, ts))
  else (match ts with | b :: a :: r => (ns, (if w = 10034 then a && b else a || b) :: r) | _ => (ns, ts))
def evs (nm : Nat → Nat) (K : Nat → Nat) : Nat → Nat → List Int → List Bool → List Int × List Bool
  | 0, _, ns, ts => (ns, ts)
  | m + 1, i, ns, ts => evs nm K m (i + 1) (evw nm (K i) ns ts).1 (evw nm (K i) ns ts).2
def stB (S : mS) (c : Nat) : List Bool → Prop
  | [] => True
  | b :: r => S.1 c r.length = bI b ∧ stB S c r
def stN (S : mS) (b : Nat) : List Int → Prop
  | [] => True
  | z :: r => S.1 39 (b + r.length) = iZ z ∧ stN S b r
def rtN (S : mS) : List Int → Prop
  | [] => True
  | z :: r => S.2 382 r.length = lZ z ∧ rtN S r
def okN : List Int → Prop
  | [] => True
  | z :: r => inR z ∧ okN r
theorem stB.fr {S S' : mS} {c : Nat} : ∀ {ts : List Bool}, stB S c ts → (∀ k, k < ts.length → S'.1 c k = S.1 c k) → stB S' c ts
  | [], _, _ => trivial
  | b :: r, h, e => ⟨(e _ (Nat.lt_succ_self _)).trans h.1, stB.fr h.2 (fun k hk => e k (Nat.lt_succ_of_lt hk))⟩
theorem stN.fr {S S' : mS} {b : Nat} : ∀ {ns : List Int}, stN S b ns → (∀ k, k < b + ns.length → S'.1 39 k = S.1 39 k) → stN S' b ns
  | [], _, _ => trivial
  | z :: r, h, e => ⟨(e _ (by rw [List.length_cons]; omega)).trans h.1, stN.fr h.2 (fun k hk => e k (by rw [List.length_cons]; omega))⟩
theorem rtN.fr {S S' : mS} : ∀ {ns : List Int}, rtN S ns → (∀ k, k < ns.length → S'.2 382 k = S.2 382 k) → rtN S' ns
  | [], _, _ => trivial
  | z :: r, h, e => ⟨(e _ (Nat.lt_succ_self _)).trans h.1, rtN.fr h.2 (fun k hk => e k (Nat.lt_succ_of_lt hk))⟩
