/-! ===== laws: what the class makes of them ===== -/
def opd (T : Tw) (d e : Nat) : Bool := !(T 1 e).testBit d && !(T 0 1).testBit e
def opb (T : Tw) (d e : Nat) : Bool := decide (e < T 0 0) && opd T d e
def bes (T : Tw) (d h : Nat) : Nat := (if 0 < h ∧ opb T d (h - 1) = true then 1 else 0) + (if opb T d (h + 1) = true then 1 else 0)
theorem bes_le (T : Tw) (d h : Nat) : bes T d h ≤ 2 := by
  unfold bes
  split <;> split <;> omega
def nmv (T : Tw) (day h : Nat) : Nat → Nat := fun k => if k = 0 then day else if k = 1 then day % 20 else if k = 2 then h else if k = 3 then T 2 h else if k = 4 then T 3 h else if k = 5 then pcf 20 (T 1 h) else if k = 6 then fb_ct (opd T (day % 20)) (T 0 0) else bes T (day % 20) h
def lawV (Et T : Tw) (l day h : Nat) : List Int × List Bool := evs (nmv T day h) (Et 5) (Et 7 l - Et 6 l) (Et 6 l) [] []
def lawZ (Et T : Tw) (l day h : Nat) : Int := (lawV Et T l day h).1.headD 0
def lawB (Et T : Tw) (l day h : Nat) : Bool := (lawV Et T l day h).2.headD false
def c99 (z : Int) : Nat := if z < 0 then 0 else if 99 < z then 99 else z.toNat
theorem c99_le (z : Int) : c99 z ≤ 99 := by
  unfold c99
  split
  · omega
  · split <;> omega
def ern (Et T : Tw) (day h : Nat) : Nat := if Et 6 0 < Et 7 0 then c99 (lawZ Et T 0 day h) else 1 + bes T (day % 20) h
def los (Et T : Tw) (day h : Nat) : Nat := if Et 6 1 < Et 7 1 then c99 (lawZ Et T 1 day h) else 2
def lts (Et T : Tw) (day h : Nat) : Bool := if Et 6 2 < Et 7 2 then lawB Et T 2 day h else decide (T 3 h < 50)
theorem ern_le (Et T : Tw) (day h : Nat) : ern Et T day h ≤ 99 := by
  unfold ern
  split
  · exact c99_le _
  · have := bes_le T (day % 20) h
    omega
theorem los_le (Et T : Tw) (day h : Nat) : los Et T day h ≤ 99 := by
  unfold los
  split
  · exact c99_le _
  · omega
/-- what the class has looked at -/
def LK (S : mS) (T : Tw) (day : Nat) : Prop := S.1 37 2 = nI (mkp (opd T (day % 20)) (T 0 0)) ∧ S.1 38 0 = nI day ∧ S.1 38 1 = nI (day % 20) ∧ S.1 38 6 = nI (fb_ct (opd T (day % 20)) (T 0 0))
/-- a text's laws in the class's cells -/
def CL (S : mS) (q : Nat) (Et : Tw) : Prop := ∀ l, l < 3 → S.1 (q + 2) l = nI (Et 6 l) ∧ S.1 (q + 3) l = nI (Et 7 l) ∧ Et 7 l ≤ 300 ∧ Et 6 l ≤ 300 ∧ (Et 6 l < Et 7 l → tyr (Et 5) (Et 7 l - Et 6 l) (Et 6 l) (0, 0) = some (if l = 2 then (1, 0) else (0, 1)) ∧ ∀ p, Et 6 l ≤ p → p < Et 7 l → S.1 (q + 1) p = nI (Et 5 p) ∧ Et 5 p < 10039)
def Flaw (S S' : mS) : Prop := ∀ u k, ¬ (37 ≤ u ∧ u ≤ 39) → S'.1 u k = S.1 u k
theorem Flaw.rfl' (S : mS) : Flaw S S := fun _ _ _ => rfl
theorem Flaw.trans {S S1 S2 : mS} (h : Flaw S S1) (h2 : Flaw S1 S2) : Flaw S S2 := fun u k c => (h2 u k c).trans (h u k c)
theorem CL.fr {S S' : mS} {q : Nat} {Et : Tw} (hq : q ≤ 33) (h : CL S q Et) (f : ∀ u k, u ≤ 36 → S'.1 u k = S.1 u k) : CL S' q Et := fun l hl => by
  obtain ⟨a, b, c, d, e⟩ := h l hl
  rw [f _ _ (by omega), f _ _ (by omega)]
  exact ⟨a, b, c, d, fun h1 => ⟨(e h1).1, fun p h2 h3 => by rw [f _ _ (by omega)]; exact (e h1).2 p h2 h3⟩⟩
section
variable {F : Nat} {S : mS} {t : Nat} {T Et : Tw} {day : Nat}
theorem x3_look (hF : 8 < F) (ht : 40 ≤ t) (hC : CT S t T) (hW : Wf T) (hd : day < 2 ^ 30) : ∃ S', f_X3_lookAt F S 37 t (nI day) = some S' ∧ LK S' T day ∧ Flaw S S' := by
  have w0 := hW.1
  have b := mkp_lt7 (opd T (day % 20)) w0
  have e := x6_openOn (F := F) hF hC hW (show day % 20 < 32 by omega)
  have m := mkp_ct (p := opd T (day % 20)) (show T 0 0 ≤ 20 by omega)
  refine ⟨sI (sI (sI (sI S 37 2 (nI (mkp (opd T (day % 20)) (T 0 0)))) 38 0 (nI day)) 38 1 (nI (day % 20))) 38 6 (nI (fb_ct (opd T (day % 20)) (T 0 0))), ?_, ⟨?_, ?_, ?_, ?_⟩, fun u k c => ?_⟩
  · rw [u_X3_lookAt, pk_rem (by omega) (by omega) (by omega), e, bd_s]
    show stp (sI S 37 2 (nI (mkp (opd T (day % 20)) (T 0 0)))) _ = _
    simp (disch := omega) only [↓stp_s, inb_n, ck_t, nI_clamp, sq_hit, sq_off, bc_n, m]
  · simp (disch := omega) only [sq_hit, sq_off, tu_hit, tu_off]
  · simp (disch := omega) only [sq_hit, sq_off, tu_hit, tu_off]
  · simp (disch := omega) only [sq_hit, sq_off, tu_hit, tu_off]
  · simp (disch := omega) only [sq_hit, sq_off, tu_hit, tu_off]
  · simp (disch := omega) only [sq_hit, sq_off, tu_hit, tu_off]
theorem x3_isOpen (hL : LK S T day) (hW : Wf T) {h : Nat} (hh : h < 32) : f_X3_isOpen S 37 (nI h) = opb T (day % 20) h := by
  have w0 := hW.1
  have b := mkp_lt7 (opd T (day % 20)) w0
  rw [u_X3_isOpen, hL.1]
  simp (disch := omega) only [i_bit1]
  rw [if_tf, mkp_tb]
  rfl
theorem x3_bes (hL : LK S T day) (hW : Wf T) {h : Nat} (hh : h < 30) : f_X3_openBeside S 37 (nI h) = nI (bes T (day % 20) h) := by
  rw [u_X3_openBeside, nI_add, x3_isOpen hL hW (by omega)]
  unfold bes
  by_cases q : h = 0
  · subst q
    rw [if_pos (nI_le (by omega) (by omega)), if_neg (show ¬ (0 < 0 ∧ opb T (day % 20) (0 - 1) = true) by omega)]
    cases opb T (day % 20) (0 + 1) <;> rfl
  · rw [if_neg (nI_ge (by omega) (by omega)), pk_sub (by omega), x3_isOpen hL hW (by omega)]
    cases q1 : opb T (day % 20) (h - 1)
    · rw [if_neg (show ¬ false = true by decide), if_neg (show ¬ (0 < h ∧ false = true) from fun w => absurd w.2 (by decide))]
      cases opb T (day % 20) (h + 1) <;> rfl
    · rw [if_pos (show true = true from rfl), if_pos (show 0 < h ∧ true = true from ⟨by omega, rfl⟩)]
      cases opb T (day % 20) (h + 1) <;> rfl
theorem ln2_t {x : List Int × List Bool} (h : ln2 x = (1, 0)) : x.1 = [] ∧ x.2 = [x.2.headD false] := by
  obtain ⟨a, b⟩ := x
  have h1 : b.length = 1 := congrArg Prod.fst h
  have h2 : a.length = 0 := congrArg Prod.snd h
  refine ⟨List.length_eq_zero_iff.mp h2, ?_⟩
  cases b with
  | nil => exact absurd h1 (by decide)
  | cons y r =>
    cases r with
    | nil => rfl
    | cons y2 r2 => exact absurd h1 (by simp)
theorem ln2_n {x : List Int × List Bool} (h : ln2 x = (0, 1)) : x.2 = [] ∧ x.1 = [x.1.headD 0] := by
  obtain ⟨a, b⟩ := x
  have h1 : b.length = 0 := congrArg Prod.fst h
  have h2 : a.length = 1 := congrArg Prod.snd h
  refine ⟨List.length_eq_zero_iff.mp h1, ?_⟩
  cases a with
  | nil => exact absurd h2 (by decide)
  | cons y r =>
    cases r with
    | nil => rfl
    | cons y2 r2 => exact absurd h2 (by simp)
theorem nmv_ok (hW : Wf T) (hd : day ≤ 100000) {h : Nat} (hh : h < T 0 0) : ∀ j, nmv T day h j ≤ 1000000 := fun j => by
  have w0 := hW.1
  have s := hW.2.2.2.2.2.1 h hh
  have b := bes_le T (day % 20) h
  have c := fb_ct_le (opd T (day % 20)) (T 0 0)
  unfold nmv
  split
  · omega
  split
  · omega
  split
  · omega
  split
  · omega
  split
  · omega
  split
  · omega
  split
  · omega
  · omega
theorem x3_value (hF : 1000 < F) (ht : 40 ≤ t) (hC : CT S t T) (hW : Wf T) (hL : LK S T day) (hd : day ≤ 100000) {q l h : Nat} (hq : q ≤ 33) (hE : CL S q Et) (hl : l < 3) (hlaw : Et 6 l < Et 7 l) (hh : h < T 0 0) : ∃ S', f_X3_valueOf F S 37 q (nI (24 + l)) t (nI h) = some (S', if l = 2 then bI (lawB Et T l day h) else iZ (lawZ Et T l day h)) ∧ LK S' T day ∧ Flaw S S' ∧ (l ≠ 2 → inR (lawZ Et T l day h)) := by
  have w0 := hW.1
  have s := hW.2.2.2.2.2.1 h hh
  obtain ⟨e1, e2, e3, e3', e4⟩ := hE l hl
  obtain ⟨ty, code⟩ := e4 hlaw
  have c2 : S.1 (t + 2) h = nI (T 2 h) := hC.2.2.2.2.2.2.1 h hh
  have c3 : S.1 (t + 3) h = nI (T 3 h) := hC.2.2.2.2.2.2.2.1 h hh
  have c1 : S.1 (t + 1) h = nI (T 1 h) := hC.2.2.2.2.2.1 h hh
  let S1 := sI (sI (sI (sI (sI S 38 2 (nI h)) 38 3 (nI (T 2 h))) 38 4 (nI (T 3 h))) 38 5 (nI (pcf 20 (T 1 h)))) 38 7 (nI (bes T (day % 20) h))
  have f1 : ∀ u k, u ≠ 38 → S1.1 u k = S.1 u k := fun u k hu => by
    show (sI (sI (sI (sI (sI S 38 2 _) 38 3 _) 38 4 _) 38 5 _) 38 7 _).1 u k = _
    rw [sq_u hu, sq_u hu, sq_u hu, sq_u hu, sq_u hu]
  have f1s : ∀ k, k = 0 ∨ k = 1 ∨ k = 6 → S1.1 38 k = S.1 38 k := fun k hk => by
    show (sI (sI (sI (sI (sI S 38 2 _) 38 3 _) 38 4 _) 38 5 _) 38 7 _).1 38 k = _
    simp (disch := omega) only [sq_hit, sq_off, tu_hit, tu_off]
  have lk1 : LK S1 T day := ⟨(f1 _ _ (by decide)).trans hL.1, (f1s _ (by omega)).trans hL.2.1, (f1s _ (by omega)).trans hL.2.2.1, (f1s _ (by omega)).trans hL.2.2.2⟩
  have nm1 : ∀ j, j < 8 → S1.1 38 j = nI (nmv T day h j) ∧ nmv T day h j ≤ 1000000 := fun j hj => by
    refine ⟨?_, nmv_ok hW hd hh j⟩
    rcases (show j = 0 ∨ j = 1 ∨ j = 2 ∨ j = 3 ∨ j = 4 ∨ j = 5 ∨ j = 6 ∨ j = 7 by omega) with rfl | rfl | rfl | rfl | rfl | rfl | rfl | rfl
    · exact lk1.2.1
    · exact lk1.2.2.1
    · show (sI (sI (sI (sI (sI S 38 2 _) 38 3 _) 38 4 _) 38 5 _) 38 7 _).1 38 2 = nI h
      simp (disch := omega) only [sq_hit, sq_off, tu_hit, tu_off]
    · show (sI (sI (sI (sI (sI S 38 2 _) 38 3 _) 38 4 _) 38 5 _) 38 7 _).1 38 3 = nI (T 2 h)
      simp (disch := omega) only [sq_hit, sq_off, tu_hit, tu_off]
    · show (sI (sI (sI (sI (sI S 38 2 _) 38 3 _) 38 4 _) 38 5 _) 38 7 _).1 38 4 = nI (T 3 h)
      simp (disch := omega) only [sq_hit, sq_off, tu_hit, tu_off]
    · show (sI (sI (sI (sI (sI S 38 2 _) 38 3 _) 38 4 _) 38 5 _) 38 7 _).1 38 5 = nI (pcf 20 (T 1 h))
      simp (disch := omega) only [sq_hit, sq_off, tu_hit, tu_off]
    · exact lk1.2.2.2
    · show (sI (sI (sI (sI (sI S 38 2 _) 38 3 _) 38 4 _) 38 5 _) 38 7 _).1 38 7 = nI (bes T (day % 20) h)
      simp (disch := omega) only [sq_hit, sq_off, tu_hit, tu_off]
  have lk0 : LK (sI (sI (sI (sI S 38 2 (nI h)) 38 3 (nI (T 2 h))) 38 4 (nI (T 3 h))) 38 5 (nI (pcf 20 (T 1 h)))) T day := by
    refine ⟨?_, ?_, ?_, ?_⟩
    · simp (disch := omega) only [sq_hit, sq_off, tu_hit, tu_off]; exact hL.1
    · simp (disch := omega) only [sq_hit, sq_off, tu_hit, tu_off]; exact hL.2.1
    · simp (disch := omega) only [sq_hit, sq_off, tu_hit, tu_off]; exact hL.2.2.1
    · simp (disch := omega) only [sq_hit, sq_off, tu_hit, tu_off]; exact hL.2.2.2
  obtain ⟨S2, u2, l2, o2, B2, N2, f2⟩ := v8_run (F := F) (q := q) (t := t) (to := Et 7 l) (a2 := nI (24 + l)) (a4 := nI h) (nm := nmv T day h) (K := Et 5) (by omega) (by omega) e3 (Et 7 l - Et 6 l) (Et 6 l) F (S := S1) (ns := []) (ts := []) (by omega) (by omega) (fun p h1 h2 => by rw [f1 _ _ (by omega)]; exact code p h1 h2) nm1 ty (Nat.zero_le _) trivial trivial trivial
  have u : f_X3_valueOf F S 37 q (nI (24 + l)) t (nI h) = some (S2, S2.1 39 0) := by
    rw [u_X3_valueOf, x6_told hC hW, tld_n (by omega) (by omega), decide_eq_true hh, if_pos rfl, pk_sub (by omega), show 24 + l - 24 = l by omega]
    have k1 : ∀ S' : mS, (∀ u k, u ≠ 38 → S'.1 u k = S.1 u k) → S'.1 (q + 3) l = nI (Et 7 l) ∧ S'.1 (q + 2) l = nI (Et 6 l) := fun S' hS => ⟨by rw [hS _ _ (by omega)]; exact e2, by rw [hS _ _ (by omega)]; exact e1⟩
    simp (disch := omega) only [inb_n, ck_t, ↓stp_s, nI_clamp, sq_u, c1, c2, c3, bc_n s.1, x3_bes lk0 hW (show h < 30 by omega), e1, e2, imin_n, Nat.min_eq_right]
    exact u2
  have f3 : Flaw S S2 := fun u k c => (f2 u k (by omega)).trans (f1 u k (by omega))
  refine ⟨S2, ?_, ⟨(f2 _ _ (by decide)).trans lk1.1, (f2 _ _ (by decide)).trans lk1.2.1, (f2 _ _ (by decide)).trans lk1.2.2.1, (f2 _ _ (by decide)).trans lk1.2.2.2⟩, f3, fun hl2 => ?_⟩
  · rw [u]
    refine congrArg (fun z => some (S2, z)) ?_
    by_cases q2 : l = 2
    · rw [if_pos q2]
      rw [if_pos q2] at l2
      obtain ⟨y1, y2⟩ := ln2_t l2
      rw [y2] at B2
      exact B2.1
    · rw [if_neg q2]
      rw [if_neg q2] at l2
      obtain ⟨y1, y2⟩ := ln2_n l2
      rw [y1, y2] at N2
      exact N2.1
  · rw [if_neg hl2] at l2
    obtain ⟨y1, y2⟩ := ln2_n l2
    rw [y2] at o2
    exact o2.1
theorem c99_i {z : Int} (hz : inR z) : imax (nI 0) (imin (nI 99) (iZ z)) = nI (c99 z) := by
  unfold imax imin c99
  have e1 : (iZ z < nI 99) = (z < 99) := by rw [show nI 99 = iZ 99 from iZ_n (by decide)]; exact iZ_lt hz ⟨by decide, by decide⟩
  have e2 : (nI 0 < iZ z) = (0 < z) := by rw [c0I]; exact iZ_lt R0 hz
  have e3 : (nI 0 < nI 99) = True := eq_true (by decide)
  simp only [e1]
  unfold inR at hz
  by_cases q : z < 99
  · simp only [if_pos q, e2]
    by_cases q2 : 0 < z
    · rw [if_pos q2, if_neg (by omega), if_neg (by omega), iZ_n (by omega)]
      exact congrArg iZ (by omega)
    · rw [if_neg q2]
      by_cases q3 : z < 0
      · rw [if_pos q3]
      · rw [if_neg q3, if_neg (by omega), show z.toNat = 0 by omega]
  · simp only [if_neg q, e3, if_true]
    rw [if_neg (by omega)]
    by_cases q2 : 99 < z
    · rw [if_pos q2]
    · rw [if_neg q2, show z.toNat = 99 by omega]
theorem x5_has {q l : Nat} (hE : CL S q Et) (hl : l < 3) : f_X5_has F S q (nI (24 + l)) = some (decide (Et 6 l < Et 7 l)) := by
  obtain ⟨e1, e2, e3, e3', -⟩ := hE l hl
  rw [u_X5_has, pk_sub (by omega), show 24 + l - 24 = l by omega, inb_n (by omega) (by omega), ck_t, ck_t, nI_clamp (by omega), e1, e2]
  by_cases h : Et 6 l < Et 7 l
  · rw [if_neg (nI_ge h (by omega)), decide_eq_true h]
  · rw [if_pos (nI_le (by omega) (by omega)), decide_eq_false h]
theorem x3_earn (hF : 1000 < F) (ht : 40 ≤ t) (hC : CT S t T) (hW : Wf T) (hL : LK S T day) (hd : day ≤ 100000) {q h : Nat} (hq : q ≤ 33) (hE : CL S q Et) (hh : h < T 0 0) : ∃ S', f_X3_earnedBy F S 37 q t (nI h) = some (S', nI (ern Et T day h)) ∧ LK S' T day ∧ Flaw S S' := by
  have w0 := hW.1
  rw [u_X3_earnedBy, show nI 24 = nI (24 + 0) from rfl, x5_has hE (by omega), bd_s]
  unfold ern
  by_cases c : Et 6 0 < Et 7 0
  · obtain ⟨S', u, lk, f, r⟩ := x3_value (F := F) hF ht hC hW hL hd hq hE (l := 0) (by omega) c hh
    refine ⟨S', ?_, lk, f⟩
    rw [decide_eq_true c, if_pos rfl, if_pos c, u, bd_s]
    show some (S', imax (nI 0) (imin (nI 99) (iZ (lawZ Et T 0 day h)))) = _
    rw [c99_i (r (by decide))]
  · exact ⟨S, by rw [decide_eq_false c, if_neg (by decide), if_neg c, x3_bes hL hW (by omega), nI_add], hL, Flaw.rfl' S⟩
theorem x3_lost (hF : 1000 < F) (ht : 40 ≤ t) (hC : CT S t T) (hW : Wf T) (hL : LK S T day) (hd : day ≤ 100000) {q h : Nat} (hq : q ≤ 33) (hE : CL S q Et) (hh : h < T 0 0) : ∃ S', f_X3_lostBy F S 37 q t (nI h) = some (S', nI (los Et T day h)) ∧ LK S' T day ∧ Flaw S S' := by
  have w0 := hW.1
  rw [u_X3_lostBy, show nI 25 = nI (24 + 1) from rfl, x5_has hE (by omega), bd_s]
  unfold los
  by_cases c : Et 6 1 < Et 7 1
  · obtain ⟨S', u, lk, f, r⟩ := x3_value (F := F) hF ht hC hW hL hd hq hE (l := 1) (by omega) c hh
    refine ⟨S', ?_, lk, f⟩
    rw [decide_eq_true c, if_pos rfl, if_pos c, u, bd_s]
    show some (S', imax (nI 0) (imin (nI 99) (iZ (lawZ Et T 1 day h)))) = _
    rw [c99_i (r (by decide))]
  · exact ⟨S, by rw [decide_eq_false c, if_neg (by decide), if_neg c], hL, Flaw.rfl' S⟩
theorem x3_lets (hF : 1000 < F) (ht : 40 ≤ t) (hC : CT S t T) (hW : Wf T) (hL : LK S T day) (hd : day ≤ 100000) {q h : Nat} (hq : q ≤ 33) (hE : CL S q Et) (hh : h < T 0 0) : ∃ S', f_X3_letsIn F S 37 q t (nI h) = some (S', lts Et T day h) ∧ LK S' T day ∧ Flaw S S' := by
  have w0 := hW.1
  have s := hW.2.2.2.2.2.1 h hh
  rw [u_X3_letsIn, show nI 26 = nI (24 + 2) from rfl, x5_has hE (by omega), bd_s]
  unfold lts
  by_cases c : Et 6 2 < Et 7 2
  · obtain ⟨S', u, lk, f, r⟩ := x3_value (F := F) hF ht hC hW hL hd hq hE (l := 2) (by omega) c hh
    refine ⟨S', ?_, lk, f⟩
    rw [decide_eq_true c, if_pos rfl, if_pos c, u, bd_s]
    show (if bI (lawB Et T 2 day h) = nI 0 then some (S', false) else some (S', true)) = _
    cases lawB Et T 2 day h
    · exact if_pos rfl
    · exact if_neg (by decide)
  · refine ⟨S, ?_, hL, Flaw.rfl' S⟩
    have c3 : S.1 (t + 3) h = nI (T 3 h) := hC.2.2.2.2.2.2.2.1 h hh
    rw [decide_eq_false c, if_neg (by decide), if_neg c, x6_told hC hW, tld_n (by omega) (by omega), decide_eq_true hh, if_pos rfl, inb_n (by omega) (by omega), ck_t, nI_clamp (by omega), c3]
    by_cases q : T 3 h < 50
    · rw [if_neg (nI_ge q (by omega)), decide_eq_true q]
    · rw [if_pos (nI_le (by omega) (by omega)), decide_eq_false q]
end
