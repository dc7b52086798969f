/-! ===== laws: what the reference makes of them ===== -/
def tx (E : Nat → Tw) (r : Nat) : Tw := if r = 0 then (fun _ _ => 0) else E (r - 1)
def tc (r : Nat) : Nat := if r = 0 then 32 else 12 + 5 * (r - 1)
def RLw (S : mS) (r : Nat) (Et : Tw) : Prop := S.1 376 2 = rul r ∧ r ≤ 4 ∧ (r = 0 → ∀ l, l < 3 → ¬ Et 6 l < Et 7 l) ∧ ∀ i, r = i + 1 → Et 0 0 ≤ 24 ∧ S.1 378 (705 * i) = nI (Et 0 0) ∧ (∀ c, c < Et 0 0 → Et 1 c < 9 ∧ S.1 378 (705 * i + 1 + 4 * c) = nI (Et 1 c)) ∧ (∀ c, c < Et 0 0 → Et 1 c < 3 → Et 6 (Et 1 c) < Et 7 (Et 1 c) ∧ S.1 378 (705 * i + 1 + 4 * c + 1) = nI (Et 6 (Et 1 c)) ∧ S.1 378 (705 * i + 1 + 4 * c + 2) = nI (Et 7 (Et 1 c))) ∧ (∀ l, l < 3 → Et 6 l < Et 7 l → Et 7 l ≤ 300 ∧ (∃ c, c < Et 0 0 ∧ Et 1 c = l) ∧ tyr (Et 5) (Et 7 l - Et 6 l) (Et 6 l) (0, 0) = some (if l = 2 then (1, 0) else (0, 1)) ∧ ∀ p, Et 6 l ≤ p → p < Et 7 l → S.1 378 (705 * i + 97 + 2 * p) = nI (rOp (Et 5 p)) ∧ S.1 378 (705 * i + 97 + 2 * p + 1) = nI (rVal (Et 5 p)) ∧ Et 5 p < 10039)
theorem RLw.of {S : mS} {E : Nat → Tw} {n r : Nat} (hT : TX S E n) (hr : r ≤ n) (hn : n ≤ 4) (h2 : S.1 376 2 = rul r) : RLw S r (tx E r) := by
  refine ⟨h2, by omega, fun h0 l _ => ?_, fun i hi => ?_⟩
  · unfold tx
    rw [if_pos h0]
    exact Nat.lt_irrefl 0
  · have ei : tx E r = E i := by
      unfold tx
      rw [if_neg (by omega), show r - 1 = i by omega]
    rw [ei]
    obtain ⟨t1, t2, t3, t4, t5, t6, t7, t8, t9, t10, t11⟩ := hT.1 i (by omega)
    refine ⟨t1, t3, fun c hc => ⟨(t4 c hc).1, (t4 c hc).2.2⟩, fun c hc h3 => t9 c hc h3, fun l hl hlaw => ?_⟩
    have a := t8 l hl
    exact ⟨a.2.2.1, (t10 l hl hlaw).1, (t10 l hl hlaw).2, fun p h1 h2 => by
      have b := t11 p (by omega) ⟨l, hl, h1, h2⟩
      exact ⟨b.2.2.1, b.2.2.2, b.2.1⟩⟩
theorem CL.of {S : mS} {E : Nat → Tw} {n r : Nat} (hT : TX S E n) (hr : r ≤ n) (hn : n ≤ 4) : CL S (tc r) (tx E r) ∧ tc r ≤ 33 := by
  by_cases h0 : r = 0
  · have e1 : tc r = 32 := if_pos h0
    have e2 : tx E r = fun _ _ => 0 := if_pos h0
    rw [e1, e2]
    exact ⟨fun l hl => ⟨(hT.2 l hl).1, (hT.2 l hl).2, Nat.zero_le _, Nat.zero_le _, fun h => absurd h (Nat.lt_irrefl 0)⟩, by decide⟩
  · have e1 : tc r = 12 + 5 * (r - 1) := if_neg h0
    have e2 : tx E r = E (r - 1) := if_neg h0
    rw [e1, e2]
    obtain ⟨t1, t2, t3, t4, t5, t6, t7, t8, t9, t10, t11⟩ := hT.1 (r - 1) (by omega)
    refine ⟨fun l hl => ?_, by omega⟩
    have a := t8 l hl
    exact ⟨a.1, a.2.1, a.2.2.1, a.2.2.2, fun hlaw => ⟨(t10 l hl hlaw).2, fun p h1 h2 => by
      have b := t11 p (by omega) ⟨l, hl, h1, h2⟩
      exact ⟨b.1, b.2.1⟩⟩⟩
/-- what the reference writes for a law -/
def FL (S S' : mS) : Prop := ∀ u k, u ≠ 381 → u ≠ 383 → S'.1 u k = S.1 u k
theorem FL.rfl' (S : mS) : FL S S := fun _ _ _ _ => rfl
theorem FL.trans {S S1 S2 : mS} (h : FL S S1) (h2 : FL S1 S2) : FL S S2 := fun u k a b => (h2 u k a b).trans (h u k a b)
theorem FL.fq {S S' : mS} (h : FL S S') : Fq S S' := fq_fr (fun u k a b => h u k (by omega) (by omega))
theorem RLw.fr {S S' : mS} {r : Nat} {Et : Tw} (h : RLw S r Et) (e : ∀ u k, (u = 376 ∧ k = 2) ∨ u = 378 → S'.1 u k = S.1 u k) : RLw S' r Et := by
  have e2 : ∀ k, S'.1 378 k = S.1 378 k := fun k => e _ _ (by omega)
  unfold RLw at *
  rw [e 376 2 (by omega)]
  simp only [e2]
  exact h
section
variable {F : Nat} {S : mS} {T Et : Tw} {day r h : Nat}
theorem x9_bes (hR : RT S 376 T) (hW : Wf T) (hh : h < T 0 0) {d : Nat} (hd : d < 32) : f_X9_besideOn F S 375 (nI h) (nI d) = some (nI (bes T d h)) := by
  have w0 := hW.1
  have e2 : opn T (nI (h + 1)) d = opb T d (h + 1) := by
    unfold opn opb opd
    rw [lvs_n (by omega) (by omega), nI_clamp (by omega)]
    cases decide (h + 1 < T 0 0) <;> cases (T 0 1).testBit (h + 1) <;> cases (T 1 (h + 1)).testBit d <;> rfl
  rw [u_X9_besideOn, nI_add, x9_isOpen hR hW _ hd, x9_isOpen hR hW _ hd, e2, bd_s, bd_s]
  unfold bes
  by_cases q : h = 0
  · subst q
    have e1 : opn T (nI 0 - nI 1) d = false := by
      unfold opn lvs tld
      rw [if_pos (by decide)]
      rfl
    rw [e1, if_neg (show ¬ false = true by decide), if_neg (show ¬ (0 < 0 ∧ opb T d (0 - 1) = true) by omega)]
    cases opb T d (0 + 1) <;> rfl
  · have e1 : opn T (nI h - nI 1) d = opb T d (h - 1) := by
      rw [pk_sub (by omega)]
      unfold opn opb opd
      rw [lvs_n (by omega) (by omega), nI_clamp (by omega)]
      cases decide (h - 1 < T 0 0) <;> cases (T 0 1).testBit (h - 1) <;> cases (T 1 (h - 1)).testBit d <;> rfl
    rw [e1]
    cases q1 : opb T d (h - 1)
    · rw [if_neg (show ¬ false = true by decide), if_neg (show ¬ (0 < h ∧ false = true) from fun w => absurd w.2 (by decide))]
      cases opb T d (h + 1) <;> rfl
    · rw [if_pos (show true = true from rfl), if_pos (show 0 < h ∧ true = true from ⟨by omega, rfl⟩)]
      cases opb T d (h + 1) <;> rfl
theorem RT.f1 {S' : mS} (hR : RT S 376 T) (e : ∀ k, S'.1 376 k = S.1 376 k) : RT S' 376 T := hR.fr e
theorem x9_name (hF : 40 < F) (hR : RT S 376 T) (hW : Wf T) (hd : day ≤ 100000) (hh : h < T 0 0) : ∃ S', f_X9_name F S 375 (nI h) (nI day) = some S' ∧ (∀ j, j < 8 → S'.1 381 j = nI (nmv T day h j) ∧ nmv T day h j ≤ 1000000) ∧ ∀ u k, u ≠ 381 → S'.1 u k = S.1 u k := by
  have w0 := hW.1
  have s := hW.2.2.2.2.2.1 h hh
  let S2 := sI S 381 0 (nI day)
  let S4 := sI S2 381 1 (nI (day % 20))
  let S6 := sI S4 381 2 (nI h)
  let S9 := sI S6 381 3 (nI (T 2 h))
  let S12 := sI S9 381 4 (nI (T 3 h))
  let S16 := sI S12 381 5 (nI (pcf 20 (T 1 h)))
  let S20 := sI S16 381 6 (nI (fb_ct (opd T (day % 20)) (T 0 0)))
  let S24 := sI S20 381 7 (nI (bes T (day % 20) h))
  have r6 : RT S6 376 T := hR.fr (fun k => rfl)
  have r9 : RT S9 376 T := hR.fr (fun k => rfl)
  have r12 : RT S12 376 T := hR.fr (fun k => rfl)
  have r16 : RT S16 376 T := hR.fr (fun k => rfl)
  have r20 : RT S20 376 T := hR.fr (fun k => rfl)
  have u : f_X9_name F S 375 (nI h) (nI day) = some S24 := by
    have y1 : S16.1 381 1 = nI (day % 20) := rfl
    have y2 : S20.1 381 1 = nI (day % 20) := rfl
    rw [u_X9_name, inb_n (n := 0) (by omega) (by omega), ck_t, nI_clamp (n := 0) (by omega), stp_s, pk_rem (by omega) (by omega) (by omega), inb_n (n := 1) (by omega) (by omega), ck_t, nI_clamp (n := 1) (by omega), stp_s, inb_n (n := 2) (by omega) (by omega), ck_t, nI_clamp (n := 2) (by omega), stp_s]
    show bd (f_X9_get F S6 375 (nI h) (nI 1)) _ = _
    rw [x9_purse r6 hW hh, bd_s, inb_n (n := 3) (by omega) (by omega), ck_t, nI_clamp (n := 3) (by omega), stp_s]
    show bd (f_X9_get F S9 375 (nI h) (nI 2)) _ = _
    rw [x9_friends r9 hW hh, bd_s, inb_n (n := 4) (by omega) (by omega), ck_t, nI_clamp (n := 4) (by omega), stp_s]
    show bd (f_X9_get F S12 375 (nI h) (nI 0)) _ = _
    rw [x9_shut r12 hW hh, bd_s, bits_f (by omega) s.1, bd_s, inb_n (n := 5) (by omega) (by omega), ck_t, nI_clamp (n := 5) (by omega), stp_s, ck_t]
    show bd (f_X9_openOn F S16 375 (S16.1 381 1)) _ = _
    rw [y1, x9_openOn (by omega) r16 hW (by omega), bd_s, inb_n (n := 6) (by omega) (by omega), ck_t, nI_clamp (n := 6) (by omega), stp_s, ck_t]
    show bd (f_X9_besideOn F S20 375 (nI h) (S20.1 381 1)) _ = _
    rw [y2, x9_bes r20 hW hh (by omega), bd_s, inb_n (n := 7) (by omega) (by omega), ck_t, nI_clamp (n := 7) (by omega), stp_s]
    rfl
  refine ⟨S24, u, fun j hj => ⟨?_, nmv_ok hW hd hh j⟩, fun u k hu => ?_⟩
  · rcases (show j = 0 ∨ j = 1 ∨ j = 2 ∨ j = 3 ∨ j = 4 ∨ j = 5 ∨ j = 6 ∨ j = 7 by omega) with rfl | rfl | rfl | rfl | rfl | rfl | rfl | rfl <;> rfl
  · show (sI (sI (sI (sI (sI (sI (sI (sI S 381 0 _) 381 1 _) 381 2 _) 381 3 _) 381 4 _) 381 5 _) 381 6 _) 381 7 _).1 u k = _
    rw [sq_u hu, sq_u hu, sq_u hu, sq_u hu, sq_u hu, sq_u hu, sq_u hu, sq_u hu]
theorem rul_lt {r : Nat} (hr : r ≤ 4) : (rul r < nI 0) = (r = 0) := by
  rcases (show r = 0 ∨ r = 1 ∨ r = 2 ∨ r = 3 ∨ r = 4 by omega) with rfl | rfl | rfl | rfl | rfl <;> decide
theorem x9_clOf (hF : 40 < F) (hL : RLw S r Et) {l : Nat} (hl : l < 3) : (Et 6 l < Et 7 l → ∃ i c, r = i + 1 ∧ c < Et 0 0 ∧ Et 1 c = l ∧ f_X9_clauseOf F S 375 (nI l) = some (nI c)) ∧ (¬ Et 6 l < Et 7 l → f_X9_clauseOf F S 375 (nI l) = some (-1)) := by
  obtain ⟨h2, h4, h0, hs⟩ := hL
  rw [u_X9_clauseOf]
  by_cases q : r = 0
  · refine ⟨fun h => absurd h (h0 q l hl), fun _ => ?_⟩
    obtain ⟨F', rfl⟩ : ∃ F', F = F' + 1 := ⟨F - 1, by omega⟩
    rw [u_X9_clauseOf_2, inb_n (by omega) (by omega), ck_t, nI_clamp (by omega), h2, q, if_pos (by decide)]
  · obtain ⟨i, hi⟩ : ∃ i, r = i + 1 := ⟨r - 1, by omega⟩
    obtain ⟨a1, a2, a3, a4, a5⟩ := hs i hi
    have ru : rul r = nI i := by rw [hi]; exact rul_s i
    have lp := up_s (fun k j => lX9_clauseOf_2 F 375 (nI l) k S (nI j)) (fun j => if Et 1 j = l then some (some (nI j)) else none) (some (-1)) (Et 0 0) (fun k => ?_) (fun k j hj => ?_) F 0 (by omega) (by omega)
    · rw [lp, Nat.sub_zero]
      have sc : ∀ n j, j + n ≤ Et 0 0 → ((∃ c, j ≤ c ∧ c < j + n ∧ Et 1 c = l) → ∃ c, c < Et 0 0 ∧ Et 1 c = l ∧ srch (fun j => if Et 1 j = l then some (some (nI j)) else none) (some (-1)) n j = some (nI c)) ∧ ((∀ c, j ≤ c → c < j + n → Et 1 c ≠ l) → srch (fun j => if Et 1 j = l then some (some (nI j)) else none) (some (-1)) n j = some (-1)) := by
        intro n
        induction n with
        | zero => exact fun j hj => ⟨fun ⟨c, x, y, _⟩ => by omega, fun _ => rfl⟩
        | succ n ih =>
          intro j hj
          by_cases z : Et 1 j = l
          · refine ⟨fun _ => ⟨j, by omega, z, srch_s (if_pos z)⟩, fun w => absurd z (w j (Nat.le_refl _) (by omega))⟩
          · rw [srch_n (if_neg z)]
            obtain ⟨i1, i2⟩ := ih (j + 1) (by omega)
            refine ⟨fun ⟨c, x, y, w⟩ => i1 ⟨c, ?_, (by omega), w⟩, fun w => i2 (fun c x y => w c (by omega) (by omega))⟩
            by_cases e : c = j
            · rw [e] at w; exact absurd w z
            · omega
      obtain ⟨s1, s2⟩ := sc (Et 0 0) 0 (by omega)
      refine ⟨fun hlaw => ?_, fun hlaw => s2 (fun c _ hc w => ?_)⟩
      · obtain ⟨c, hc, e⟩ := (a5 l hl hlaw).2.1
        obtain ⟨c', x, y, z⟩ := s1 ⟨c, Nat.zero_le _, (by omega), e⟩
        exact ⟨i, c', hi, x, y, z⟩
      · have := (a4 c (by omega) (by omega)).1
        rw [w] at this
        exact hlaw this
    · show lX9_clauseOf_2 F 375 (nI l) (k + 1) S _ = _
      rw [u_X9_clauseOf_2, inb_n (n := 2) (by omega) (by omega), ck_t, nI_clamp (n := 2) (by omega), h2, ru, if_neg (show ¬ nI i < nI 0 from nI_pos (by omega)), ck_t, pk_mul, inb_n (n := 705 * i) (by omega) (by omega), ck_t, nI_clamp (n := 705 * i) (by omega), a2, if_pos (nI_le (Nat.le_refl _) (by omega))]
    · show (∀ r, _ → lX9_clauseOf_2 F 375 (nI l) (k + 1) S _ = r) ∧ (_ → lX9_clauseOf_2 F 375 (nI l) (k + 1) S _ = lX9_clauseOf_2 F 375 (nI l) k S (nI (j + 1)))
      have b := (a3 j hj)
      rw [u_X9_clauseOf_2, inb_n (n := 2) (by omega) (by omega), ck_t, nI_clamp (n := 2) (by omega), h2, ru, if_neg (show ¬ nI i < nI 0 from nI_pos (by omega)), ck_t, pk_mul, inb_n (n := 705 * i) (by omega) (by omega), ck_t, nI_clamp (n := 705 * i) (by omega), a2, if_neg (nI_ge hj (by omega)), ck_t, nI_add, pk_mul, nI_add, inb_n (n := 705 * i + 1 + 4 * j) (by omega) (by omega), ck_t, nI_clamp (n := 705 * i + 1 + 4 * j) (by omega), b.2, nI_add]
      simp (disch := omega) only [nI_eq]
      by_cases z : Et 1 j = l
      · rw [if_pos z, if_pos z]
        exact ⟨fun r hr => Option.some.inj hr, fun w => absurd w (by simp)⟩
      · rw [if_neg z, if_neg z]
        exact ⟨fun r hr => absurd hr (by simp), fun _ => rfl⟩
theorem x9_work {nm : Nat → Nat} (hF : 1000 < F) (hL : RLw S r Et) {i c : Nat} (hi : r = i + 1) (hc : c < Et 0 0) {l : Nat} (hl : l < 3) (hcl : Et 1 c = l) (hlaw : Et 6 l < Et 7 l) (hnm : ∀ j, j < 8 → S.1 381 j = nI (nm j) ∧ nm j ≤ 1000000) : ∃ S', f_X9_work F S 375 (nI c) = some S' ∧ (let v := evs nm (Et 5) (Et 7 l - Et 6 l) (Et 6 l) [] []; ln2 v = (if l = 2 then (1, 0) else (0, 1)) ∧ okN v.1 ∧ stB S' 383 v.2 ∧ rtN S' v.1) ∧ Fw S S' := by
  obtain ⟨h2, h4, h0, hs⟩ := hL
  obtain ⟨a1, a2, a3, a4, a5⟩ := hs i hi
  have ru : rul r = nI i := by rw [hi]; exact rul_s i
  obtain ⟨t1, -, ty, code⟩ := a5 l hl hlaw
  have b := a4 c hc (by omega)
  rw [hcl] at b
  obtain ⟨S', u, l2, ok, B, N, f⟩ := r9_run (F := F) (x := 705 * i + 1 + 4 * c) (c := 705 * i + 97) (to := Et 7 l) (a1 := nI c) (nm := nm) (K := Et 5) (by omega) (by omega) (by omega) t1 (Et 7 l - Et 6 l) (Et 6 l) F (S := S) (ns := []) (ts := []) (by omega) (by omega) b.2.2 code hnm ty (Nat.zero_le _) trivial trivial trivial
  refine ⟨S', ?_, ⟨l2, ok, B, N⟩, f⟩
  rw [u_X9_work, inb_n (n := 2) (by omega) (by omega), ck_t, ck_t, nI_clamp (n := 2) (by omega), h2, ru, pk_mul, nI_add, pk_mul, nI_add, nI_add, nI_add, inb_n (n := 705 * i + 1 + 4 * c + 1) (by omega) (by omega), ck_t, nI_clamp (n := 705 * i + 1 + 4 * c + 1) (by omega), b.2.1]
  exact u
theorem c99_9 (S : mS) {z : Int} (hz : inR z) : f_X9_cut S (lZ z) (nI 0) (nI 99) = nI (c99 z) := by
  unfold inR at hz
  rw [u_X9_cut, c0I, show nI 99 = iZ 99 from iZ_n (by decide), iZ_l (by decide) (by decide), iZ_l (by decide) (by decide)]
  have e1 : (lZ z < lZ 0) = (z < 0) := lZ_lt (by omega) (by decide)
  have e2 : (lZ 99 < lZ z) = (99 < z) := lZ_lt (by decide) (by omega)
  simp only [e1, e2]
  unfold c99
  by_cases q : z < 0
  · rw [if_pos q, if_pos q, c0I]
  · rw [if_neg q, if_neg q]
    by_cases q2 : 99 < z
    · rw [if_pos q2, if_pos q2]; exact (iZ_n (by decide)).symm
    · rw [if_neg q2, if_neg q2, lZ_i (by omega) (by omega), iZ_n (by omega)]
      exact congrArg iZ (by omega)
theorem x9_says (hF : 1000 < F) (hL : RLw S r Et) {l : Nat} (hl : l < 2) (hnm : ∀ j, j < 8 → S.1 381 j = nI (nmv T day h j) ∧ nmv T day h j ≤ 1000000) (wo : Nat) : ∃ S', f_X9_says F S 375 (nI l) (nI wo) = some (S', nI (if Et 6 l < Et 7 l then c99 (lawZ Et T l day h) else wo)) ∧ Fw S S' := by
  obtain ⟨c1, c2⟩ := x9_clOf (F := F) (by omega) hL (l := l) (by omega)
  rw [u_X9_says]
  by_cases hlaw : Et 6 l < Et 7 l
  · obtain ⟨i, c, hi, hc, hcl, e⟩ := c1 hlaw
    obtain ⟨S', u, ⟨l2, ok, B, N⟩, f⟩ := x9_work (F := F) hF hL hi hc (l := l) (by omega) hcl hlaw hnm
    have c24 := (hL.2.2.2 i hi).1
    refine ⟨S', ?_, f⟩
    rw [e, bd_s, if_pos (nI_le (by omega) (by omega)), u, bd_s, inb_n (n := 0) (by omega) (by omega), ck_t, nI_clamp (n := 0) (by omega), if_pos hlaw]
    rw [if_neg (show ¬ l = 2 by omega)] at l2
    obtain ⟨y1, y2⟩ := ln2_n l2
    have z1 : S'.2 382 0 = lZ (lawZ Et T l day h) := by
      have N' := N
      rw [y2] at N'
      exact N'.1
    have z2 : inR (lawZ Et T l day h) := by
      have ok' := ok
      rw [y2] at ok'
      exact ok'.1
    rw [z1, c99_9 _ z2]
  · exact ⟨S, by rw [c2 hlaw, bd_s, if_neg (by decide), if_neg hlaw], fun _ _ _ => rfl⟩
theorem x9_earns (hF : 1000 < F) (hR : RT S 376 T) (hW : Wf T) (hL : RLw S r Et) (hd : day ≤ 100000) (hh : h < T 0 0) : ∃ S', f_X9_earnsOn F S 375 (nI h) (nI day) = some (S', nI (ern Et T day h)) ∧ FL S S' := by
  obtain ⟨S1, u1, n1, f1⟩ := x9_name (F := F) (by omega) hR hW hd hh
  obtain ⟨S2, u2, f2⟩ := x9_says (F := F) (T := T) (day := day) (h := h) hF (hL.fr (S' := S1) (fun u k c => f1 u k (by omega))) (l := 0) (by omega) n1 (1 + bes T (day % 20) h)
  refine ⟨S2, ?_, fun u k a b => (f2 u k b).trans (f1 u k a)⟩
  have e7 : S1.1 381 7 = nI (bes T (day % 20) h) := (n1 7 (by omega)).1
  rw [u_X9_earnsOn, u1, bd_s, inb_n (n := 7) (by omega) (by omega), ck_t, nI_clamp (n := 7) (by omega), e7, nI_add, u2, bd_s]
  rfl
theorem x9_loses (hF : 1000 < F) (hR : RT S 376 T) (hW : Wf T) (hL : RLw S r Et) (hh : h < T 0 0) : ∃ S', f_X9_losesOf F S 375 (nI h) = some (S', nI (los Et T (T 0 2) h)) ∧ FL S S' := by
  have w2 := hW.2.2.1
  obtain ⟨S1, u1, n1, f1⟩ := x9_name (F := F) (day := T 0 2) (by omega) hR hW (by omega) hh
  obtain ⟨S2, u2, f2⟩ := x9_says (F := F) (T := T) (day := T 0 2) (h := h) hF (hL.fr (S' := S1) (fun u k c => f1 u k (by omega))) (l := 1) (by omega) n1 2
  refine ⟨S2, ?_, fun u k a b => (f2 u k b).trans (f1 u k a)⟩
  rw [u_X9_losesOf, inb_n (n := 8) (by omega) (by omega), ck_t, nI_clamp (n := 8) (by omega), hR.2.1, u1, bd_s, u2, bd_s]
  rfl
theorem x9_lets (hF : 1000 < F) (hR : RT S 376 T) (hW : Wf T) (hL : RLw S r Et) (hh : h < T 0 0) : ∃ S', f_X9_isLetting F S 375 (nI h) = some (S', lts Et T (T 0 2) h) ∧ FL S S' := by
  have w2 := hW.2.2.1
  have s := hW.2.2.2.2.2.1 h hh
  obtain ⟨c1, c2⟩ := x9_clOf (F := F) (by omega) hL (l := 2) (by omega)
  rw [u_X9_isLetting]
  unfold lts
  by_cases hlaw : Et 6 2 < Et 7 2
  · obtain ⟨i, c, hi, hc, hcl, e⟩ := c1 hlaw
    obtain ⟨S1, u1, n1, f1⟩ := x9_name (F := F) (day := T 0 2) (by omega) hR hW (by omega) hh
    obtain ⟨S', u, ⟨l2, ok, B, N⟩, f⟩ := x9_work (F := F) hF (hL.fr (S' := S1) (fun u k c => f1 u k (by omega))) hi hc (l := 2) (by omega) hcl hlaw n1
    have c24 := (hL.2.2.2 i hi).1
    refine ⟨S', ?_, fun u k a b => (f u k b).trans (f1 u k a)⟩
    have z1 : S'.1 383 0 = bI (lawB Et T 2 (T 0 2) h) := by
      obtain ⟨y1, y2⟩ := ln2_t l2
      have B' := B
      rw [y2] at B'
      exact B'.1
    rw [e, bd_s, if_pos (nI_le (by omega) (by omega)), inb_n (n := 8) (by omega) (by omega), ck_t, nI_clamp (n := 8) (by omega), hR.2.1, u1, bd_s, u, bd_s, inb_n (n := 0) (by omega) (by omega), ck_t, nI_clamp (n := 0) (by omega), z1, if_pos hlaw]
    cases lawB Et T 2 (T 0 2) h <;> rfl
  · refine ⟨S, ?_, FL.rfl' S⟩
    rw [c2 hlaw, bd_s, if_neg (by decide), x9_friends hR hW hh, bd_s, if_neg hlaw]
    by_cases q : T 3 h < 50
    · rw [if_neg (nI_ge q (by omega)), decide_eq_true q]
    · rw [if_pos (nI_le (by omega) (by omega)), decide_eq_false q]
end
