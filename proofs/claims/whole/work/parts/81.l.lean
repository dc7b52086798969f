/-! ===== a day passes ===== -/
def psv (Et T : Tw) (day h : Nat) : Nat := if opb T (day % 20) h = true then min 9999 (T 2 h + ern Et T day h) else if (T 0 1).testBit h = true then T 2 h else T 2 h - los Et T day h
def psF (Et : Tw) (day : Nat) : Nat → Nat → Tw → Tw
  | 0, _, T => T
  | m + 1, i, T => psF Et day m (i + 1) (tu T 2 i (psv Et T day i))
def psT (Et T : Tw) : Tw := tu (psF Et (T 0 2) (T 0 0) 0 T) 0 2 (T 0 2 + 1)
theorem psF_s (Et : Tw) (day m i : Nat) (T : Tw) : psF Et day (m + 1) i T = psF Et day m (i + 1) (tu T 2 i (psv Et T day i)) := rfl
theorem tu_id (T : Tw) (i j : Nat) : tu T i j (T i j) = T := funext fun u => funext fun k => by
  unfold tu
  by_cases h : u = i ∧ k = j
  · rw [if_pos h, h.1, h.2]
  · rw [if_neg h]
theorem psv_le {Et T : Tw} (hW : Wf T) (day : Nat) {h : Nat} (hh : h < T 0 0) : psv Et T day h ≤ 9999 := by
  have s := hW.2.2.2.2.2.1 h hh
  unfold psv
  split
  · exact Nat.min_le_left _ _
  · split <;> omega
theorem psF_k (Et : Tw) (day : Nat) (m : Nat) : ∀ (i : Nat) {T : Tw}, i + m ≤ T 0 0 → Wf T → Wf (psF Et day m i T) ∧ (∀ k, psF Et day m i T 0 k = T 0 k) ∧ (∀ k, psF Et day m i T 1 k = T 1 k) ∧ (∀ k, psF Et day m i T 3 k = T 3 k) ∧ (∀ k, psF Et day m i T 4 k = T 4 k) := by
  induction m with
  | zero => exact fun i {T} _ hW => ⟨hW, fun _ => rfl, fun _ => rfl, fun _ => rfl, fun _ => rfl⟩
  | succ m ih =>
    intro i T hi hW
    rw [psF_s]
    obtain ⟨a, b, c, d, e⟩ := ih (i + 1) (T := tu T 2 i (psv Et T day i)) (show i + 1 + m ≤ T 0 0 by omega) (hW.purse (psv_le hW day (show i < T 0 0 by omega)))
    exact ⟨a, b, c, d, e⟩
theorem psT_k (Et : Tw) {T : Tw} (hW : Wf T) (hd : T 0 2 < 9999) : Wf (psT Et T) ∧ psT Et T 0 0 = T 0 0 ∧ psT Et T 0 2 = T 0 2 + 1 ∧ psT Et T 0 1 = T 0 1 ∧ psT Et T 0 3 = T 0 3 ∧ psT Et T 0 4 = T 0 4 ∧ (∀ k, psT Et T 1 k = T 1 k) ∧ (∀ k, psT Et T 3 k = T 3 k) ∧ (∀ k, psT Et T 4 k = T 4 k) := by
  obtain ⟨a, b, c, d, e⟩ := psF_k Et (T 0 2) (T 0 0) 0 (T := T) (by omega) hW
  exact ⟨a.day (by omega), b 0, rfl, b 1, b 3, b 4, c, d, e⟩
def FtT (t : Nat) (S S' : mS) : Prop := ∀ u k, ¬ (t ≤ u ∧ u ≤ t + 4) → ¬ (37 ≤ u ∧ u ≤ 39) → S'.1 u k = S.1 u k
theorem FtT.rfl' (t : Nat) (S : mS) : FtT t S S := fun _ _ _ _ => rfl
theorem FtT.trans {t : Nat} {S S1 S2 : mS} (h : FtT t S S1) (h2 : FtT t S1 S2) : FtT t S S2 := fun u k a b => (h2 u k a b).trans (h u k a b)
theorem Flaw.ft {t : Nat} {S S' : mS} (h : Flaw S S') : FtT t S S' := fun u k _ b => h u k b
theorem ftt_sI {S : mS} {t c k : Nat} {v : Int32} (h : t ≤ c ∧ c ≤ t + 4) : FtT t S (sI S c k v) := fun u j a b => sq_u (by omega)
theorem CT.law {S S' : mS} {t : Nat} {T : Tw} (ht : 40 ≤ t) (h : CT S t T) (f : Flaw S S') : CT S' t T := h.fr (fun u k a b => f u k (by omega))
theorem imax_sub {a b : Nat} (ha : a < 2 ^ 30) (hb : b < 2 ^ 30) : imax (nI 0) (nI a - nI b) = nI (a - b) := by
  unfold imax
  by_cases q : b < a
  · rw [pk_sub (by omega), if_pos (nI_lt (by omega) (by omega))]
  · have e := pk_sub_toInt ha hb
    rw [if_neg, show a - b = 0 by omega]
    rw [Int32.lt_iff_toInt_lt, e, show (nI 0).toInt = 0 from by decide]
    omega
def c9k (z : Int) : Nat := if z < 0 then 0 else if 9999 < z then 9999 else z.toNat
theorem cutz (S : mS) {z : Int} {t : Nat} (ht : t ≤ 9999) (h1 : -1000000 ≤ z) (h2 : z ≤ 1000000) : f_X9_cut S (Int32.toInt64 (iZ z)) (nI 0) (nI t) = nI (if z < 0 then 0 else if (t : Int) < z then t else z.toNat) := by
  rw [u_X9_cut, c0I, show nI t = iZ t from iZ_n (by omega), iZ_l (z := 0) (by decide) (by decide), iZ_l (z := (t : Int)) (by omega) (by omega), iZ_l (z := z) (by omega) (by omega)]
  have e1 : (lZ z < lZ 0) = (z < 0) := lZ_lt (by omega) (by decide)
  have e2 : (lZ t < lZ z) = ((t : Int) < z) := lZ_lt (by omega) (by omega)
  simp only [e1, e2]
  by_cases q : z < 0
  · rw [if_pos q, if_pos q, c0I]
  · rw [if_neg q, if_neg q]
    by_cases q2 : (t : Int) < z
    · rw [if_pos q2, if_pos q2, iZ_n (by omega)]
    · rw [if_neg q2, if_neg q2, lZ_i (by omega) (by omega), iZ_n (by omega)]
      exact congrArg iZ (by omega)
theorem iZ_addn {a : Nat} {z : Int} (ha : a ≤ 1000000) (hz : inR z) : nI a + iZ z = iZ (a + z) := by
  unfold inR at hz
  rw [iZ_n (by omega)]
  refine iZ_x ?_
  rw [fb_addI] <;> rw [iZ_t (by omega) (by omega), iZ_t (by omega) (by omega)] <;> omega
section
variable {F : Nat} {Et : Tw}
theorem x3_pass (hF : 1000 < F) {t q day : Nat} (ht : 40 ≤ t) (hq : q ≤ 33) (hdd : day ≤ 9999) (m : Nat) : ∀ (k i : Nat) {S : mS} {T : Tw}, i + m = T 0 0 → m < k → CT S t T → Wf T → T 0 2 = day → LK S T day → CL S q Et → ∃ S', lX3_passDay_11 F 37 q t k S (nI i) = some S' ∧ CT S' t (tu (psF Et day m i T) 0 2 (day + 1)) ∧ FtT t S S' := by
  induction m with
  | zero =>
    intro k i S T hi hk hC hW hday hL hE
    obtain ⟨k, rfl⟩ : ∃ k', k = k' + 1 := ⟨k - 1, by omega⟩
    have w0 := hW.1
    refine ⟨_, ?_, hC.day (v := day + 1), ftt_sI (by omega)⟩
    rw [u_X3_passDay_11, hC.1, if_pos (nI_le (by omega) (by omega)), stp_s, hC.2.2.1, hday, nI_add]
  | succ m ih =>
    intro k i S T hi hk hC hW hday hL hE
    obtain ⟨k, rfl⟩ : ∃ k', k = k' + 1 := ⟨k - 1, by omega⟩
    have w0 := hW.1
    have hi' : i < T 0 0 := by omega
    have s := hW.2.2.2.2.2.1 i hi'
    have c2 : S.1 (t + 2) i = nI (T 2 i) := hC.2.2.2.2.2.2.1 i hi'
    rw [psF_s]
    have pv := psv_le (Et := Et) hW day hi'
    have go : ∀ S1 v, lX3_passDay_11 F 37 q t (k + 1) S (nI i) = lX3_passDay_11 F 37 q t k (sI S1 (t + 2) i (nI v)) (nI (i + 1)) → v = psv Et T day i → LK S1 T day → Flaw S S1 → ∃ S', lX3_passDay_11 F 37 q t (k + 1) S (nI i) = some S' ∧ CT S' t (tu (psF Et day m (i + 1) (tu T 2 i (psv Et T day i))) 0 2 (day + 1)) ∧ FtT t S S' := fun S1 v h1 hv lk f => by
      subst hv
      have hC1 := (hC.law ht f).purse (g := i) (v := psv Et T day i)
      have lk1 : LK (sI S1 (t + 2) i (nI (psv Et T day i))) (tu T 2 i (psv Et T day i)) day := ⟨(sq_u (by omega)).trans lk.1, (sq_u (by omega)).trans lk.2.1, (sq_u (by omega)).trans lk.2.2.1, (sq_u (by omega)).trans lk.2.2.2⟩
      have e1 : CL (sI S1 (t + 2) i (nI (psv Et T day i))) q Et := hE.fr hq (fun u k hu => (sq_u (by omega)).trans (f u k (by omega)))
      obtain ⟨S', u, c, ff⟩ := ih k (i + 1) (T := tu T 2 i (psv Et T day i)) (show i + 1 + m = T 0 0 by omega) (by omega) hC1 (hW.purse pv) hday lk1 e1
      exact ⟨S', h1.trans u, c, (f.ft.trans (ftt_sI (by omega))).trans ff⟩
    have eo := x3_isOpen (S := S) hL hW (show i < 32 by omega)
    by_cases q1 : opb T (day % 20) i = true
    · obtain ⟨S1, u1, lk, f⟩ := x3_earn (F := F) hF ht hC hW hL (by omega) hq hE hi'
      have el := ern_le Et T day i
      refine go S1 (min 9999 (T 2 i + ern Et T day i)) ?_ (by unfold psv; rw [if_pos q1]) lk f
      rw [u_X3_passDay_11, hC.1, if_neg (nI_ge hi' (by omega)), eo, q1, if_pos rfl, inb_n (n := i) (by omega) (by omega), ck_t, u1, bd_s, ck_t, nI_clamp (n := i) (by omega), c2, nI_add, imin_n (by omega) (by omega), stp_s, nI_add]
    · have eo' : opb T (day % 20) i = false := by
        cases h : opb T (day % 20) i
        · rfl
        · exact absurd h q1
      by_cases q2 : (T 0 1).testBit i = true
      · have e0 : psv Et T day i = T 2 i := by unfold psv; rw [if_neg q1, if_pos q2]
        rw [e0, tu_id]
        obtain ⟨S', u, c, ff⟩ := ih k (i + 1) (T := T) (by omega) (by omega) hC hW hday hL hE
        refine ⟨S', ?_, c, ff⟩
        rw [u_X3_passDay_11, hC.1, if_neg (nI_ge hi' (by omega)), eo, eo', if_neg (by decide), x6_livesn hC hW hi', q2, if_neg (by decide), nI_add]
        exact u
      · have q2' : (T 0 1).testBit i = false := by
          cases h : (T 0 1).testBit i
          · rfl
          · exact absurd h q2
        obtain ⟨S1, u1, lk, f⟩ := x3_lost (F := F) hF ht hC hW hL (by omega) hq hE hi'
        have el := los_le Et T day i
        refine go S1 (T 2 i - los Et T day i) ?_ (by unfold psv; rw [if_neg q1, if_neg q2]) lk f
        rw [u_X3_passDay_11, hC.1, if_neg (nI_ge hi' (by omega)), eo, eo', if_neg (by decide), x6_livesn hC hW hi', q2', if_pos (by decide), inb_n (n := i) (by omega) (by omega), ck_t, u1, bd_s, ck_t, nI_clamp (n := i) (by omega), c2, imax_sub (by omega) (by omega), stp_s, nI_add]
theorem x3_day (hF : 1000 < F) {t q : Nat} (ht : 40 ≤ t) (hq : q ≤ 33) {S : mS} {T : Tw} (hC : CT S t T) (hW : Wf T) (hE : CL S q Et) : ∃ S', f_X3_passDay F S 37 q t = some S' ∧ CT S' t (psT Et T) ∧ FtT t S S' := by
  have w0 := hW.1
  have w2 := hW.2.2.1
  obtain ⟨S1, u1, lk, f⟩ := x3_look (F := F) (by omega) ht hC hW (show T 0 2 < 2 ^ 30 by omega)
  obtain ⟨S', u, c, ff⟩ := x3_pass (F := F) (Et := Et) (q := q) hF ht hq w2 (T 0 0) F 0 (by omega) (by omega) (hC.law ht f) hW rfl lk (hE.fr hq (fun u k hu => f u k (by omega)))
  exact ⟨S', by rw [u_X3_passDay, hC.2.2.1, u1, bd_s, u], c, f.ft.trans ff⟩
/-- what the reference leaves alone as a day passes -/
def Fp (S S' : mS) : Prop := ∀ u k, u ≠ 381 → u ≠ 383 → ¬ (u = 376 ∧ (k = 8 ∨ (12 ≤ k ∧ k < 68 ∧ (k - 12) % 8 = 1))) → S'.1 u k = S.1 u k
theorem Fp.rfl' (S : mS) : Fp S S := fun _ _ _ _ _ => rfl
theorem Fp.trans {S S1 S2 : mS} (h : Fp S S1) (h2 : Fp S1 S2) : Fp S S2 := fun u k a b c => (h2 u k a b c).trans (h u k a b c)
theorem FL.fp {S S' : mS} (h : FL S S') : Fp S S' := fun u k a b _ => h u k a b
theorem Fp.fq {S S' : mS} (h : Fp S S') : Fq S S' := ⟨fun u k c => h u k (by omega) (by omega) (by omega), fun k c => h _ _ (by omega) (by omega) (by omega)⟩
theorem x9_pass7 (hF : 1000 < F) {r day : Nat} (hdd : day ≤ 9999) (m : Nat) : ∀ (k i : Nat) {S : mS} {T : Tw}, i + m = T 0 0 → m < k → RT S 376 T → Wf T → T 0 2 = day → RLw S r Et → ∃ S', lX9_pass_7 F 375 k S (nI (day % 20)) (nI i) = some S' ∧ RT S' 376 (tu (psF Et day m i T) 0 2 (day + 1)) ∧ Fp S S' := by
  induction m with
  | zero =>
    intro k i S T hi hk hR hW hday hL
    obtain ⟨k, rfl⟩ : ∃ k', k = k' + 1 := ⟨k - 1, by omega⟩
    have w0 := hW.1
    refine ⟨_, ?_, hR.day (v := day + 1), fun u k a b c => sq_off (by omega)⟩
    rw [u_X9_pass_7, inb_n (n := 0) (by omega) (by omega), ck_t, nI_clamp (n := 0) (by omega), hR.1, if_pos (nI_le (by omega) (by omega)), inb_n (n := 8) (by omega) (by omega), ck_t, ck_t, nI_clamp (n := 8) (by omega), hR.2.1, hday, stp_s, nI_add]
  | succ m ih =>
    intro k i S T hi hk hR hW hday hL
    obtain ⟨k, rfl⟩ : ∃ k', k = k' + 1 := ⟨k - 1, by omega⟩
    have w0 := hW.1
    have hi' : i < T 0 0 := by omega
    have s := hW.2.2.2.2.2.1 i hi'
    rw [psF_s]
    have pv := psv_le (Et := Et) hW day hi'
    have d20 : day % 20 < 32 := by omega
    have eo : opb T (day % 20) i = opd T (day % 20) i := by unfold opb; rw [decide_eq_true hi', Bool.true_and]
    have go : ∀ S1 (z : Int), (-200 ≤ z ∧ z ≤ 200) → lX9_pass_7 F 375 (k + 1) S (nI (day % 20)) (nI i) = lX9_pass_64 F (fun (S : mS) (v1 : Int32) (v2 : Int32) => lX9_pass_7 F 375 k S v1 v2) 375 S1 (nI (day % 20)) (nI i) (iZ z) → (if (T 2 i : Int) + z < 0 then 0 else if (9999 : Int) < T 2 i + z then 9999 else ((T 2 i : Int) + z).toNat) = psv Et T day i → FL S S1 → ∃ S', lX9_pass_7 F 375 (k + 1) S (nI (day % 20)) (nI i) = some S' ∧ RT S' 376 (tu (psF Et day m (i + 1) (tu T 2 i (psv Et T day i))) 0 2 (day + 1)) ∧ Fp S S' := fun S1 z hz h1 hv f => by
      have hR1 : RT S1 376 T := hR.fr (fun k => f _ _ (by decide) (by decide))
      have hR2 := hR1.purse (g := i) (v := psv Et T day i) (by omega)
      obtain ⟨S', u, c, ff⟩ := ih k (i + 1) (T := tu T 2 i (psv Et T day i)) (show i + 1 + m = T 0 0 by omega) (by omega) hR2 (hW.purse pv) hday (hL.fr (fun u k c => (sq_off (by omega)).trans (f u k (by omega) (by omega))))
      refine ⟨S', ?_, c, f.fp.trans (Fp.trans (fun u k a b c => sq_off (by omega)) ff)⟩
      rw [h1, u_X9_pass_64, x9_purse hR1 hW hi', bd_s, iZ_addn (by omega) ⟨by omega, by omega⟩, cutz _ (Nat.le_refl _) (by omega) (by omega), show ((9999 : Nat) : Int) = 9999 from rfl, hv, x9_put _ _ (by omega) (by omega), bd_s, nI_add]
      exact u
    cases qg : (T 0 1).testBit i
    · cases qs : (T 1 i).testBit (day % 20)
      · have q1 : opb T (day % 20) i = true := by rw [eo]; unfold opd; rw [qg, qs]; rfl
        obtain ⟨S1, u1, f⟩ := x9_earns (F := F) hF hR hW hL (show day ≤ 100000 by omega) hi'
        have el := ern_le Et T day i
        refine go S1 (ern Et T day i) ⟨by omega, by omega⟩ ?_ ?_ f
        · rw [u_X9_pass_7, inb_n (n := 0) (by omega) (by omega), ck_t, nI_clamp (n := 0) (by omega), hR.1, if_neg (nI_ge hi' (by omega)), x9_gone hR hW hi', bd_s, qg, if_neg (by decide), x9_shut hR hW hi', bd_s, x9_has S (by omega) d20, qs, if_neg (by decide), inb_n (n := 8) (by omega) (by omega), ck_t, nI_clamp (n := 8) (by omega), hR.2.1, hday, u1, bd_s, iZ_n (by omega)]
        · unfold psv
          rw [if_pos q1, if_neg (by omega)]
          by_cases z : (9999 : Int) < T 2 i + ern Et T day i
          · rw [if_pos z, Nat.min_eq_left (by omega)]
          · rw [if_neg z, Nat.min_eq_right (by omega)]; omega
      · have q1 : ¬ opb T (day % 20) i = true := by rw [eo]; unfold opd; rw [qg, qs]; decide
        obtain ⟨S1, u1, f⟩ := x9_loses (F := F) hF hR hW hL hi'
        rw [hday] at u1
        have el := los_le Et T day i
        refine go S1 (-(los Et T day i : Int)) ⟨by omega, by omega⟩ ?_ ?_ f
        · rw [u_X9_pass_7, inb_n (n := 0) (by omega) (by omega), ck_t, nI_clamp (n := 0) (by omega), hR.1, if_neg (nI_ge hi' (by omega)), x9_gone hR hW hi', bd_s, qg, if_neg (by decide), x9_shut hR hW hi', bd_s, x9_has S (by omega) d20, qs, if_pos rfl, u1, bd_s, iZ_n (by omega), iZ_neg ⟨by omega, by omega⟩]
        · unfold psv
          rw [if_neg q1, qg, if_neg (show ¬ false = true by decide)]
          by_cases z : (T 2 i : Int) + -(los Et T day i : Int) < 0
          · rw [if_pos z]; omega
          · rw [if_neg z, if_neg (by omega)]; omega
    · have q1 : ¬ opb T (day % 20) i = true := by rw [eo]; unfold opd; rw [qg, Bool.not_true, Bool.and_false]; decide
      have e0 : psv Et T day i = T 2 i := by unfold psv; rw [if_neg q1, if_pos qg]
      rw [e0, tu_id]
      obtain ⟨S', u, c, ff⟩ := ih k (i + 1) (T := T) (by omega) (by omega) hR hW hday hL
      refine ⟨S', ?_, c, ff⟩
      rw [u_X9_pass_7, inb_n (n := 0) (by omega) (by omega), ck_t, nI_clamp (n := 0) (by omega), hR.1, if_neg (nI_ge hi' (by omega)), x9_gone hR hW hi', bd_s, qg, if_pos rfl, nI_add]
      exact u
theorem x9_pass (hF : 1000 < F) {r : Nat} {S : mS} {T : Tw} (hR : RT S 376 T) (hW : Wf T) (hL : RLw S r Et) : ∃ S', f_X9_pass F S 375 = some S' ∧ RT S' 376 (psT Et T) ∧ Fp S S' := by
  have w0 := hW.1
  have w2 := hW.2.2.1
  obtain ⟨S', u, c, ff⟩ := x9_pass7 (F := F) (Et := Et) hF w2 (T 0 0) F 0 (by omega) (by omega) hR hW rfl hL
  exact ⟨S', by rw [u_X9_pass, x9_date hR hW, bd_s, u], c, ff⟩
end
