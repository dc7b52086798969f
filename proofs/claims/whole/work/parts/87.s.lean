/-! ===== richest, whose ===== -/
def eoV (Et T : Tw) (day : Nat) (h : Nat) : Nat := if opb T (day % 20) h = true then ern Et T day h else 0
def eoS (Et T : Tw) (day : Nat) : Nat := fb_sm (eoV Et T day) (T 0 0)
theorem eoV_le (Et T : Tw) (day h : Nat) : eoV Et T day h ≤ 99 := by
  unfold eoV
  split
  · exact ern_le _ _ _ _
  · omega
theorem eo_le (Et T : Tw) (hW : Wf T) (day i : Nat) (hi : i ≤ T 0 0) : fb_sm (eoV Et T day) i ≤ 700 := by
  have w0 := hW.1
  have := fb_sm_bound (f := eoV Et T day) (c := 99) (n := i) (fun k _ => eoV_le Et T day k)
  omega
def dyA (T : Tw) (d : Nat) : Nat := T 0 2 + (d + 20 - T 0 2 % 20) % 20
theorem dyA_m (T : Tw) {d : Nat} (hd : d < 20) : dyA T d % 20 = d := by
  unfold dyA
  omega
theorem sub_add3 {a b c : Nat} (h : b ≤ a + c) : nI a - nI b + nI c = nI (a + c - b) := by
  rw [Int32.sub_eq_add_neg, Int32.add_assoc, Int32.add_comm (-nI b), ← Int32.add_assoc, ← Int32.sub_eq_add_neg, nI_add, pk_sub h]
section
variable {F : Nat} {E : Nat → Tw} {r n : Nat} {T : Tw}
theorem x8_eo26 (hF : 3000 < F) (hW : Wf T) {a1 : Int32} {day : Nat} (hd : day ≤ 100000) (m : Nat) : ∀ (i k : Nat) {S : mS}, i + m = T 0 0 → m < k → CT S 41 T → LK S T day → WX S E r n → ∃ S', lX8_earnedOn_41 F 0 a1 k S (nI (fb_sm (eoV (tx E r) T day) i)) (nI i) = some (S', nI (eoS (tx E r) T day)) ∧ Flaw S S' := by
  have w0 := hW.1
  induction m with
  | zero =>
    intro i k S hi hk hC hL hX
    obtain ⟨k, rfl⟩ : ∃ k', k = k' + 1 := ⟨k - 1, by omega⟩
    have c5 : S.1 41 5 = nI (T 0 0) := hC.1
    exact ⟨S, by rw [u_X8_earnedOn_41, c5, if_pos (nI_le (by omega) (by omega)), show i = T 0 0 by omega]; rfl, Flaw.rfl' S⟩
  | succ m ih =>
    intro i k S hi hk hC hL hX
    obtain ⟨k, rfl⟩ : ∃ k', k = k' + 1 := ⟨k - 1, by omega⟩
    have c5 : S.1 41 5 = nI (T 0 0) := hC.1
    have hi' : i < T 0 0 := by omega
    by_cases q : opb T (day % 20) i = true
    · obtain ⟨cl, ct⟩ := CL.of hX.2.2.1 hX.2.2.2.1 hX.2.2.2.2
      obtain ⟨S1, u1, lk, f1⟩ := x3_earn (F := F) (by omega) (show 40 ≤ 41 by decide) hC hW hL hd ct cl hi'
      obtain ⟨S2, u2, f2⟩ := ih (i + 1) k (by omega) (by omega) (hC.law (by decide) f1) lk (hX.law f1)
      refine ⟨S2, ?_, f1.trans f2⟩
      have e : eoV (tx E r) T day i = ern (tx E r) T day i := if_pos q
      rw [u_X8_earnedOn_41, c5, if_neg (nI_ge hi' (by omega)), x3_isOpen hL hW (by omega), q, if_pos rfl, x8_rule hX, bd_s, u1, bd_s, nI_add, nI_add, ← e, ← fb_sm_succ, u2]
    · obtain ⟨S2, u2, f2⟩ := ih (i + 1) k (by omega) (by omega) hC hL hX
      refine ⟨S2, ?_, f2⟩
      have e : eoV (tx E r) T day i = 0 := if_neg q
      rw [fb_sm_succ, e, Nat.add_zero] at u2
      rw [u_X8_earnedOn_41, c5, if_neg (nI_ge hi' (by omega)), x3_isOpen hL hW (by omega), if_neg q, nI_add, u2]
theorem x8_eo (hF : 3000 < F) (hW : Wf T) {d : Nat} (hd : d < 20) {S : mS} (hC : CT S 41 T) (hX : WX S E r n) : ∃ S', f_X8_earnedOn F S 0 (nI d) = some (S', nI (eoS (tx E r) T (dyA T d))) ∧ Flaw S S' := by
  have w0 := hW.1
  have w2 := hW.2.2.1
  have c7 : S.1 41 7 = nI (T 0 2) := hC.2.2.1
  have db : dyA T d ≤ 20000 := by unfold dyA; omega
  obtain ⟨S1, u1, lk, f1⟩ := x3_look (F := F) (day := dyA T d) (by omega) (show 40 ≤ 41 by decide) hC hW (by omega)
  obtain ⟨S2, u2, f2⟩ := x8_eo26 (F := F) (E := E) (r := r) (n := n) (a1 := nI d) hF hW (day := dyA T d) (by omega) (T 0 0) 0 F (by omega) (by omega) (hC.law (by decide) f1) lk (hX.law f1)
  refine ⟨S2, ?_, f1.trans f2⟩
  rw [u_X8_earnedOn, x6_date hC hW, c7, sub_add3 (by omega), pk_rem (by omega) (by omega) (by omega), nI_add]
  show bd (f_X3_lookAt F S 37 41 (nI (dyA T d))) _ = _
  rw [u1, bd_s]
  exact u2
theorem x9_eo26 {Et : Tw} (hF : 3000 < F) (hW : Wf T) {d day : Nat} (hd : day ≤ 100000) (hdd : day % 20 = d) (m : Nat) : ∀ (i k : Nat) {S : mS}, i + m = T 0 0 → m < k → RT S 376 T → RLw S r Et → ∃ S', lX9_earnedOn_26 F 375 (nI d) k S (nI day) (nI (fb_sm (eoV Et T day) i)) (nI i) = some (S', nI (eoS Et T day)) ∧ FL S S' := by
  have w0 := hW.1
  induction m with
  | zero =>
    intro i k S hi hk hR hL
    obtain ⟨k, rfl⟩ : ∃ k', k = k' + 1 := ⟨k - 1, by omega⟩
    exact ⟨S, by rw [u_X9_earnedOn_26, inb_n (n := 0) (by omega) (by omega), ck_t, nI_clamp (n := 0) (by omega), hR.1, if_pos (nI_le (by omega) (by omega)), show i = T 0 0 by omega]; rfl, FL.rfl' S⟩
  | succ m ih =>
    intro i k S hi hk hR hL
    obtain ⟨k, rfl⟩ : ∃ k', k = k' + 1 := ⟨k - 1, by omega⟩
    have hi' : i < T 0 0 := by omega
    have eo : opb T (day % 20) i = (!(T 1 i).testBit d && !(T 0 1).testBit i) := by
      unfold opb opd
      rw [decide_eq_true hi', Bool.true_and, hdd]
    by_cases q : opb T (day % 20) i = true
    · obtain ⟨S1, u1, f1⟩ := x9_earns (F := F) (day := day) (by omega) hR hW hL hd hi'
      obtain ⟨S2, u2, f2⟩ := ih (i + 1) k (by omega) (by omega) (hR.fr (fun k => f1 _ _ (by decide) (by decide))) (hL.fr (fun u k c => f1 u k (by omega) (by omega)))
      refine ⟨S2, ?_, f1.trans f2⟩
      have e : eoV Et T day i = ern Et T day i := if_pos q
      rw [u_X9_earnedOn_26, inb_n (n := 0) (by omega) (by omega), ck_t, nI_clamp (n := 0) (by omega), hR.1, if_neg (nI_ge hi' (by omega)), x9_isOpenn hR hW hi' (by omega), ← eo, q, bd_s, if_pos rfl, u1, bd_s, nI_add, nI_add, ← e, ← fb_sm_succ, u2]
    · obtain ⟨S2, u2, f2⟩ := ih (i + 1) k (by omega) (by omega) hR hL
      refine ⟨S2, ?_, f2⟩
      have e : eoV Et T day i = 0 := if_neg q
      rw [fb_sm_succ, e] at u2
      rw [u_X9_earnedOn_26, inb_n (n := 0) (by omega) (by omega), ck_t, nI_clamp (n := 0) (by omega), hR.1, if_neg (nI_ge hi' (by omega)), x9_isOpenn hR hW hi' (by omega), ← eo, bd_s, if_neg q, nI_add, nI_add, u2]
theorem x9_eo {Et : Tw} (hF : 3000 < F) (hW : Wf T) {d : Nat} (hd : d < 20) {S : mS} (hR : RT S 376 T) (hL : RLw S r Et) : ∃ S', f_X9_earnedOn F S 375 (nI d) = some (S', nI (eoS Et T (dyA T d))) ∧ FL S S' := by
  have w0 := hW.1
  have w2 := hW.2.2.1
  have db : dyA T d ≤ 20000 := by unfold dyA; omega
  obtain ⟨S2, u2, f2⟩ := x9_eo26 (F := F) (Et := Et) (r := r) hF hW (d := d) (day := dyA T d) (by omega) (dyA_m T hd) (T 0 0) 0 F (by omega) (by omega) hR hL
  refine ⟨S2, ?_, f2⟩
  rw [u_X9_earnedOn, inb_n (n := 8) (by omega) (by omega), ck_t, nI_clamp (n := 8) (by omega), x9_date hR hW, bd_s, hR.2.1, sub_add3 (by omega), pk_rem (by omega) (by omega) (by omega), nI_add]
  exact u2
/-- the first of the most -/
def bsS (e : Nat → Nat) : Nat → Nat → Nat → Nat
  | 0, _, b => b
  | m + 1, i, b => bsS e m (i + 1) (if e i ≤ e b then b else i)
theorem x8_ri (hF : 3000 < F) (hW : Wf T) {a : Int32} (m : Nat) : ∀ (i k b : Nat) {S : mS}, i + m = 20 → m < k → b < 20 → CT S 41 T → WX S E r n → ∃ S', lX8_richest_7 F 0 a k S (nI b) (nI (eoS (tx E r) T (dyA T b))) (nI i) = some (S', if a = nI 0 then nI (bsS (fun d => eoS (tx E r) T (dyA T d)) m i b) else nI (eoS (tx E r) T (dyA T (bsS (fun d => eoS (tx E r) T (dyA T d)) m i b)))) ∧ Flaw S S' := by
  induction m with
  | zero =>
    intro i k b S hi hk hb hC hX
    obtain ⟨k, rfl⟩ : ∃ k', k = k' + 1 := ⟨k - 1, by omega⟩
    refine ⟨S, ?_, Flaw.rfl' S⟩
    rw [u_X8_richest_7, if_pos (nI_le (by omega) (by omega))]
    by_cases z : a = nI 0
    · rw [if_pos z, if_pos z]; rfl
    · rw [if_neg z, if_neg z]; rfl
  | succ m ih =>
    intro i k b S hi hk hb hC hX
    obtain ⟨k, rfl⟩ : ∃ k', k = k' + 1 := ⟨k - 1, by omega⟩
    have x1 := eo_le (tx E r) T hW (dyA T i) (T 0 0) (Nat.le_refl _)
    have x2 := eo_le (tx E r) T hW (dyA T b) (T 0 0) (Nat.le_refl _)
    obtain ⟨S1, u1, f1⟩ := x8_eo (F := F) hF hW (show i < 20 by omega) hC hX
    have e : lX8_richest_7 F 0 a (k + 1) S (nI b) (nI (eoS (tx E r) T (dyA T b))) (nI i) = if eoS (tx E r) T (dyA T i) ≤ eoS (tx E r) T (dyA T b) then lX8_richest_7 F 0 a k S1 (nI b) (nI (eoS (tx E r) T (dyA T b))) (nI (i + 1)) else lX8_richest_7 F 0 a k S1 (nI i) (nI (eoS (tx E r) T (dyA T i))) (nI (i + 1)) := by
      rw [u_X8_richest_7, if_neg (nI_ge (by omega) (by omega)), u1, bd_s, nI_add]
      have x1' : eoS (tx E r) T (dyA T i) ≤ 700 := x1
      have x2' : eoS (tx E r) T (dyA T b) ≤ 700 := x2
      simp (disch := omega) only [nI_leI]
    by_cases q : eoS (tx E r) T (dyA T i) ≤ eoS (tx E r) T (dyA T b)
    · obtain ⟨S2, u2, f2⟩ := ih (i + 1) k b (by omega) (by omega) hb (hC.law (by decide) f1) (hX.law f1)
      refine ⟨S2, ?_, f1.trans f2⟩
      rw [e, if_pos q, u2]
      show _ = some (S2, if a = nI 0 then nI (bsS _ m (i + 1) (if _ ≤ _ then b else i)) else nI (eoS _ T (dyA T (bsS _ m (i + 1) (if _ ≤ _ then b else i)))))
      rw [if_pos q]
    · obtain ⟨S2, u2, f2⟩ := ih (i + 1) k i (by omega) (by omega) (by omega) (hC.law (by decide) f1) (hX.law f1)
      refine ⟨S2, ?_, f1.trans f2⟩
      rw [e, if_neg q, u2]
      show _ = some (S2, if a = nI 0 then nI (bsS _ m (i + 1) (if _ ≤ _ then b else i)) else nI (eoS _ T (dyA T (bsS _ m (i + 1) (if _ ≤ _ then b else i)))))
      rw [if_neg q]
theorem x9_ri {Et : Tw} (hF : 3000 < F) (hW : Wf T) {a : Int32} (m : Nat) : ∀ (i k b : Nat) {S : mS}, i + m = 20 → m < k → b < 20 → RT S 376 T → RLw S r Et → ∃ S', lX9_richest_4 F 375 a k S (nI b) (nI i) = some (S', if a = nI 0 then nI (bsS (fun d => eoS Et T (dyA T d)) m i b) else nI (eoS Et T (dyA T (bsS (fun d => eoS Et T (dyA T d)) m i b)))) ∧ FL S S' := by
  induction m with
  | zero =>
    intro i k b S hi hk hb hR hL
    obtain ⟨k, rfl⟩ : ∃ k', k = k' + 1 := ⟨k - 1, by omega⟩
    rw [u_X9_richest_4, if_pos (nI_le (by omega) (by omega))]
    by_cases z : a = nI 0
    · exact ⟨S, by rw [if_pos z, if_pos z]; rfl, FL.rfl' S⟩
    · obtain ⟨S1, u1, f1⟩ := x9_eo (F := F) hF hW hb hR hL
      exact ⟨S1, by rw [if_neg z, if_neg z, u1, bd_s]; rfl, f1⟩
  | succ m ih =>
    intro i k b S hi hk hb hR hL
    obtain ⟨k, rfl⟩ : ∃ k', k = k' + 1 := ⟨k - 1, by omega⟩
    have x1 := eo_le Et T hW (dyA T i) (T 0 0) (Nat.le_refl _)
    have x2 := eo_le Et T hW (dyA T b) (T 0 0) (Nat.le_refl _)
    obtain ⟨S1, u1, f1⟩ := x9_eo (F := F) hF hW (show i < 20 by omega) hR hL
    have hR1 : RT S1 376 T := hR.fr (fun k => f1 _ _ (by decide) (by decide))
    have hL1 : RLw S1 r Et := hL.fr (fun u k c => f1 u k (by omega) (by omega))
    obtain ⟨S2, u2, f2⟩ := x9_eo (F := F) hF hW hb hR1 hL1
    have hR2 : RT S2 376 T := hR1.fr (fun k => f2 _ _ (by decide) (by decide))
    have hL2 : RLw S2 r Et := hL1.fr (fun u k c => f2 u k (by omega) (by omega))
    have e : lX9_richest_4 F 375 a (k + 1) S (nI b) (nI i) = if eoS Et T (dyA T i) ≤ eoS Et T (dyA T b) then lX9_richest_4 F 375 a k S2 (nI b) (nI (i + 1)) else lX9_richest_4 F 375 a k S2 (nI i) (nI (i + 1)) := by
      rw [u_X9_richest_4, if_neg (nI_ge (by omega) (by omega)), u1, bd_s, u2, bd_s, nI_add]
      have x1' : eoS Et T (dyA T i) ≤ 700 := x1
      have x2' : eoS Et T (dyA T b) ≤ 700 := x2
      simp (disch := omega) only [nI_leI]
    by_cases q : eoS Et T (dyA T i) ≤ eoS Et T (dyA T b)
    · obtain ⟨S3, u3, f3⟩ := ih (i + 1) k b (by omega) (by omega) hb hR2 hL2
      refine ⟨S3, ?_, (f1.trans f2).trans f3⟩
      rw [e, if_pos q, u3]
      show _ = some (S3, if a = nI 0 then nI (bsS _ m (i + 1) (if _ ≤ _ then b else i)) else nI (eoS _ T (dyA T (bsS _ m (i + 1) (if _ ≤ _ then b else i)))))
      rw [if_pos q]
    · obtain ⟨S3, u3, f3⟩ := ih (i + 1) k i (by omega) (by omega) (by omega) hR2 hL2
      refine ⟨S3, ?_, (f1.trans f2).trans f3⟩
      rw [e, if_neg q, u3]
      show _ = some (S3, if a = nI 0 then nI (bsS _ m (i + 1) (if _ ≤ _ then b else i)) else nI (eoS _ T (dyA T (bsS _ m (i + 1) (if _ ≤ _ then b else i)))))
      rw [if_neg q]
end
theorem st_richest : ∀ S, Inv S → ∀ a1, Step μX8_richest μX9_richest Inv S [.int (zb a1)] := by
  intro S hI a
  have hI' := hI
  obtain ⟨T, P, N, T1, P1, N1, E, hI⟩ := hI
  obtain ⟨F, hF⟩ := big_F
  have hCW := hI.1
  have hRW := hI.2.1
  have hV := hI.2.2.1
  have hW := hV.1
  generalize zb a = a
  have hX := hCW.wx hV hI.tx
  obtain ⟨F', rfl⟩ : ∃ F', F = F' + 1 := ⟨F - 1, by omega⟩
  obtain ⟨S1, u1, f1⟩ := x8_eo (F := F' + 1) (by omega) hW (show 0 < 20 by decide) hCW.1 hX
  obtain ⟨S2, u2, f2⟩ := x8_ri (F := F' + 1) (a := a) (by omega) hW 19 1 F' 0 (by omega) (by omega) (by omega) (hCW.1.law (by decide) f1) (hX.law f1)
  have x1 := eo_le (tx E (N 0 5)) T hW (dyA T 0) (T 0 0) (Nat.le_refl _)
  have x1' : eoS (tx E (N 0 5)) T (dyA T 0) ≤ 700 := x1
  have ff := f1.trans f2
  have hR2 : RT S2 376 T := hRW.1.fr (fun k => ff _ _ (by omega))
  have hL2 : RLw S2 (N 0 5) (tx E (N 0 5)) := (hRW.rl hV hI.tx).fr (fun u k c => ff u k (by omega))
  obtain ⟨S3, u3, f3⟩ := x9_ri (F := F' + 1) (a := a) (by omega) hW 19 1 (F' + 1) 0 (by omega) (by omega) (by omega) hR2 hL2
  have e1 := u2
  have h1 : f_X8_richest (F' + 1) S 0 a = some (S2, if a = nI 0 then nI (bsS (fun d => eoS (tx E (N 0 5)) T (dyA T d)) 19 1 0) else nI (eoS (tx E (N 0 5)) T (dyA T (bsS (fun d => eoS (tx E (N 0 5)) T (dyA T d)) 19 1 0)))) := by
    rw [u_X8_richest, u_X8_richest_7, if_neg (nI_ge (show 0 < 20 by decide) (by omega)), u1, bd_s, if_neg (by rw [n_le_m1 (by omega)]; exact fun h => h), nI_add]
    exact u2
  have h2 := (u_X9_richest (F := F' + 1) (S := S2) (a1 := a)).trans u3
  exact stepS (S1 := S2) (S2 := S3) (r := if a = nI 0 then nI (bsS (fun d => eoS (tx E (N 0 5)) T (dyA T d)) 19 1 0) else nI (eoS (tx E (N 0 5)) T (dyA T (bsS (fun d => eoS (tx E (N 0 5)) T (dyA T d)) 19 1 0)))) hI' (c_X8_richest k_0 h1) (c_X9_richest k_375 h2) (fun u k c => ff u k (by unfold cor at c; omega)) (fun u k c => f3 u k (by unfold cor at c; omega) (by unfold cor at c; omega)) (by decide) (by decide)
