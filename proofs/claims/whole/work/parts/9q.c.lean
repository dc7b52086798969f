/-! ===== the class reads a lets ===== -/
theorem tCl_fuel {κ : Nat → Nat} {ty : Nat × Nat → Nat × Nat} {cond : Nat × Nat → Prop} {one : Nat → tR} {op : Nat → Bool} (hN : ∀ k, 300 ≤ k → κ k = 0) (hG : tG ty cond one) (ho : op 0 = false) : ∀ (m j : Nat) (c : List Nat), 300 ≤ j + m → tCl κ one op m j c = tCl κ one op (m + 1) j c
  | 0, j, c, h => by
    show (0, j, c) = if op (κ j) = true then _ else (0, j, c)
    rw [hN j (by omega), ho, if_neg Bool.false_ne_true]
  | m + 1, j, c, h => by
    show (if op (κ j) = true then tB (one (j + 1)) fun j' c' => tCl κ one op m j' (c ++ c' ++ [10000 + κ j]) else (0, j, c)) = (if op (κ j) = true then tB (one (j + 1)) fun j' c' => tCl κ one op (m + 1) j' (c ++ c' ++ [10000 + κ j]) else (0, j, c))
    cases q : op (κ j)
    · rfl
    · rw [if_pos rfl, if_pos rfl]
      have j3 : j < 300 := by
        rcases Nat.lt_or_ge j 300 with z | z
        · exact z
        · rw [hN j z, ho] at q; exact absurd q (by decide)
      by_cases e : (one (j + 1)).1 = 0
      · have g := (hG (j + 1) (by omega)).1
        rw [tB_0 e, tB_0 e]
        exact tCl_fuel hN hG ho m _ _ (by omega)
      · rw [tB_n e, tB_n e]
def nts (v : Nat) (r : tR) : tR := tB r fun j c => (0, j, c ++ List.replicate v 10035)
section
variable {F n w0 : Nat} {κ vl ps : Nat → Nat} {lt : Bool} {S0 : mS}
theorem d4_69 {f j v1 : Nat} (hv : v1 < 100) : ∀ (m v k : Nat) {S : mS}, v + m = v1 → m < k → DQ S0 S ps f j → ∃ S', lX4_readAsk_69 F 2 k S (nI v1) (nI v) = some S' ∧ DQ S0 S' ps f j
  | 0, v, k, S, hm, hk, h => by
    obtain ⟨k, rfl⟩ : ∃ k', k = k' + 1 := ⟨k - 1, by omega⟩
    exact ⟨S, by rw [u_X4_readAsk_69, if_pos (nI_le (by omega) (by omega))], h⟩
  | m + 1, v, k, S, hm, hk, h => by
    obtain ⟨k, rfl⟩ : ∃ k', k = k' + 1 := ⟨k - 1, by omega⟩
    obtain ⟨S1, x1, y1⟩ := d4_emit (F := F) h (nI 35)
    obtain ⟨S2, x2, y2⟩ := d4_69 hv m (v + 1) k (by omega) (by omega) y1
    exact ⟨S2, by rw [u_X4_readAsk_69, if_neg (nI_ge (by omega) (by omega)), x1, bd_s, nI_add, x2], y2⟩
theorem x4_69 (hT : TK S0 n κ vl ps) {v1 j : Nat} (hv : v1 < 100) : ∀ (m v k : Nat) {S : mS} {c : List Nat}, v + m = v1 → m < k → CQ S0 S n w0 j c → w0 + c.length + m ≤ j → ∃ S', lX4_readAsk_69 F 2 k S (nI v1) (nI v) = some S' ∧ CQ S0 S' n w0 j (c ++ List.replicate m 10035)
  | 0, v, k, S, c, hm, hk, h, hb => by
    obtain ⟨k, rfl⟩ : ∃ k', k = k' + 1 := ⟨k - 1, by omega⟩
    refine ⟨S, by rw [u_X4_readAsk_69, if_pos (nI_le (by omega) (by omega))], ?_⟩
    rw [List.replicate_zero, List.append_nil]
    exact h
  | m + 1, v, k, S, c, hm, hk, h, hb => by
    obtain ⟨k, rfl⟩ : ∃ k', k = k' + 1 := ⟨k - 1, by omega⟩
    obtain ⟨S1, x1, y1⟩ := x4_emit (F := F) hT h 35 (by omega)
    obtain ⟨S2, x2, y2⟩ := x4_69 hT hv m (v + 1) k (by omega) (by omega) y1 (by rw [List.length_append, List.length_singleton]; omega)
    refine ⟨S2, by rw [u_X4_readAsk_69, if_neg (nI_ge (by omega) (by omega)), x1, bd_s, nI_add, x2], ?_⟩
    rw [List.append_assoc] at y2
    exact y2
theorem x4_isR {S : mS} {k : Nat} (hk : k < 100) : f_X4_isRelation S (nI k) = isR k := by
  rw [u_X4_isRelation, win_n (by omega) (by omega) (by omega), win_n (by omega) (by omega) (by omega)]
  unfold isR
  by_cases a : 3 ≤ k ∧ k ≤ 6
  · rw [if_pos (decide_eq_true a), decide_eq_true (Or.inl a)]
  · rw [if_neg (fun z => a (of_decide_eq_true z))]
    by_cases b : 14 ≤ k ∧ k ≤ 15
    · rw [if_pos (decide_eq_true b), decide_eq_true (by omega)]
    · rw [if_neg (fun z => b (of_decide_eq_true z))]
      by_cases c : k = 36
      · rw [if_pos (by rw [c]), decide_eq_true (by omega)]
      · rw [if_neg (fun z => by rw [nI_eq (by omega) (by omega)] at z; exact c z), decide_eq_false (by omega)]
theorem d4_31 {f j v1 : Nat} (hF : 301 < F) (hv : v1 < 100) {S : mS} (h : DQ S0 S ps f j) : ∃ S', lX4_readAsk_31 F (fun (S : mS) (v1 : Int32) (v3 : Int32) => lX4_readAsk_69 F 2 F S v1 v3) 2 S (nI v1) = some S' ∧ DQ S0 S' ps f j := by
  obtain ⟨S1, x1, y1⟩ := d4_adv (F := F) h
  obtain ⟨S2, x2, y2⟩ := d4_emit (F := F) y1 (nI 1)
  obtain ⟨S3, x3, y3⟩ := d4_69 (F := F) (v1 := v1) hv v1 0 F (by omega) (by omega) y2
  refine ⟨S3, ?_, y3⟩
  have z : ∀ {S : mS}, DQ S0 S ps f j → f_X4_readSum F S 2 (nI v1) = some S := fun h => d4_rS (D := 15) (by omega) h
  rw [u_X4_readAsk_31, z h, bd_s, d4_kind h, bd_s, x4_isR (by omega), if_neg (by decide), d4_fail h, bd_s, x1, bd_s, z y1, bd_s, x2, bd_s, x3]
theorem x4_31 (hF : 301 < F) (hT : TK S0 n κ vl ps) (hk : ∃ k, k ≤ 24 ∧ S0.1 3 5 = nI k) (hlt : S0.1 2 8 = nI (if lt = true then 1 else 0)) {d : Nat} (hd : d ≤ 8) {S : mS} {i : Nat} {c : List Nat} (h : CQ S0 S n w0 i c) (hb : w0 + c.length + (8 - d) ≤ i) : CRs S0 n w0 ps (lX4_readAsk_31 F (fun (S : mS) (v1 : Int32) (v3 : Int32) => lX4_readAsk_69 F 2 F S v1 v3) 2 S (nI (8 - d))) c (nts (8 - d) (tRl κ vl lt d i)) := by
  have t0 := hT.1
  have hi := h.2.2.2.2.2.1
  have gS := tSm_g hT.N (tOn_g (vl := vl) (lt := lt) hT.N d)
  obtain ⟨S1, x1, y1, y2⟩ := x4_rS hF hT hk hlt hd h
  have z : ∀ {S : mS} {f j : Nat}, DQ S0 S ps f j → f_X4_readSum F S 2 (nI (8 - d)) = some S := fun h => d4_rS (D := 15) (by omega) h
  rw [u_X4_readAsk_31, x1, bd_s]
  unfold nts tRl
  by_cases e : (tSm κ (tOn κ vl lt d) i).1 = 0
  · have y3 := y1 e
    have g1 := ((gS i (by omega)).2.2.2 e).2.1
    rw [x4_kind hT y3, bd_s, x4_isR (by have := hT.b (tSm κ (tOn κ vl lt d) i).2.1; omega), tB_0 e]
    cases q : isR (κ (tSm κ (tOn κ vl lt d) i).2.1)
    · rw [if_neg Bool.false_ne_true, if_neg Bool.false_ne_true, tB_n (r := (1, _, _)) (by show ¬ 1 = 0; omega)]
      obtain ⟨S2, x2, y4⟩ := x4_fail (F := F) (f := 1) hT hk y3 (by omega)
      obtain ⟨S3, x3, y5⟩ := d4_adv (F := F) y4
      obtain ⟨S4, x4, y6⟩ := d4_emit (F := F) y5 (nI (κ (tSm κ (tOn κ vl lt d) i).2.1))
      obtain ⟨S5, x5, y7⟩ := d4_69 (F := F) (v1 := 8 - d) (by omega) (8 - d) 0 F (by omega) (by omega) y6
      rw [x2, bd_s, x3, bd_s, z y5, bd_s, x4, bd_s, x5]
      exact ⟨S5, rfl, fun z => absurd z (by show ¬ 1 = 0; omega), fun _ => y7⟩
    · rw [if_pos rfl, if_pos rfl]
      have hq := of_decide_eq_true q
      have jn := hT.tl (i := (tSm κ (tOn κ vl lt d) i).2.1) (by omega)
      obtain ⟨S2, x2, y4⟩ := x4_adv (F := F) hT y3 (by omega)
      obtain ⟨S3, x3, y5, y6⟩ := x4_rS hF hT hk hlt hd y4
      rw [x2, bd_s, x3, bd_s]
      by_cases e2 : (tSm κ (tOn κ vl lt d) ((tSm κ (tOn κ vl lt d) i).2.1 + 1)).1 = 0
      · have g2 := ((gS ((tSm κ (tOn κ vl lt d) i).2.1 + 1) (by omega)).2.2.2 e2).2.1
        obtain ⟨S4, x4, y7⟩ := x4_emit (F := F) hT (y5 e2) (κ (tSm κ (tOn κ vl lt d) i).2.1) (by rw [List.length_append, List.length_append]; omega)
        obtain ⟨S5, x5, y8⟩ := x4_69 (F := F) hT (v1 := 8 - d) (by omega) (8 - d) 0 F (by omega) (by omega) y7 (by rw [List.length_append, List.length_append, List.length_append, List.length_singleton]; omega)
        rw [tB_0 e2, tB_0 (r := (0, _, _)) rfl, x4, bd_s, x5]
        refine ⟨S5, rfl, fun _ => ?_, fun z => absurd rfl z⟩
        simp only [List.append_assoc] at y8 ⊢
        exact y8
      · obtain ⟨S4, x4, y7⟩ := d4_emit (F := F) (y6 e2) (nI (κ (tSm κ (tOn κ vl lt d) i).2.1))
        obtain ⟨S5, x5, y8⟩ := d4_69 (F := F) (v1 := 8 - d) (by omega) (8 - d) 0 F (by omega) (by omega) y7
        rw [tB_n e2, tB_n e2, x4, bd_s, x5]
        exact ⟨S5, rfl, fun z => absurd z e2, fun _ => y8⟩
  · obtain ⟨S5, x5, y8⟩ := d4_31 (F := F) (v1 := 8 - d) hF (by omega) (y2 e)
    rw [u_X4_readAsk_31, z (y2 e), bd_s] at x5
    rw [tB_n e, tB_n e, x5]
    exact ⟨S5, rfl, fun z => absurd z e, fun _ => y8⟩
theorem nts_s (v : Nat) (r : tR) : nts (v + 1) r = nts v (tB r fun j c => (0, j, c ++ [10035])) := by
  unfold nts
  by_cases e : r.1 = 0
  · rw [tB_0 e, tB_0 e, tB_0 (r := (0, _, _)) rfl, List.replicate_succ, List.append_assoc]
    rfl
  · rw [tB_n e, tB_n e, tB_n e]
theorem x4_ask2 (hF : 301 < F) (hT : TK S0 n κ vl ps) (hk : ∃ k, k ≤ 24 ∧ S0.1 3 5 = nI k) (hlt : S0.1 2 8 = nI (if lt = true then 1 else 0)) : ∀ (d k : Nat) {S : mS} {i : Nat} {c : List Nat}, d ≤ 8 → d < k → CQ S0 S n w0 i c → w0 + c.length + (8 - d) ≤ i → CRs S0 n w0 ps (lX4_readAsk_2 F (fun (S : mS) (v1 : Int32) => lX4_readAsk_31 F (fun (S : mS) (v1 : Int32) (v3 : Int32) => lX4_readAsk_69 F 2 F S v1 v3) 2 S v1) 2 k S (nI (8 - d))) c (nts (8 - d) (tAk κ vl lt d i))
  | d, k, S, i, c, hd, hdk, h, hb => by
    obtain ⟨k, rfl⟩ : ∃ k', k = k' + 1 := ⟨k - 1, by omega⟩
    have kb := hT.b i
    rw [u_X4_readAsk_2, if_neg (nI_nlt (by omega) (by omega)), x4_kind hT h, bd_s, ifn (b := 35) (by omega) (by omega)]
    by_cases e : κ i = 35
    · rw [if_pos e]
      rcases x4_enter (F := F) hT hk h (by omega) hd with ⟨q, S1, x, y⟩ | ⟨q, S1, x, y⟩
      · obtain ⟨d, rfl⟩ : ∃ d', d = d' + 1 := ⟨d - 1, by omega⟩
        rw [x, bd_s, if_pos rfl, nI_add, show 8 - (d + 1) + 1 = 8 - d by omega]
        have ih := x4_ask2 hF hT hk hlt d k (by omega) (by omega) y (by omega)
        have e2 : nts (8 - (d + 1)) (tAk κ vl lt (d + 1) i) = nts (8 - d) (tAk κ vl lt d (i + 1)) := by
          show nts (8 - (d + 1)) (if κ i = 35 then tB (tAk κ vl lt d (i + 1)) fun j c => (0, j, c ++ [10035]) else tRl κ vl lt (d + 1) i) = _
          rw [if_pos e, ← nts_s, show 8 - (d + 1) + 1 = 8 - d by omega]
        rw [e2]
        exact ih
      · subst q
        obtain ⟨S2, x2, y2⟩ := d4_31 (F := F) (v1 := 8 - 0) hF (by omega) y
        rw [x, bd_s, if_neg Bool.false_ne_true, x2]
        have e2 : nts (8 - 0) (tAk κ vl lt 0 i) = (3, i, []) := by
          show nts (8 - 0) (if κ i = 35 then (3, i, []) else tRl κ vl lt 0 i) = _
          rw [if_pos e]
          exact tB_n (by show ¬ 3 = 0; omega)
        rw [e2]
        exact ⟨S2, rfl, fun z => absurd z (by show ¬ 3 = 0; omega), fun _ => y2⟩
    · rw [if_neg e]
      have e2 : tAk κ vl lt d i = tRl κ vl lt d i := by
        cases d <;> exact if_neg e
      rw [e2]
      exact x4_31 hF hT hk hlt hd h hb
theorem x4_ask (hF : 301 < F) (hT : TK S0 n κ vl ps) (hk : ∃ k, k ≤ 24 ∧ S0.1 3 5 = nI k) (hlt : S0.1 2 8 = nI (if lt = true then 1 else 0)) {S : mS} {i : Nat} {c : List Nat} (h : CQ S0 S n w0 i c) : CRs S0 n w0 ps (f_X4_readAsk F S 2) c (tAk κ vl lt 8 i) := by
  have z := x4_ask2 hF hT hk hlt 8 F (by omega) (by omega) h (by have := h.2.2.2.2.1; omega)
  have e : nts (8 - 8) (tAk κ vl lt 8 i) = tAk κ vl lt 8 i := by
    unfold nts
    by_cases e : (tAk κ vl lt 8 i).1 = 0
    · rw [tB_0 e, show List.replicate (8 - 8) 10035 = [] from rfl, List.append_nil, ← e]
    · rw [tB_n e]
  rw [e] at z
  rw [u_X4_readAsk]
  exact z
theorem d4_ask {f j : Nat} (hF : 301 < F) {S : mS} (h : DQ S0 S ps f j) : ∃ S', f_X4_readAsk F S 2 = some S' ∧ DQ S0 S' ps f j := by
  obtain ⟨G, rfl⟩ : ∃ G, F = G + 1 := ⟨F - 1, by omega⟩
  obtain ⟨S2, x2, y2⟩ := d4_31 (F := G + 1) (v1 := 0) hF (by omega) h
  refine ⟨S2, ?_, y2⟩
  rw [u_X4_readAsk, u_X4_readAsk_2, if_neg (by decide), d4_kind h, bd_s, if_neg (by decide), x2]
/-- {and ASK} -/
theorem x4_38 (hF : 301 < F) (hT : TK S0 n κ vl ps) (hk : ∃ k, k ≤ 24 ∧ S0.1 3 5 = nI k) (hlt : S0.1 2 8 = nI (if lt = true then 1 else 0)) {K : mS → Int32 → Int32 → Option mS} {v1 v2 : Int32} (cb : List Nat) : ∀ (m v k : Nat) {S : mS} {j : Nat} {acc : List Nat}, v + m = 300 → m < k → CQ S0 S n w0 j (cb ++ acc) → ∃ S', lX4_readEither_38 F K 2 k S v1 v2 (nI v) = (if v1 = (nI 0) then (bd (f_X4_emit F S' 2 (nI 33)) fun q1 => K q1 (nI 0) (v2 + (nI 1))) else (K S' (nI 0) (v2 + (nI 1)))) ∧ ((tCl κ (tAk κ vl lt 8) oAn m j acc).1 = 0 → CQ S0 S' n w0 (tCl κ (tAk κ vl lt 8) oAn m j acc).2.1 (cb ++ (tCl κ (tAk κ vl lt 8) oAn m j acc).2.2)) ∧ ((tCl κ (tAk κ vl lt 8) oAn m j acc).1 ≠ 0 → DQ S0 S' ps (tCl κ (tAk κ vl lt 8) oAn m j acc).1 (tCl κ (tAk κ vl lt 8) oAn m j acc).2.1)
  | 0, v, k, S, j, acc, hv, hk2, h => by
    obtain ⟨k, rfl⟩ : ∃ k', k = k' + 1 := ⟨k - 1, by omega⟩
    rw [u_X4_readEither_38, if_pos (nI_le (by omega) (by omega))]
    exact ⟨S, rfl, fun _ => h, fun z => absurd rfl z⟩
  | m + 1, v, k, S, j, acc, hv, hk2, h => by
    obtain ⟨k, rfl⟩ : ∃ k', k = k' + 1 := ⟨k - 1, by omega⟩
    have kb := hT.b j
    have t0 := hT.1
    have hj := h.2.2.2.2.2.1
    rw [u_X4_readEither_38, if_neg (nI_ge (by omega) (by omega)), x4_kind hT h, bd_s, ifn (b := 34) (by omega) (by omega)]
    by_cases e0 : κ j = 34
    · have ho : oAn (κ j) = true := decide_eq_true e0
      have jn := hT.tl (i := j) (by omega)
      have E : tCl κ (tAk κ vl lt 8) oAn (m + 1) j acc = tB (tAk κ vl lt 8 (j + 1)) fun j' c' => tCl κ (tAk κ vl lt 8) oAn m j' (acc ++ c' ++ [10000 + κ j]) := if_pos ho
      rw [E]
      obtain ⟨S1, x1, y1⟩ := x4_adv (F := F) hT h (by omega)
      obtain ⟨S2, x2, y2, y3⟩ := x4_ask hF hT hk hlt y1
      rw [if_pos e0, x1, bd_s, x2, bd_s]
      have g := tAk_g (vl := vl) (lt := lt) hT.N 8 (j + 1) (by omega)
      by_cases e : (tAk κ vl lt 8 (j + 1)).1 = 0
      · rw [tB_0 e]
        have b1 := (g.2.2.2 e).2.1
        have b2 := h.2.2.2.2.1
        obtain ⟨S3, x3, y5⟩ := x4_emit (F := F) hT (y2 e) 34 (by
          rw [List.length_append]
          rw [List.length_append] at b2 ⊢
          omega)
        rw [x3, bd_s, nI_add, e0]
        refine x4_38 hF hT hk hlt cb m (v + 1) k (by omega) (by omega) ?_
        rw [show cb ++ (acc ++ (tAk κ vl lt 8 (j + 1)).2.2 ++ [10000 + 34]) = cb ++ acc ++ (tAk κ vl lt 8 (j + 1)).2.2 ++ [10000 + 34] by simp only [List.append_assoc]]
        exact y5
      · rw [tB_n e]
        obtain ⟨S3, x3, y5⟩ := d4_emit (F := F) (y3 e) (nI 34)
        obtain ⟨k, rfl⟩ : ∃ k', k = k' + 1 := ⟨k - 1, by omega⟩
        refine ⟨S3, ?_, fun z => absurd z e, fun _ => y5⟩
        rw [x3, bd_s, nI_add, u_X4_readEither_38, d4_kind y5, bd_s]
        by_cases q : nI 300 ≤ nI (v + 1)
        · rw [if_pos q]
        · rw [if_neg q, if_neg (by decide)]
    · have E : tCl κ (tAk κ vl lt 8) oAn (m + 1) j acc = (0, j, acc) := if_neg (fun z => e0 (of_decide_eq_true z))
      rw [E, if_neg e0]
      exact ⟨S, rfl, fun _ => h, fun z => absurd rfl z⟩
theorem x4_both (hF : 301 < F) (hT : TK S0 n κ vl ps) (hk : ∃ k, k ≤ 24 ∧ S0.1 3 5 = nI k) (hlt : S0.1 2 8 = nI (if lt = true then 1 else 0)) {K : mS → Int32 → Int32 → Option mS} {v1 v2 : Int32} {S : mS} {i : Nat} {c : List Nat} (h : CQ S0 S n w0 i c) : ∃ S', (bd (f_X4_readAsk F S 2) fun q1 => lX4_readEither_38 F K 2 F q1 v1 v2 (nI 0)) = (if v1 = (nI 0) then (bd (f_X4_emit F S' 2 (nI 33)) fun q1 => K q1 (nI 0) (v2 + (nI 1))) else (K S' (nI 0) (v2 + (nI 1)))) ∧ ((tBo κ vl lt i).1 = 0 → CQ S0 S' n w0 (tBo κ vl lt i).2.1 (c ++ (tBo κ vl lt i).2.2)) ∧ ((tBo κ vl lt i).1 ≠ 0 → DQ S0 S' ps (tBo κ vl lt i).1 (tBo κ vl lt i).2.1) := by
  obtain ⟨S1, x1, y1, y2⟩ := x4_ask hF hT hk hlt h
  rw [x1, bd_s]
  unfold tBo tCh
  by_cases e : (tAk κ vl lt 8 i).1 = 0
  · rw [tB_0 e]
    exact x4_38 hF hT hk hlt c 300 0 F (by omega) (by omega) (y1 e)
  · rw [tB_n e]
    obtain ⟨G, rfl⟩ : ∃ G, F = G + 1 := ⟨F - 1, by omega⟩
    refine ⟨S1, ?_, fun z => absurd z e, y2⟩
    rw [u_X4_readEither_38, if_neg (by decide), d4_kind (y2 e), bd_s, if_neg (by decide)]
theorem x4_4 (hF : 301 < F) (hT : TK S0 n κ vl ps) (hk : ∃ k, k ≤ 24 ∧ S0.1 3 5 = nI k) (hlt : S0.1 2 8 = nI (if lt = true then 1 else 0)) (cb : List Nat) : ∀ (m v k : Nat) {S : mS} {j : Nat} {acc : List Nat}, v + m = 300 → m < k → CQ S0 S n w0 j (cb ++ acc) → CRs S0 n w0 ps (lX4_readEither_4 F 2 k S (nI 0) (nI v)) cb (tCl κ (tBo κ vl lt) oOr m j acc)
  | 0, v, k, S, j, acc, hv, hk2, h => by
    obtain ⟨k, rfl⟩ : ∃ k', k = k' + 1 := ⟨k - 1, by omega⟩
    rw [u_X4_readEither_4, if_pos (nI_le (by omega) (by omega))]
    exact ⟨S, rfl, fun _ => h, fun z => absurd rfl z⟩
  | m + 1, v, k, S, j, acc, hv, hk2, h => by
    obtain ⟨k, rfl⟩ : ∃ k', k = k' + 1 := ⟨k - 1, by omega⟩
    have kb := hT.b j
    have t0 := hT.1
    have hj := h.2.2.2.2.2.1
    rw [u_X4_readEither_4, if_neg (nI_ge (by omega) (by omega)), if_pos rfl, x4_kind hT h, bd_s, ifn (b := 33) (by omega) (by omega), if_pos rfl]
    by_cases e0 : κ j = 33
    · have ho : oOr (κ j) = true := decide_eq_true e0
      have jn := hT.tl (i := j) (by omega)
      have E : tCl κ (tBo κ vl lt) oOr (m + 1) j acc = tB (tBo κ vl lt (j + 1)) fun j' c' => tCl κ (tBo κ vl lt) oOr m j' (acc ++ c' ++ [10000 + κ j]) := if_pos ho
      rw [E]
      obtain ⟨S1, x1, y1⟩ := x4_adv (F := F) hT h (by omega)
      obtain ⟨S2, x2, y2, y3⟩ := x4_both hF hT hk hlt (K := fun (S : mS) (v1 : Int32) (v2 : Int32) => lX4_readEither_4 F 2 k S v1 v2) (v1 := nI 0) (v2 := nI v) y1
      rw [if_pos e0, x1, bd_s, x2, if_pos rfl]
      have g := tBo_g (vl := vl) (lt := lt) hT.N (j + 1) (by omega)
      by_cases e : (tBo κ vl lt (j + 1)).1 = 0
      · rw [tB_0 e]
        have b1 := (g.2.2.2 e).2.1
        have b2 := h.2.2.2.2.1
        obtain ⟨S3, x3, y5⟩ := x4_emit (F := F) hT (y2 e) 33 (by
          rw [List.length_append]
          rw [List.length_append] at b2 ⊢
          omega)
        rw [x3, bd_s, nI_add, e0]
        refine x4_4 hF hT hk hlt cb m (v + 1) k (by omega) (by omega) ?_
        rw [show cb ++ (acc ++ (tBo κ vl lt (j + 1)).2.2 ++ [10000 + 33]) = cb ++ acc ++ (tBo κ vl lt (j + 1)).2.2 ++ [10000 + 33] by simp only [List.append_assoc]]
        exact y5
      · rw [tB_n e]
        obtain ⟨S3, x3, y5⟩ := d4_emit (F := F) (y3 e) (nI 33)
        obtain ⟨k, rfl⟩ : ∃ k', k = k' + 1 := ⟨k - 1, by omega⟩
        refine ⟨S3, ?_, fun z => absurd z e, fun _ => y5⟩
        rw [x3, bd_s, nI_add, u_X4_readEither_4, if_pos rfl, d4_kind y5, bd_s]
        by_cases q : nI 300 ≤ nI (v + 1)
        · rw [if_pos q]
        · rw [if_neg q, if_neg (by decide)]
    · have E : tCl κ (tBo κ vl lt) oOr (m + 1) j acc = (0, j, acc) := if_neg (fun z => e0 (of_decide_eq_true z))
      rw [E, if_neg e0]
      exact ⟨S, rfl, fun _ => h, fun z => absurd rfl z⟩
theorem x4_either (hF : 301 < F) (hT : TK S0 n κ vl ps) (hk : ∃ k, k ≤ 24 ∧ S0.1 3 5 = nI k) (hlt : S0.1 2 8 = nI (if lt = true then 1 else 0)) {S : mS} {i : Nat} {c : List Nat} (h : CQ S0 S n w0 i c) : CRs S0 n w0 ps (f_X4_readEither F S 2) c (tEi κ vl lt i) := by
  obtain ⟨G, rfl⟩ : ∃ G, F = G + 1 := ⟨F - 1, by omega⟩
  have t0 := hT.1
  have hi := h.2.2.2.2.2.1
  obtain ⟨S1, x1, y1, y2⟩ := x4_both hF hT hk hlt (K := fun (S : mS) (v1 : Int32) (v2 : Int32) => lX4_readEither_4 (G + 1) 2 G S v1 v2) (v1 := nI 1) (v2 := nI 0) h
  rw [if_neg (by decide), nI_add] at x1
  rw [u_X4_readEither, u_X4_readEither_4, if_neg (by decide), if_neg (by decide), if_neg (by decide), x1]
  unfold tEi tCh
  by_cases e : (tBo κ vl lt i).1 = 0
  · have g := (tBo_g (vl := vl) (lt := lt) hT.N i (by omega)).2.2.2 e
    rw [tB_0 e, ← tCl_fuel (m := 299) hT.N (tBo_g (vl := vl) (lt := lt) hT.N) (by decide) _ _ (by have := g.1; omega)]
    exact x4_4 hF hT hk hlt c 299 (0 + 1) G (by omega) (by omega) (y1 e)
  · obtain ⟨G', rfl⟩ : ∃ G', G = G' + 1 := ⟨G - 1, by omega⟩
    rw [tB_n e, u_X4_readEither_4, if_pos rfl, d4_kind (y2 e), bd_s, if_neg (by decide), if_neg (by decide)]
    exact ⟨S1, rfl, fun z => absurd z e, y2⟩
end
