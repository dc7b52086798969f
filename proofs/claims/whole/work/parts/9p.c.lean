/-! ===== the class reads a law ===== -/
/-- the tokens as the class has them -/
def TK (S : mS) (n : Nat) (κ vl ps : Nat → Nat) : Prop := n ≤ 300 ∧ S.1 2 6 = nI n ∧ (∀ j, j ≤ n → S.1 8 j = nI (κ j) ∧ S.1 9 j = nI (ps j)) ∧ (∀ j, j < n → κ j = 2 → S.1 10 j = nI (vl j)) ∧ (∀ j, j < n → κ j ≠ 0 ∧ κ j < 38) ∧ (∀ j, n ≤ j → κ j = 0) ∧ ∀ j, vl j ≤ 10000
def CQ (S0 S : mS) (n w0 i : Nat) (c : List Nat) : Prop := S.1 2 1 = nI 0 ∧ S.1 2 7 = nI i ∧ S.1 3 1 = nI (w0 + c.length) ∧ (∀ k, k < c.length → S.1 4 (w0 + k) = nI (c.getD k 0)) ∧ w0 + c.length ≤ i ∧ i ≤ n ∧ ∀ u k, ¬ (u = 2 ∧ k = 7) → ¬ (u = 3 ∧ k = 1) → ¬ (u = 4 ∧ w0 ≤ k) → S.1 u k = S0.1 u k
def DQ (S0 S : mS) (ps : Nat → Nat) (f j : Nat) : Prop := S.1 2 1 = nI f ∧ (0 < f ∧ f ≤ 6) ∧ S.1 2 2 = nI (ps j) ∧ (∃ z, z ≤ 300 ∧ S.1 3 1 = nI z) ∧ (∃ k, k ≤ 24 ∧ S.1 3 5 = nI k) ∧ ∀ u k, ¬ (2 ≤ u ∧ u ≤ 7) → S.1 u k = S0.1 u k
def CRs (S0 : mS) (n w0 : Nat) (ps : Nat → Nat) (o : Option mS) (cb : List Nat) (r : tR) : Prop := ∃ S', o = some S' ∧ (r.1 = 0 → CQ S0 S' n w0 r.2.1 (cb ++ r.2.2)) ∧ (r.1 ≠ 0 → DQ S0 S' ps r.1 r.2.1)
theorem DQ.nz {S0 S : mS} {ps : Nat → Nat} {f j : Nat} (h : DQ S0 S ps f j) : ¬ S.1 2 1 = nI 0 := by
  rw [h.1]
  exact nI_ne0 h.2.1.1 (by have := h.2.1.2; omega)
theorem ifn {α : Type} {a b : Nat} (ha : a < 2 ^ 31) (hb : b < 2 ^ 31) (x y : α) : (if nI a = nI b then x else y) = if a = b then x else y := by
  by_cases e : a = b
  · rw [if_pos (by rw [e]), if_pos e]
  · rw [if_neg (fun z => e ((nI_eq ha hb).mp z)), if_neg e]
section
variable {F n w0 i : Nat} {κ vl ps : Nat → Nat} {lt : Bool} {S0 S : mS} {c : List Nat} {f j : Nat}
theorem x4_kind (hT : TK S0 n κ vl ps) (h : CQ S0 S n w0 i c) : f_X4_kind F S 2 = some (nI (κ i)) := by
  obtain ⟨h1, h2, h3, h4, h5, h6, h7⟩ := h
  have t0 := hT.1
  have e : S.1 8 i = nI (κ i) := (h7 8 i (by omega) (by omega) (by omega)).trans (hT.2.2.1 i h6).1
  rw [u_X4_kind, h1, if_pos rfl, h2, inb_n (by omega) (by omega), ck_t, nI_clamp (by omega), e]
theorem TK.tl (hT : TK S0 n κ vl ps) {i : Nat} (h : κ i ≠ 0) : i < n := by
  rcases Nat.lt_or_ge i n with z | z
  · exact z
  · exact absurd (hT.2.2.2.2.2.1 i z) h
theorem TK.N (hT : TK S0 n κ vl ps) : ∀ k, 300 ≤ k → κ k = 0 := fun k hk => hT.2.2.2.2.2.1 k (by have := hT.1; omega)
theorem TK.b (hT : TK S0 n κ vl ps) (i : Nat) : κ i < 38 := by
  by_cases h : κ i = 0
  · omega
  · exact (hT.2.2.2.2.1 i (hT.tl h)).2
theorem x4_adv (hT : TK S0 n κ vl ps) (h : CQ S0 S n w0 i c) (hk : κ i ≠ 0) : ∃ S', f_X4_advance F S 2 = some S' ∧ CQ S0 S' n w0 (i + 1) c := by
  have hi := hT.tl hk
  obtain ⟨h1, h2, h3, h4, h5, h6, h7⟩ := h
  have t0 := hT.1
  have e : S.1 2 6 = nI n := (h7 2 6 (by omega) (by omega) (by omega)).trans hT.2.1
  refine ⟨sI S 2 7 (nI (i + 1)), ?_, ?_, sq_hit _ _ _ _, ?_, fun k hk => ?_, by omega, by omega, fun u k a b d => ?_⟩
  · rw [u_X4_advance, e, h2, if_neg (nI_ge hi (by omega)), nI_add, stp_s]
  · rw [sq_off (by omega)]; exact h1
  · rw [sq_off (by omega)]; exact h3
  · rw [sq_off (by omega)]; exact h4 k hk
  · rw [sq_off (by omega)]; exact h7 u k a b d
theorem x4_fail (hT : TK S0 n κ vl ps) (hk : ∃ k, k ≤ 24 ∧ S0.1 3 5 = nI k) (h : CQ S0 S n w0 i c) (hf : 0 < f ∧ f ≤ 6) : ∃ S', f_X4_fail F S 2 (nI f) = some S' ∧ DQ S0 S' ps f i := by
  obtain ⟨h1, h2, h3, h4, h5, h6, h7⟩ := h
  have t0 := hT.1
  have e : S.1 9 i = nI (ps i) := (h7 9 i (by omega) (by omega) (by omega)).trans (hT.2.2.1 i h6).2
  refine ⟨sI (sI S 2 1 (nI f)) 2 2 (nI (ps i)), ?_, ?_, hf, sq_hit _ _ _ _, ⟨w0 + c.length, ?_, ?_⟩, ?_, fun u k a => ?_⟩
  · rw [u_X4_fail, h1, if_pos rfl, stp_s, sq_off (by omega), h2, inb_n (by omega) (by omega), ck_t, stp_s, nI_clamp (by omega), sq_off (by omega), e]
  · rw [sq_off (by omega), sq_hit]
  · exact (show w0 + c.length ≤ 300 by omega)
  · rw [sq_off (by omega), sq_off (by omega)]; exact h3
  · rw [sq_off (by omega), sq_off (by omega), h7 3 5 (by omega) (by omega) (by omega)]; exact hk
  · rw [sq_off (by omega), sq_off (by omega)]; exact h7 u k (by omega) (by omega) (by omega)
theorem gd_app (c : List Nat) (w k : Nat) : (c ++ [w]).getD k 0 = if k < c.length then c.getD k 0 else (if k = c.length then w else 0) := by
  rw [List.getD_eq_getElem?_getD, List.getD_eq_getElem?_getD, List.getElem?_append]
  split
  · rfl
  · split
    · rename_i h; subst h; simp
    · rename_i h1 h2
      rw [List.getElem?_singleton, if_neg (by omega)]; rfl
theorem x4_app (hT : TK S0 n κ vl ps) (h : CQ S0 S n w0 i c) (w : Nat) (hb : w0 + c.length < i) : ∃ S', f_X5_append F S 3 (nI w) = some S' ∧ CQ S0 S' n w0 i (c ++ [w]) := by
  obtain ⟨h1, h2, h3, h4, h5, h6, h7⟩ := h
  have t0 := hT.1
  have hl : (c ++ [w]).length = c.length + 1 := by rw [List.length_append, List.length_singleton]
  refine ⟨sI (sI S 4 (w0 + c.length) (nI w)) 3 1 (nI (w0 + c.length + 1)), ?_, ?_, ?_, ?_, fun k hk => ?_, by omega, h6, fun u k a b d => ?_⟩
  · rw [u_X5_append, h3, if_neg (nI_ge (by omega) (by omega)), inb_n (by omega) (by omega), ck_t, stp_s, nI_clamp (by omega), sq_u (by decide), h3, nI_add, stp_s]
  · rw [sq_off (by omega), sq_off (by omega)]; exact h1
  · rw [sq_off (by omega), sq_off (by omega)]; exact h2
  · rw [hl, sq_hit, Nat.add_assoc]
  · rw [sq_off (by omega), gd_app]
    by_cases q : k < c.length
    · rw [if_pos q, sq_off (by omega)]; exact h4 k q
    · have q2 : k = c.length := by omega
      rw [if_neg q, if_pos q2, q2, sq_hit]
  · rw [sq_off (by omega), sq_off (by omega)]; exact h7 u k a b d
theorem x4_emit (hT : TK S0 n κ vl ps) (h : CQ S0 S n w0 i c) (w : Nat) (hb : w0 + c.length < i) : ∃ S', f_X4_emit F S 2 (nI w) = some S' ∧ CQ S0 S' n w0 i (c ++ [10000 + w]) := by
  obtain ⟨S', a, b⟩ := x4_app (F := F) hT h (10000 + w) hb
  exact ⟨S', by rw [u_X4_emit, nI_add, a, bd_s], b⟩
/-- behind a fault -/
theorem d4_kind (h : DQ S0 S ps f j) : f_X4_kind F S 2 = some (nI 1) := by rw [u_X4_kind, if_neg h.nz]
theorem d4_fail (h : DQ S0 S ps f j) (a : Int32) : f_X4_fail F S 2 a = some S := by rw [u_X4_fail, if_neg h.nz]
theorem d4_adv (h : DQ S0 S ps f j) : ∃ S', f_X4_advance F S 2 = some S' ∧ DQ S0 S' ps f j := by
  rw [u_X4_advance]
  split
  · exact ⟨S, rfl, h⟩
  · obtain ⟨h1, h2, h3, ⟨z, z1, z2⟩, ⟨k, k1, k2⟩, h5⟩ := h
    exact ⟨_, rfl, (sq_off (by omega)).trans h1, h2, (sq_off (by omega)).trans h3, ⟨z, z1, (sq_off (by omega)).trans z2⟩, ⟨k, k1, (sq_off (by omega)).trans k2⟩, fun u k a => (sq_off (by omega)).trans (h5 u k a)⟩
theorem d4_app (h : DQ S0 S ps f j) (a : Int32) : ∃ S', f_X5_append F S 3 a = some S' ∧ DQ S0 S' ps f j := by
  obtain ⟨h1, h2, h3, ⟨z, z1, z2⟩, ⟨k, k1, k2⟩, h5⟩ := h
  rw [u_X5_append, z2]
  by_cases q : 300 ≤ z
  · rw [if_pos (nI_le q (by omega))]
    exact ⟨S, rfl, h1, h2, h3, ⟨z, z1, z2⟩, ⟨k, k1, k2⟩, h5⟩
  · rw [if_neg (nI_ge (by omega) (by omega)), inb_n (by omega) (by omega), ck_t, stp_s, nI_clamp (by omega), sq_u (by decide), z2, nI_add, stp_s]
    exact ⟨_, rfl, (sq_off (by omega)).trans ((sq_off (by omega)).trans h1), h2, (sq_off (by omega)).trans ((sq_off (by omega)).trans h3), ⟨z + 1, by omega, sq_hit _ _ _ _⟩, ⟨k, k1, (sq_off (by omega)).trans ((sq_off (by omega)).trans k2)⟩, fun u k a => (sq_off (by omega)).trans ((sq_off (by omega)).trans (h5 u k a))⟩
theorem d4_emit (h : DQ S0 S ps f j) (a : Int32) : ∃ S', f_X4_emit F S 2 a = some S' ∧ DQ S0 S' ps f j := by
  obtain ⟨S', x, y⟩ := d4_app (F := F) h (nI 10000 + a)
  exact ⟨S', by rw [u_X4_emit, x, bd_s], y⟩
theorem d4_expect (h : DQ S0 S ps f j) {a : Nat} (ha : 1 < a ∧ a < 100) : f_X4_expect F S 2 (nI a) = some S := by
  rw [u_X4_expect, d4_kind h, bd_s, if_neg (fun e => by rw [nI_eq (by omega) (by omega)] at e; omega), d4_fail h, bd_s]
theorem x4_expect (hT : TK S0 n κ vl ps) (hk : ∃ k, k ≤ 24 ∧ S0.1 3 5 = nI k) (h : CQ S0 S n w0 i c) {a : Nat} (ha : 0 < a ∧ a < 100) : CRs S0 n w0 ps (f_X4_expect F S 2 (nI a)) c (tEx κ a i []) := by
  have kb := hT.b i
  rw [u_X4_expect, x4_kind hT h, bd_s]
  unfold tEx
  by_cases e : κ i = a
  · obtain ⟨S', x, y⟩ := x4_adv (F := F) hT h (by omega)
    rw [if_pos (by rw [e]), x, bd_s, if_pos e]
    exact ⟨S', rfl, fun _ => by rw [List.append_nil]; exact y, fun z => absurd rfl z⟩
  · obtain ⟨S', x, y⟩ := x4_fail (F := F) (f := 1) hT hk h (by omega)
    rw [if_neg (fun e2 => by rw [nI_eq (by omega) (by omega)] at e2; exact e e2), x, bd_s, if_neg e]
    exact ⟨S', rfl, fun z => absurd z (by show ¬ 1 = 0; omega), fun _ => y⟩
theorem x4_num (hT : TK S0 n κ vl ps) (hk : ∃ k, k ≤ 24 ∧ S0.1 3 5 = nI k) (h : CQ S0 S n w0 i c) {lo hi : Nat} (hl : lo < 20000) (hh : hi < 20000) : (κ i = 2 ∧ lo ≤ vl i ∧ vl i ≤ hi ∧ ∃ S', f_X4_expectNumber F S 2 (nI lo) (nI hi) = some (S', nI (vl i)) ∧ CQ S0 S' n w0 (i + 1) c) ∨ (κ i = 2 ∧ ¬ (lo ≤ vl i ∧ vl i ≤ hi) ∧ ∃ S' v, f_X4_expectNumber F S 2 (nI lo) (nI hi) = some (S', v) ∧ DQ S0 S' ps 2 i) ∨ (κ i ≠ 2 ∧ ∃ S' v, f_X4_expectNumber F S 2 (nI lo) (nI hi) = some (S', v) ∧ DQ S0 S' ps 1 i) := by
  have kb := hT.b i
  have vb := hT.2.2.2.2.2.2 i
  have t0 := hT.1
  by_cases e : κ i = 2
  · have hi' := hT.tl (i := i) (by omega)
    have ev : S.1 10 i = nI (vl i) := (h.2.2.2.2.2.2 10 i (by omega) (by omega) (by omega)).trans (hT.2.2.2.1 i hi' e)
    have E : f_X4_expectNumber F S 2 (nI lo) (nI hi) = (if decide (lo ≤ vl i ∧ vl i ≤ hi) = true then (bd (f_X4_advance F S 2) fun q3 => some (q3, nI (vl i))) else (bd (f_X4_fail F S 2 (nI 2)) fun q4 => bd (f_X4_advance F q4 2) fun q5 => some (q5, nI (vl i)))) := by
      rw [u_X4_expectNumber, x4_kind hT h, bd_s, if_pos (by rw [e]), h.2.1, inb_n (by omega) (by omega), ck_t, nI_clamp (by omega), ev, win_n (by omega) (by omega) (by omega)]
    by_cases q : lo ≤ vl i ∧ vl i ≤ hi
    · obtain ⟨S', x, y⟩ := x4_adv (F := F) hT h (by omega)
      exact Or.inl ⟨e, q.1, q.2, S', by rw [E, if_pos (decide_eq_true q), x, bd_s], y⟩
    · obtain ⟨S', x, y⟩ := x4_fail (F := F) (f := 2) hT hk h (by omega)
      obtain ⟨S2, x2, y2⟩ := d4_adv (F := F) y
      exact Or.inr (Or.inl ⟨e, q, S2, nI (vl i), by rw [E, if_neg (fun z => q (of_decide_eq_true z)), x, bd_s, x2, bd_s], y2⟩)
  · obtain ⟨S', x, y⟩ := x4_fail (F := F) (f := 1) hT hk h (by omega)
    exact Or.inr (Or.inr ⟨e, S', -1, by rw [u_X4_expectNumber, x4_kind hT h, bd_s, if_neg (fun e2 => by rw [nI_eq (by omega) (by omega)] at e2; exact e e2), x, bd_s], y⟩)
theorem d4_num (h : DQ S0 S ps f j) (a b : Int32) : f_X4_expectNumber F S 2 a b = some (S, -1) := by
  rw [u_X4_expectNumber, d4_kind h, bd_s, if_neg (by decide), d4_fail h, bd_s]

theorem d4_readProduct_7 {r : mS → Nat → Int32 → Option mS} {a1 : Int32} {k v : Nat} (h : DQ S0 S ps f j) : lX4_readProduct_7 r F 2 a1 (k + 1) S (nI v) = some S := by
  rw [u_X4_readProduct_7, d4_kind h, bd_s]
  by_cases q : nI 300 ≤ nI v
  · rw [if_pos q]
  · rw [if_neg q, if_neg (by decide), bd_s, if_neg (by decide)]
theorem d4_readProduct {r : mS → Nat → Int32 → Option mS} {a1 : Int32} (hF : 0 < F) (hD : r S 2 a1 = some S) (h : DQ S0 S ps f j) : b_X4_readProduct r F S 2 a1 = some S := by
  obtain ⟨G, rfl⟩ : ∃ G, F = G + 1 := ⟨F - 1, by omega⟩
  show bd (r S 2 a1) _ = _
  rw [hD, bd_s]
  exact d4_readProduct_7 (v := 0) h
theorem x4_readProduct_7 {r : mS → Nat → Int32 → Option mS} {one : Nat → tR} {a1 : Int32} (hT : TK S0 n κ vl ps) (hG : tG tyN cdN one) (hO : ∀ {S : mS} {i : Nat} {c : List Nat}, CQ S0 S n w0 i c → CRs S0 n w0 ps (r S 2 a1) c (one i)) (cb : List Nat) : ∀ (m v k : Nat) {S : mS} {j : Nat} {acc : List Nat}, v + m = 300 → m < k → CQ S0 S n w0 j (cb ++ acc) → CRs S0 n w0 ps (lX4_readProduct_7 r F 2 a1 k S (nI v)) cb (tCl κ one o69 m j acc)
  | 0, v, k, S, j, acc, hv, hk, h => by
    obtain ⟨k, rfl⟩ : ∃ k', k = k' + 1 := ⟨k - 1, by omega⟩
    rw [u_X4_readProduct_7, if_pos (nI_le (by omega) (by omega))]
    exact ⟨S, rfl, fun _ => h, fun z => absurd rfl z⟩
  | m + 1, v, k, S, j, acc, hv, hk, h => by
    obtain ⟨k, rfl⟩ : ∃ k', k = k' + 1 := ⟨k - 1, by omega⟩
    have kb := hT.b j
    have t0 := hT.1
    have hj := h.2.2.2.2.2.1
    have E : ∀ (X : Option mS), lX4_readProduct_32 r F (fun (S : mS) (v2 : Int32) => lX4_readProduct_7 r F 2 a1 k S v2) 2 a1 S (nI v) = X → lX4_readProduct_7 r F 2 a1 (k + 1) S (nI v) = if o69 (κ j) = true then X else some S := fun X hX => by
      rw [u_X4_readProduct_7, if_neg (nI_ge (by omega) (by omega)), x4_kind hT h, bd_s, bd_s, ifn (b := 9) (by omega) (by omega), ifn (b := 10) (by omega) (by omega), hX]
      unfold o69
      by_cases a : κ j = 9
      · rw [if_pos a, if_pos (decide_eq_true (Or.inl a))]
      · by_cases b : κ j = 10
        · rw [if_neg a, if_pos b, if_pos (decide_eq_true (Or.inr b))]
        · rw [if_neg a, if_neg b, if_neg (fun z => by have := of_decide_eq_true z; omega)]
    rw [E _ rfl]
    unfold tCl
    cases ho : o69 (κ j)
    · rw [if_neg Bool.false_ne_true, if_neg Bool.false_ne_true]
      exact ⟨S, rfl, fun _ => h, fun z => absurd rfl z⟩
    · have hk2 : κ j = 9 ∨ κ j = 10 := of_decide_eq_true ho
      have jn := hT.tl (i := j) (by omega)
      rw [if_pos rfl, if_pos rfl, u_X4_readProduct_32, x4_kind hT h, bd_s]
      obtain ⟨S1, x1, y1⟩ := x4_adv (F := F) hT h (by omega)
      rw [x1, bd_s]
      obtain ⟨S2, x2, y2, y3⟩ := hO y1
      rw [x2, bd_s]
      have g := hG (j + 1) (by omega)
      by_cases e : (one (j + 1)).1 = 0
      · rw [tB_0 e]
        have y4 := y2 e
        have b1 := (g.2.2.2 e).2.1
        have b2 := h.2.2.2.2.1
        obtain ⟨S3, x3, y5⟩ := x4_emit (F := F) hT y4 (κ j) (by
          rw [List.length_append]
          rw [List.length_append] at b2 ⊢
          omega)
        rw [x3, bd_s, nI_add]
        refine x4_readProduct_7 hT hG hO cb m (v + 1) k (by omega) (by omega) ?_
        rw [show cb ++ (acc ++ (one (j + 1)).2.2 ++ [10000 + κ j]) = cb ++ acc ++ (one (j + 1)).2.2 ++ [10000 + κ j] by simp only [List.append_assoc]]
        exact y5
      · rw [tB_n e]
        obtain ⟨S3, x3, y5⟩ := d4_emit (F := F) (y3 e) (nI (κ j))
        obtain ⟨k, rfl⟩ : ∃ k', k = k' + 1 := ⟨k - 1, by omega⟩
        rw [x3, bd_s, nI_add, d4_readProduct_7 y5]
        exact ⟨S3, rfl, fun z => absurd z e, fun _ => y5⟩
theorem x4_readProduct {r : mS → Nat → Int32 → Option mS} {one : Nat → tR} {a1 : Int32} (hF : 301 < F) (hT : TK S0 n κ vl ps) (hG : tG tyN cdN one) (hO : ∀ {S : mS} {i : Nat} {c : List Nat}, CQ S0 S n w0 i c → CRs S0 n w0 ps (r S 2 a1) c (one i)) {S : mS} {i : Nat} {c : List Nat} (h : CQ S0 S n w0 i c) : CRs S0 n w0 ps (b_X4_readProduct r F S 2 a1) c (tCh κ one o69 i) := by
  obtain ⟨S1, x1, y1, y2⟩ := hO h
  show CRs S0 n w0 ps (bd (r S 2 a1) fun q1 => lX4_readProduct_7 r F 2 a1 F q1 (nI 0)) c _
  rw [x1, bd_s]
  unfold tCh
  by_cases e : (one i).1 = 0
  · rw [tB_0 e]
    exact x4_readProduct_7 hT hG hO c 300 0 F (by omega) (by omega) (y1 e)
  · obtain ⟨G, rfl⟩ : ∃ G, F = G + 1 := ⟨F - 1, by omega⟩
    rw [tB_n e, d4_readProduct_7 (y2 e)]
    exact ⟨S1, rfl, fun z => absurd z e, fun _ => y2 e⟩

theorem d4_readSum_7 {r : mS → Nat → Int32 → Option mS} {a1 : Int32} {k v : Nat} (h : DQ S0 S ps f j) : lX4_readSum_7 r F 2 a1 (k + 1) S (nI v) = some S := by
  rw [u_X4_readSum_7, d4_kind h, bd_s]
  by_cases q : nI 300 ≤ nI v
  · rw [if_pos q]
  · rw [if_neg q, if_neg (by decide), bd_s, if_neg (by decide)]
theorem d4_readSum {r : mS → Nat → Int32 → Option mS} {a1 : Int32} (hF : 0 < F) (hD : r S 2 a1 = some S) (h : DQ S0 S ps f j) : b_X4_readSum r F S 2 a1 = some S := by
  obtain ⟨G, rfl⟩ : ∃ G, F = G + 1 := ⟨F - 1, by omega⟩
  show bd (r S 2 a1) _ = _
  rw [hD, bd_s]
  exact d4_readSum_7 (v := 0) h
theorem x4_readSum_7 {r : mS → Nat → Int32 → Option mS} {one : Nat → tR} {a1 : Int32} (hT : TK S0 n κ vl ps) (hG : tG tyN cdN one) (hO : ∀ {S : mS} {i : Nat} {c : List Nat}, CQ S0 S n w0 i c → CRs S0 n w0 ps (r S 2 a1) c (one i)) (cb : List Nat) : ∀ (m v k : Nat) {S : mS} {j : Nat} {acc : List Nat}, v + m = 300 → m < k → CQ S0 S n w0 j (cb ++ acc) → CRs S0 n w0 ps (lX4_readSum_7 r F 2 a1 k S (nI v)) cb (tCl κ one o78 m j acc)
  | 0, v, k, S, j, acc, hv, hk, h => by
    obtain ⟨k, rfl⟩ : ∃ k', k = k' + 1 := ⟨k - 1, by omega⟩
    rw [u_X4_readSum_7, if_pos (nI_le (by omega) (by omega))]
    exact ⟨S, rfl, fun _ => h, fun z => absurd rfl z⟩
  | m + 1, v, k, S, j, acc, hv, hk, h => by
    obtain ⟨k, rfl⟩ : ∃ k', k = k' + 1 := ⟨k - 1, by omega⟩
    have kb := hT.b j
    have t0 := hT.1
    have hj := h.2.2.2.2.2.1
    have E : ∀ (X : Option mS), lX4_readSum_32 r F (fun (S : mS) (v2 : Int32) => lX4_readSum_7 r F 2 a1 k S v2) 2 a1 S (nI v) = X → lX4_readSum_7 r F 2 a1 (k + 1) S (nI v) = if o78 (κ j) = true then X else some S := fun X hX => by
      rw [u_X4_readSum_7, if_neg (nI_ge (by omega) (by omega)), x4_kind hT h, bd_s, bd_s, ifn (b := 7) (by omega) (by omega), ifn (b := 8) (by omega) (by omega), hX]
      unfold o78
      by_cases a : κ j = 7
      · rw [if_pos a, if_pos (decide_eq_true (Or.inl a))]
      · by_cases b : κ j = 8
        · rw [if_neg a, if_pos b, if_pos (decide_eq_true (Or.inr b))]
        · rw [if_neg a, if_neg b, if_neg (fun z => by have := of_decide_eq_true z; omega)]
    rw [E _ rfl]
    unfold tCl
    cases ho : o78 (κ j)
    · rw [if_neg Bool.false_ne_true, if_neg Bool.false_ne_true]
      exact ⟨S, rfl, fun _ => h, fun z => absurd rfl z⟩
    · have hk2 : κ j = 7 ∨ κ j = 8 := of_decide_eq_true ho
      have jn := hT.tl (i := j) (by omega)
      rw [if_pos rfl, if_pos rfl, u_X4_readSum_32, x4_kind hT h, bd_s]
      obtain ⟨S1, x1, y1⟩ := x4_adv (F := F) hT h (by omega)
      rw [x1, bd_s]
      obtain ⟨S2, x2, y2, y3⟩ := hO y1
      rw [x2, bd_s]
      have g := hG (j + 1) (by omega)
      by_cases e : (one (j + 1)).1 = 0
      · rw [tB_0 e]
        have y4 := y2 e
        have b1 := (g.2.2.2 e).2.1
        have b2 := h.2.2.2.2.1
        obtain ⟨S3, x3, y5⟩ := x4_emit (F := F) hT y4 (κ j) (by
          rw [List.length_append]
          rw [List.length_append] at b2 ⊢
          omega)
        rw [x3, bd_s, nI_add]
        refine x4_readSum_7 hT hG hO cb m (v + 1) k (by omega) (by omega) ?_
        rw [show cb ++ (acc ++ (one (j + 1)).2.2 ++ [10000 + κ j]) = cb ++ acc ++ (one (j + 1)).2.2 ++ [10000 + κ j] by simp only [List.append_assoc]]
        exact y5
      · rw [tB_n e]
        obtain ⟨S3, x3, y5⟩ := d4_emit (F := F) (y3 e) (nI (κ j))
        obtain ⟨k, rfl⟩ : ∃ k', k = k' + 1 := ⟨k - 1, by omega⟩
        rw [x3, bd_s, nI_add, d4_readSum_7 y5]
        exact ⟨S3, rfl, fun z => absurd z e, fun _ => y5⟩
theorem x4_readSum {r : mS → Nat → Int32 → Option mS} {one : Nat → tR} {a1 : Int32} (hF : 301 < F) (hT : TK S0 n κ vl ps) (hG : tG tyN cdN one) (hO : ∀ {S : mS} {i : Nat} {c : List Nat}, CQ S0 S n w0 i c → CRs S0 n w0 ps (r S 2 a1) c (one i)) {S : mS} {i : Nat} {c : List Nat} (h : CQ S0 S n w0 i c) : CRs S0 n w0 ps (b_X4_readSum r F S 2 a1) c (tCh κ one o78 i) := by
  obtain ⟨S1, x1, y1, y2⟩ := hO h
  show CRs S0 n w0 ps (bd (r S 2 a1) fun q1 => lX4_readSum_7 r F 2 a1 F q1 (nI 0)) c _
  rw [x1, bd_s]
  unfold tCh
  by_cases e : (one i).1 = 0
  · rw [tB_0 e]
    exact x4_readSum_7 hT hG hO c 300 0 F (by omega) (by omega) (y1 e)
  · obtain ⟨G, rfl⟩ : ∃ G, F = G + 1 := ⟨F - 1, by omega⟩
    rw [tB_n e, d4_readSum_7 (y2 e)]
    exact ⟨S1, rfl, fun z => absurd z e, fun _ => y2 e⟩

theorem x4_enter (hT : TK S0 n κ vl ps) (hk : ∃ k, k ≤ 24 ∧ S0.1 3 5 = nI k) (h : CQ S0 S n w0 i c) (hi : κ i ≠ 0) {d : Nat} (hd : d ≤ 8) : (0 < d ∧ ∃ S', f_X4_canEnter F S 2 (nI (8 - d)) = some (S', true) ∧ CQ S0 S' n w0 (i + 1) c) ∨ (d = 0 ∧ ∃ S', f_X4_canEnter F S 2 (nI (8 - d)) = some (S', false) ∧ DQ S0 S' ps 3 i) := by
  by_cases e : d = 0
  · obtain ⟨S', x, y⟩ := x4_fail (F := F) (f := 3) hT hk h (by omega)
    refine Or.inr ⟨e, S', ?_, y⟩
    rw [u_X4_canEnter, if_neg (nI_nlt (by omega) (by omega)), x, bd_s]
  · obtain ⟨S', x, y⟩ := x4_adv (F := F) hT h hi
    refine Or.inl ⟨by omega, S', ?_, y⟩
    rw [u_X4_canEnter, if_pos (nI_lt (by omega) (by omega)), x, bd_s]
theorem u_b_One {r : mS → Nat → Int32 → Int32 → Option mS} {S : mS} {a1 : Int32} : b_X4_readOne r F S 2 a1 = bd (f_X4_kind F S 2) fun q1 => if q1 = (nI 2) then (bd (f_X4_expectNumber F S 2 (nI 0) (nI 9999)) fun q17 => bd (f_X5_append F q17.1 3 q17.2) fun q18 => some q18) else (if (f_X8_isWithin S q1 (nI 16) (nI 23)) = true then (bd (f_X4_readName F S 2 q1) fun q15 => some q15) else (if q1 = (nI 11) then (bd (f_X4_canEnter F S 2 a1) fun q2 => if q2.2 = true then (bd (r q2.1 2 q1 (a1 + (nI 1))) fun q3 => some q3) else (some q2.1)) else (if q1 = (nI 8) then (bd (f_X4_canEnter F S 2 a1) fun q5 => if q5.2 = true then (bd (r q5.1 2 q1 (a1 + (nI 1))) fun q6 => some q6) else (some q5.1)) else (if q1 = (nI 37) then (bd (f_X4_canEnter F S 2 a1) fun q8 => if q8.2 = true then (bd (r q8.1 2 q1 (a1 + (nI 1))) fun q9 => some q9) else (some q8.1)) else (bd (f_X4_fail F S 2 (nI 1)) fun q11 => some q11))))) := rfl
theorem u_b_Ent {rs ro : mS → Nat → Int32 → Option mS} {S : mS} {a1 a2 : Int32} : b_X4_readEntered rs ro F S 2 a1 a2 = if a1 = (nI 11) then (bd (rs S 2 a2) fun q8 => bd (f_X4_expect F q8 2 (nI 12)) fun q9 => some q9) else (if a1 = (nI 8) then (bd (ro S 2 a2) fun q5 => bd (f_X4_emit F q5 2 (nI 38)) fun q6 => some q6) else (bd (ro S 2 a2) fun q1 => bd (f_X4_expect F q1 2 (nI 32)) fun q2 => bd (ro q2 2 a2) fun q3 => bd (f_X4_emit F q3 2 (nI 37)) fun q4 => some q4)) := rfl
theorem bd_id {α : Type} (o : Option α) : (bd o fun q => some q) = o := by cases o <;> rfl
theorem d4_One {r : mS → Nat → Int32 → Int32 → Option mS} {a1 : Int32} (h : DQ S0 S ps f j) : b_X4_readOne r F S 2 a1 = some S := by
  rw [u_b_One, d4_kind h, bd_s, if_neg (by decide), win_n (by decide) (by decide) (by decide), if_neg (by decide), if_neg (by decide), if_neg (by decide), if_neg (by decide), d4_fail h, bd_s]
/-- a ONE, given what is read inside -/
theorem x4_One {r : mS → Nat → Int32 → Int32 → Option mS} (hT : TK S0 n κ vl ps) (hk : ∃ k, k ≤ 24 ∧ S0.1 3 5 = nI k) (hlt : S0.1 2 8 = nI (if lt = true then 1 else 0)) {d : Nat} (hd : d ≤ 8) (ent : tR) (h : CQ S0 S n w0 i c) (he0 : d = 0 → ent = (3, i, [])) (he : 0 < d → κ i = 11 ∨ κ i = 8 ∨ κ i = 37 → ∀ {S' : mS}, CQ S0 S' n w0 (i + 1) c → CRs S0 n w0 ps (r S' 2 (nI (κ i)) (nI (8 - d) + nI 1)) c ent) : CRs S0 n w0 ps (b_X4_readOne r F S 2 (nI (8 - d))) c (tHd κ vl lt i ent) := by
  have kb := hT.b i
  have t0 := hT.1
  have hb := h.2.2.2.2.1
  have e2l : S.1 2 8 = nI (if lt = true then 1 else 0) := (h.2.2.2.2.2.2 2 8 (by omega) (by omega) (by omega)).trans hlt
  rw [u_b_One, x4_kind hT h, bd_s, ifn (b := 2) (by omega) (by omega), ifn (b := 11) (by omega) (by omega), ifn (b := 8) (by omega) (by omega), ifn (b := 37) (by omega) (by omega), win_n (by omega) (by omega) (by omega)]
  unfold tHd
  by_cases e2 : κ i = 2
  · rw [if_pos e2, if_pos e2]
    rcases x4_num (F := F) hT hk h (lo := 0) (hi := 9999) (by omega) (by omega) with ⟨-, -, q, S1, x, y⟩ | ⟨-, q, S1, v, x, y⟩ | ⟨q, -⟩
    · obtain ⟨S2, x2, y2⟩ := x4_app (F := F) hT y (vl i) (by omega)
      rw [x, bd_s, x2, bd_s, if_pos q]
      exact ⟨S2, rfl, fun _ => y2, fun z => absurd rfl z⟩
    · obtain ⟨S2, x2, y2⟩ := d4_app (F := F) y v
      rw [x, bd_s, x2, bd_s, if_neg (by omega)]
      exact ⟨S2, rfl, fun z => absurd z (by show ¬ 2 = 0; omega), fun _ => y2⟩
    · exact absurd e2 q
  rw [if_neg e2, if_neg e2]
  by_cases e3 : 16 ≤ κ i ∧ κ i ≤ 23
  · rw [if_pos (decide_eq_true e3), if_pos e3, bd_id, u_X4_readName, ifn (b := 23) (by omega) (by omega), nI_add]
    have nm : ∃ S', (bd (f_X5_append F S 3 (nI (10000 + κ i))) fun q1 => bd (f_X4_advance F q1 2) fun q2 => some q2) = some S' ∧ CQ S0 S' n w0 (i + 1) (c ++ [10000 + κ i]) := by
      obtain ⟨h1, h2, h3, h4, h5, h6, h7⟩ := h
      have jn := hT.tl (i := i) (by omega)
      have hl : (c ++ [10000 + κ i]).length = c.length + 1 := by rw [List.length_append, List.length_singleton]
      have t6 : S.1 2 6 = nI n := (h7 2 6 (by omega) (by omega) (by omega)).trans hT.2.1
      refine ⟨sI (sI (sI S 4 (w0 + c.length) (nI (10000 + κ i))) 3 1 (nI (w0 + c.length + 1))) 2 7 (nI (i + 1)), ?_, ?_, sq_hit _ _ _ _, ?_, fun k hk => ?_, by omega, by omega, fun u k a b d => ?_⟩
      · rw [u_X5_append, h3, if_neg (nI_ge (by omega) (by omega)), inb_n (by omega) (by omega), ck_t, stp_s, nI_clamp (by omega), sq_u (by decide), h3, nI_add, stp_s, bd_s, u_X4_advance, sq_off (by omega), sq_off (by omega), t6, sq_off (by omega), sq_off (by omega), h2, if_neg (nI_ge jn (by omega)), nI_add, stp_s, bd_s]
      · rw [sq_off (by omega), sq_off (by omega), sq_off (by omega)]; exact h1
      · rw [hl, sq_off (by omega), sq_hit, Nat.add_assoc]
      · rw [sq_off (by omega), sq_off (by omega), gd_app]
        by_cases q : k < c.length
        · rw [if_pos q, sq_off (by omega)]; exact h4 k q
        · have q2 : k = c.length := by omega
          rw [if_neg q, if_pos q2, q2, sq_hit]
      · rw [sq_off (by omega), sq_off (by omega), sq_off (by omega)]; exact h7 u k a b d
    by_cases e4 : κ i = 23
    · rw [if_pos e4, e2l]
      cases lt
      · rw [if_pos (show nI (if false = true then 1 else 0) = nI 0 from rfl), if_neg (fun z => absurd z.2 (by decide))]
        obtain ⟨S', x, y⟩ := nm
        rw [x]
        exact ⟨S', rfl, fun _ => y, fun z => absurd rfl z⟩
      · obtain ⟨S1, x, y⟩ := x4_fail (F := F) (f := 5) hT hk h (by omega)
        obtain ⟨S2, x2, y2⟩ := d4_app (F := F) y (nI (10000 + κ i))
        obtain ⟨S3, x3, y3⟩ := d4_adv (F := F) y2
        rw [if_neg (by decide), x, bd_s, x2, bd_s, x3, bd_s, if_pos ⟨e4, rfl⟩]
        exact ⟨S3, rfl, fun z => absurd z (by show ¬ 5 = 0; omega), fun _ => y3⟩
    · rw [if_neg e4, if_neg (fun z => e4 z.1)]
      obtain ⟨S', x, y⟩ := nm
      rw [x]
      exact ⟨S', rfl, fun _ => y, fun z => absurd rfl z⟩
  rw [if_neg (fun z => e3 (of_decide_eq_true z)), if_neg e3]
  by_cases e5 : κ i = 11 ∨ κ i = 8 ∨ κ i = 37
  · rw [if_pos e5]
    have key : CRs S0 n w0 ps (bd (f_X4_canEnter F S 2 (nI (8 - d))) fun q2 => if q2.2 = true then (bd (r q2.1 2 (nI (κ i)) (nI (8 - d) + (nI 1))) fun q3 => some q3) else (some q2.1)) c ent := by
      rcases x4_enter (F := F) hT hk h (by omega) hd with ⟨q, S1, x, y⟩ | ⟨q, S1, x, y⟩
      · rw [x, bd_s, if_pos rfl, bd_id]
        exact he q e5 y
      · rw [x, bd_s, if_neg Bool.false_ne_true, he0 q]
        exact ⟨S1, rfl, fun z => absurd z (by show ¬ 3 = 0; omega), fun _ => y⟩
    by_cases a : κ i = 11
    · rw [if_pos a]; exact key
    · by_cases b : κ i = 8
      · rw [if_neg a, if_pos b]; exact key
      · rw [if_neg a, if_neg b, if_pos (by omega)]; exact key
  · obtain ⟨S1, x, y⟩ := x4_fail (F := F) (f := 1) hT hk h (by omega)
    rw [if_neg e5, if_neg (by omega), if_neg (by omega), if_neg (by omega), x, bd_s]
    exact ⟨S1, rfl, fun z => absurd z (by show ¬ 1 = 0; omega), fun _ => y⟩
end
section
variable {F n w0 : Nat} {κ vl ps : Nat → Nat} {lt : Bool} {S0 : mS}
theorem d4_rO {D : Nat} {S : mS} {f j : Nat} {a : Int32} (h : DQ S0 S ps f j) : fD_X4_readOne F (D + 1) S 2 a = some S := d4_One h
theorem d4_rS {D : Nat} {S : mS} {f j : Nat} {a : Int32} (hF : 0 < F) (h : DQ S0 S ps f j) : fD_X4_readSum F (D + 1) S 2 a = some S := d4_readSum hF (d4_readProduct hF (d4_rO h) h) h
theorem x4_rO (hF : 301 < F) (hT : TK S0 n κ vl ps) (hk : ∃ k, k ≤ 24 ∧ S0.1 3 5 = nI k) (hlt : S0.1 2 8 = nI (if lt = true then 1 else 0)) : ∀ (d D : Nat), d < D → d ≤ 8 → ∀ {S : mS} {i : Nat} {c : List Nat}, CQ S0 S n w0 i c → CRs S0 n w0 ps (fD_X4_readOne F D S 2 (nI (8 - d))) c (tOn κ vl lt d i)
  | 0, D, hD, hd, S, i, c, h => by
    obtain ⟨D, rfl⟩ : ∃ D', D = D' + 1 := ⟨D - 1, by omega⟩
    exact x4_One hT hk hlt (d := 0) hd (3, i, []) h (fun _ => rfl) (fun z => absurd z (by omega))
  | d + 1, D, hD, hd, S, i, c, h => by
    obtain ⟨D, rfl⟩ : ∃ D', D = D' + 1 := ⟨D - 1, by omega⟩
    obtain ⟨D', hD'⟩ : ∃ D', D = D' + 1 := ⟨D - 1, by omega⟩
    have t0 := hT.1
    have ih : ∀ {S : mS} {i : Nat} {c : List Nat}, CQ S0 S n w0 i c → CRs S0 n w0 ps (fD_X4_readOne F D S 2 (nI (8 - (d + 1)) + nI 1)) c (tOn κ vl lt d i) := fun h => by
      rw [nI_add, show 8 - (d + 1) + 1 = 8 - d by omega]
      exact x4_rO hF hT hk hlt d D (by omega) (by omega) h
    have gO := tOn_g (vl := vl) (lt := lt) hT.N d
    refine x4_One hT hk hlt hd (tEn κ (tOn κ vl lt d) i) h (fun z => by omega) (fun _ e5 S' h' => ?_)
    have kb := hT.b i
    have jn := hT.tl (i := i) (by omega)
    rw [u_b_Ent, ifn (b := 11) (by omega) (by omega), ifn (b := 8) (by omega) (by omega)]
    unfold tEn
    by_cases a : κ i = 11
    · rw [if_pos a, if_pos a]
      have hs : CRs S0 n w0 ps _ c (tSm κ (tOn κ vl lt d) (i + 1)) := x4_readSum hF hT (tPr_g hT.N gO) (x4_readProduct hF hT gO ih) h'
      obtain ⟨S1, x1, y1, y2⟩ := hs
      rw [x1, bd_s, bd_id]
      by_cases e : (tSm κ (tOn κ vl lt d) (i + 1)).1 = 0
      · rw [tB_0 e]
        obtain ⟨S2, x2, y3, y4⟩ := x4_expect (F := F) hT hk (y1 e) (a := 12) (by omega)
        refine ⟨S2, x2, ?_, ?_⟩
        · unfold tEx at y3 ⊢
          split
          · rename_i q
            rw [if_pos q] at y3
            intro _
            have := y3 rfl
            rw [List.append_nil] at this
            exact this
          · exact fun z => absurd z (by show ¬ 1 = 0; omega)
        · unfold tEx at y4 ⊢
          split
          · exact fun z => absurd rfl z
          · rename_i q
            rw [if_neg q] at y4
            exact y4
      · have y5 := y2 e
        rw [tB_n e, d4_expect y5 (by omega)]
        exact ⟨S1, rfl, fun z => absurd z e, fun _ => y5⟩
    rw [if_neg a, if_neg a]
    obtain ⟨S1, x1, y1, y2⟩ := ih h'
    by_cases b : κ i = 8
    · rw [if_pos b, if_pos b, x1, bd_s, bd_id]
      by_cases e : (tOn κ vl lt d (i + 1)).1 = 0
      · rw [tB_0 e]
        have b1 := ((gO (i + 1) (by omega)).2.2.2 e).2.1
        have b2 := h.2.2.2.2.1
        obtain ⟨S2, x2, y3⟩ := x4_emit (F := F) hT (y1 e) 38 (by rw [List.length_append]; omega)
        rw [x2]
        refine ⟨S2, rfl, fun _ => ?_, fun z => absurd rfl z⟩
        rw [← List.append_assoc]
        exact y3
      · obtain ⟨S2, x2, y3⟩ := d4_emit (F := F) (y2 e) (nI 38)
        rw [tB_n e, x2]
        exact ⟨S2, rfl, fun z => absurd z e, fun _ => y3⟩
    · rw [if_neg b, if_neg b, x1, bd_s]
      by_cases e : (tOn κ vl lt d (i + 1)).1 = 0
      · rw [tB_0 e]
        have g1 := (gO (i + 1) (by omega)).2.2.2 e
        have g0 := gO (i + 1) (by omega)
        obtain ⟨S2, x2, y3, y4⟩ := x4_expect (F := F) hT hk (y1 e) (a := 32) (by omega)
        rw [x2, bd_s]
        unfold tEx at y3 y4 ⊢
        by_cases q : κ (tOn κ vl lt d (i + 1)).2.1 = 32
        · rw [if_pos q] at y3
          rw [if_pos q, tB_0 (r := (0, _, _)) rfl]
          have y5 := y3 rfl
          rw [List.append_nil] at y5
          obtain ⟨S3, x3, y6, y7⟩ := ih y5
          have jn2 := hT.tl (i := (tOn κ vl lt d (i + 1)).2.1) (by omega)
          rw [x3, bd_s, bd_id]
          by_cases e2 : (tOn κ vl lt d ((tOn κ vl lt d (i + 1)).2.1 + 1)).1 = 0
          · have g2 := (gO ((tOn κ vl lt d (i + 1)).2.1 + 1) (by omega)).2.2.2 e2
            have b2 := h.2.2.2.2.1
            have l1 := g1.2.1
            have l2 := g2.2.1
            obtain ⟨S4, x4, y8⟩ := x4_emit (F := F) hT (y6 e2) 37 (by rw [List.length_append, List.length_append]; show w0 + (c.length + (tOn κ vl lt d (i + 1)).2.2.length + (tOn κ vl lt d ((tOn κ vl lt d (i + 1)).2.1 + 1)).2.2.length) < (tOn κ vl lt d ((tOn κ vl lt d (i + 1)).2.1 + 1)).2.1; omega)
            rw [tB_0 e2, x4]
            refine ⟨S4, rfl, fun _ => ?_, fun z => absurd rfl z⟩
            rw [show c ++ ((tOn κ vl lt d (i + 1)).2.2 ++ (tOn κ vl lt d ((tOn κ vl lt d (i + 1)).2.1 + 1)).2.2 ++ [10037]) = c ++ (tOn κ vl lt d (i + 1)).2.2 ++ (tOn κ vl lt d ((tOn κ vl lt d (i + 1)).2.1 + 1)).2.2 ++ [10037] by simp only [List.append_assoc]]
            exact y8
          · obtain ⟨S4, x4, y8⟩ := d4_emit (F := F) (y7 e2) (nI 37)
            rw [tB_n e2, x4]
            exact ⟨S4, rfl, fun z => absurd z e2, fun _ => y8⟩
        · rw [if_neg q] at y4
          rw [if_neg q, tB_n (r := (1, _, _)) (by show ¬ 1 = 0; omega)]
          have y5 := y4 (by show ¬ 1 = 0; omega)
          obtain ⟨S4, x4, y8⟩ := d4_emit (F := F) y5 (nI 37)
          rw [hD', d4_rO y5, bd_s, x4, bd_s]
          exact ⟨S4, rfl, fun z => absurd z (by show ¬ 1 = 0; omega), fun _ => y8⟩
      · have y5 := y2 e
        obtain ⟨S4, x4, y8⟩ := d4_emit (F := F) y5 (nI 37)
        rw [tB_n e, d4_expect y5 (by omega), bd_s, hD', d4_rO y5, bd_s, x4, bd_s]
        exact ⟨S4, rfl, fun z => absurd z e, fun _ => y8⟩
theorem x4_rS (hF : 301 < F) (hT : TK S0 n κ vl ps) (hk : ∃ k, k ≤ 24 ∧ S0.1 3 5 = nI k) (hlt : S0.1 2 8 = nI (if lt = true then 1 else 0)) {d : Nat} (hd : d ≤ 8) {S : mS} {i : Nat} {c : List Nat} (h : CQ S0 S n w0 i c) : CRs S0 n w0 ps (f_X4_readSum F S 2 (nI (8 - d))) c (tSm κ (tOn κ vl lt d) i) := x4_readSum hF hT (tPr_g hT.N (tOn_g hT.N d)) (x4_readProduct hF hT (tOn_g hT.N d) (x4_rO hF hT hk hlt d 16 (by omega) hd)) h
end
