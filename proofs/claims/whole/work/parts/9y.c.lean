/-! ===== the class splits the tape up ===== -/
def s00 : mS := (fun _ _ => 0, fun _ _ => 0)
def wch (k : Nat) : Nat := ((strB.getD 0 []).getD k 0).toNatClampNeg
def nw (w : Nat) : Nat := [3, 4, 5, 5, 7, 4, 4, 6, 5, 5, 4, 5, 5, 3, 6, 2, 2, 2, 3, 3, 7, 5].getD w 0
theorem ch_c : ∀ k, k < 176 → f_J0_charAt_5068e 0 s00 0 (nI k) = some (nI (wch k)) ∧ wch k < 256 := by decide +kernel
theorem ch_n {F : Nat} {S : mS} {k : Nat} (h : k < 176) : f_J0_charAt_5068e F S 0 (nI k) = some (nI (wch k)) := by
  have e : f_J0_charAt_5068e F S 0 (nI k) = f_J0_charAt_5068e 0 s00 0 (nI k) := rfl
  rw [e]
  exact (ch_c k h).1
theorem nw_f : ∀ w, w < 22 → nw w ≤ 7 ∧ (∀ i, i < nw w → wch (8 * w + i) ≠ 32 ∧ 0 < wch (8 * w + i) ∧ wch (8 * w + i) < 256) ∧ (∀ i, i < 8 → nw w ≤ i → wch (8 * w + i) = 32) ∧ pkf (fun i => wch (8 * w + i)) (nw w) = wcs.getD w 0 := by decide +kernel
/-- a sign's place among the signs -/
def ixf (v : Int32) : Nat → Nat → Int32
  | 0, _ => -1
  | m + 1, j => if (strB.getD 1 []).getD j 0 = v then nI j else ixf v m (j + 1)
theorem ix_l {F : Nat} {S : mS} {a2 a3 v : Int32} : ∀ (m j k : Nat), j + m = 11 → m < k → lJ1_indexOfChar_4cfef_7 F 1 a2 a3 (nI 11) k S v (nI j) = some (ixf v m j)
  | 0, j, k, hj, hk => by
    obtain ⟨k, rfl⟩ : ∃ k', k = k' + 1 := ⟨k - 1, by omega⟩
    rw [u_J1_indexOfChar_4cfef_7, if_pos (nI_le (by omega) (by omega))]
    rfl
  | m + 1, j, k, hj, hk => by
    obtain ⟨k, rfl⟩ : ∃ k', k = k' + 1 := ⟨k - 1, by omega⟩
    rw [u_J1_indexOfChar_4cfef_7, if_neg (nI_ge (by omega) (by omega)), show strL.getD 1 0 = 11 from rfl, inb_n (by omega) (by omega), ck_t, nI_clamp (by omega), nI_add, ix_l m (j + 1) k (by omega) (by omega)]
    show _ = some (if (strB.getD 1 []).getD j 0 = v then nI j else ixf v m (j + 1))
    split <;> rfl
theorem ixq_c : ∀ b, b < 256 → f_J1_canEncode_9a6ad s00 ((Int32.toUInt32 (nI b) % 65536).toInt32) = true ∧ (if nI 0 ≤ ixf ((Int32.toUInt32 (nI b) % 65536).toInt32).toInt8.toInt32 11 0 then nI 3 + ixf ((Int32.toUInt32 (nI b) % 65536).toInt32).toInt8.toInt32 11 0 else nI 1) = nI (sg b) := by decide +kernel
section
variable {F : Nat} {B : Nat → Nat} {L : Nat} {S : mS}
theorem ixq_n (hF : 1000 < F) {b : Nat} (hb : b < 256) : (bd (f_J0_indexOf_0f7a4 F S 1 ((Int32.toUInt32 (nI b) % 65536).toInt32)) fun q4 => if (nI 0) ≤ q4 then (some ((nI 3) + q4)) else (some (nI 1))) = some (nI (sg b)) := by
  obtain ⟨c1, c2⟩ := ixq_c b hb
  have c1 : f_J1_canEncode_9a6ad S ((Int32.toUInt32 (nI b) % 65536).toInt32) = true := c1
  have e1 : f_J0_isLatin1_aae02 S 1 = true := rfl
  have e2 : f_J0_length_8abf5 F S 1 = some (nI 11) := by
    rw [u_J0_length_8abf5, u_J0_coder_7d493, if_neg (by decide), show inb (nI 0) 2 = true by decide, ck_t, bd_s]
    exact congrArg some (by decide +kernel)
  rw [u_J0_indexOf_0f7a4, u_J0_indexOf_7cf53, if_pos e1, e2, bd_s, u_J1_indexOf_4cfef, if_pos c1, show imax (nI 0) (nI 0) = nI 0 by decide, show imin (nI 11) (Int32.ofNat (strL.getD 1 0)) = nI 11 by decide, if_pos (by decide), u_J1_indexOfChar_4cfef, ix_l 11 0 F (by omega) (by omega), bd_s, bd_s, bd_s, bd_s]
  rw [← c2]
  split <;> rfl
/-- the class's tape -/
def TC (S : mS) (B : Nat → Nat) (L : Nat) : Prop := ∀ k, k < L → S.1 1 k = nI (B k)
theorem c_let {b : Nat} (h : b < 1000) : f_X4_isLetter S (nI b) = isL b := n_let (S := S) h
theorem c_dig {b : Nat} (h : b < 1000) : f_X4_isDigit S (nI b) = isD b := n_fig (S := S) h
theorem te_13 (hB : BL B L) (hT : TC S B L) {a2 : Int32} : ∀ (m q k : Nat), q ≤ L → L ≤ q + m → m < k → lX4_tokenEnd_13 F 1 a2 (nI L) k S (nI q) = some (nI (rn B isL m q))
  | m, q, k, hq, hm, hk => by
    obtain ⟨k, rfl⟩ : ∃ k', k = k' + 1 := ⟨k - 1, by omega⟩
    have h0 := hB.1
    rw [u_X4_tokenEnd_13]
    by_cases e : L ≤ q
    · rw [if_pos (nI_le e (by omega)), rn_n (by rw [hB.2.2 q e]; rfl)]
    · have hb := hB.2.1 q (by omega)
      rw [if_neg (nI_ge (by omega) (by omega)), inb_n (by omega) (by omega), ck_t, nI_clamp (by omega), hT q (by omega), c_let (by omega)]
      cases hl : isL (B q)
      · rw [if_neg Bool.false_ne_true, rn_n hl]
      · obtain ⟨m, rfl⟩ : ∃ m', m = m' + 1 := ⟨m - 1, by omega⟩
        rw [if_pos rfl, rn_s hl, nI_add]
        exact te_13 hB hT m (q + 1) k (by omega) (by omega) (by omega)
theorem te_42 (hB : BL B L) (hT : TC S B L) {a2 : Int32} : ∀ (m q k : Nat), q ≤ L → L ≤ q + m → m < k → lX4_tokenEnd_42 F 1 a2 (nI L) k S (nI q) = some (nI (rn B isD m q))
  | m, q, k, hq, hm, hk => by
    obtain ⟨k, rfl⟩ : ∃ k', k = k' + 1 := ⟨k - 1, by omega⟩
    have h0 := hB.1
    rw [u_X4_tokenEnd_42]
    by_cases e : L ≤ q
    · rw [if_pos (nI_le e (by omega)), rn_n (by rw [hB.2.2 q e]; rfl)]
    · have hb := hB.2.1 q (by omega)
      rw [if_neg (nI_ge (by omega) (by omega)), inb_n (by omega) (by omega), ck_t, nI_clamp (by omega), hT q (by omega), c_dig (by omega)]
      cases hl : isD (B q)
      · rw [if_neg Bool.false_ne_true, rn_n hl]
      · obtain ⟨m, rfl⟩ : ∃ m', m = m' + 1 := ⟨m - 1, by omega⟩
        rw [if_pos rfl, rn_s hl, nI_add]
        exact te_42 hB hT m (q + 1) k (by omega) (by omega) (by omega)
theorem x4_te (hF : 1000 < F) (hB : BL B L) (hT : TC S B L) {p : Nat} (hp : p < L) : f_X4_tokenEnd F S 1 (nI p) (nI L) = some (nI (tE B p)) := by
  have h0 := hB.1
  have hb := hB.2.1 p hp
  rw [u_X4_tokenEnd, inb_n (by omega) (by omega), ck_t, ck_t, ck_t, ck_t, nI_clamp (by omega), hT p hp, c_let (by omega), c_dig (by omega), nI_add, te_13 hB hT 301 (p + 1) F (by omega) (by omega) (by omega), te_42 hB hT 301 (p + 1) F (by omega) (by omega) (by omega), ifn (b := 60) (by omega) (by omega), ifn (b := 62) (by omega) (by omega), nI_1]
  unfold tE
  cases hl : isL (B p)
  · rw [if_neg Bool.false_ne_true, if_neg Bool.false_ne_true]
    cases hd : isD (B p)
    · rw [if_neg Bool.false_ne_true, if_neg Bool.false_ne_true]
      have key : (if nI L ≤ nI (p + 1) then some (nI (p + 1)) else ck (inb (nI (p + 1)) 300) (if S.1 1 (nI (p + 1)).toNatClampNeg = nI 61 then some (nI (p + 1 + 1)) else some (nI (p + 1)))) = some (nI (if B (p + 1) = 61 then p + 2 else p + 1)) := by
        by_cases e : L ≤ p + 1
        · rw [if_pos (nI_le e (by omega)), if_neg (by rw [hB.2.2 _ e]; decide)]
        · have hb2 := hB.2.1 (p + 1) (by omega)
          rw [if_neg (nI_ge (by omega) (by omega)), inb_n (by omega) (by omega), ck_t, nI_clamp (by omega), hT (p + 1) (by omega), ifn (by omega) (by omega)]
          split <;> rfl
      rw [key]
      by_cases a : B p = 60
      · rw [if_pos a]
        by_cases b : B (p + 1) = 61
        · rw [if_pos b, if_pos ⟨Or.inl a, b⟩]
        · rw [if_neg b, if_neg (fun z => b z.2)]
      · rw [if_neg a]
        by_cases a2 : B p = 62
        · rw [if_pos a2]
          by_cases b : B (p + 1) = 61
          · rw [if_pos b, if_pos ⟨Or.inr a2, b⟩]
          · rw [if_neg b, if_neg (fun z => b z.2)]
        · rw [if_neg a2, if_neg (fun z => by omega)]
    · rw [if_pos rfl, if_pos rfl]
  · rw [if_pos rfl, if_pos rfl]
theorem iw_38 (hB : BL B L) (hT : TC S B L) {a4 : Int32} {w p len : Nat} (hw : w < 22) (hp : p + len ≤ L) (hl : len < 8) : ∀ (m i k : Nat), i + m = len → m < k → ∃ b, lX4_isWord_38 F (nI w) 1 (nI p) a4 k S (nI len) (nI (8 * w)) (nI i) = some b ∧ (b = true ↔ ∀ x, i ≤ x → x < len → wch (8 * w + x) = B (p + x))
  | 0, i, k, hi, hk => by
    obtain ⟨k, rfl⟩ : ∃ k', k = k' + 1 := ⟨k - 1, by omega⟩
    exact ⟨true, by rw [u_X4_isWord_38, if_pos (nI_le (by omega) (by omega))], fun _ x a b => by omega, fun _ => rfl⟩
  | m + 1, i, k, hi, hk => by
    obtain ⟨k, rfl⟩ : ∃ k', k = k' + 1 := ⟨k - 1, by omega⟩
    have h0 := hB.1
    have cb := (ch_c (8 * w + i) (by omega)).2
    have hb := hB.2.1 (p + i) (by omega)
    obtain ⟨b, e1, e2⟩ := iw_38 hB hT (a4 := a4) hw hp hl m (i + 1) k (by omega) (by omega)
    rw [u_X4_isWord_38, if_neg (nI_ge (by omega) (by omega)), nI_add, ch_n (by omega), bd_s, nI_add, inb_n (by omega) (by omega), ck_t, nI_clamp (by omega), hT _ (by omega), ifn (by omega) (by omega), nI_add, e1]
    by_cases q : wch (8 * w + i) = B (p + i)
    · refine ⟨b, if_pos q, e2.trans ⟨fun z x a b => ?_, fun z x a b => z x (by omega) b⟩⟩
      by_cases y : x = i
      · rw [y]; exact q
      · exact z x (by omega) b
    · exact ⟨false, if_neg q, fun z => absurd z (by decide), fun z => absurd (z i (Nat.le_refl _) (by omega)) q⟩
theorem x4_isW (hF : 1000 < F) (hB : BL B L) (hT : TC S B L) {w p e : Nat} (hw : w < 22) (hpe : p ≤ e) (he : e ≤ L) (hl : ∀ k, k < e - p → isL (B (p + k)) = true) : f_X4_isWord F S (nI w) 1 (nI p) (nI e) = some (decide (wW B p (e - p) = wcs.getD w 0)) := by
  have h0 := hB.1
  obtain ⟨n1, n2, n3, n4⟩ := nw_f w hw
  have wl := wcs_lt w hw
  have wsm : wcs.getD w 0 < 1152921504606846976 := (by decide : ∀ w, w < 22 → wcs.getD w 0 < 1152921504606846976) w hw
  rw [u_X4_isWord, pk_sub hpe, pk_mul, Nat.mul_comm w 8, nI_add]
  by_cases e8 : 8 ≤ e - p
  · rw [if_pos (nI_le e8 (by omega)), decide_eq_false]
    unfold wW
    rw [if_neg (by omega)]
    omega
  rw [if_neg (nI_ge (by omega) (by omega)), ch_n (by omega), bd_s]
  have cb := (ch_c (8 * w + (e - p)) (by omega)).2
  obtain ⟨b, x1, x2⟩ := iw_38 (F := F) hB hT (a4 := nI e) hw (p := p) (len := e - p) (by omega) (by omega) (e - p) 0 F (by omega) (by omega)
  rw [ifn (by omega) (by omega), x1]
  have eW : wW B p (e - p) = pkf (fun k => B (p + k)) (e - p) := if_pos (by omega)
  have lb : ∀ k, k < e - p → 0 < B (p + k) ∧ B (p + k) < 256 := fun k hk => by
    have h1 := isL_n (hl k hk)
    have h2 := hB.b (p + k)
    omega
  have key : (wch (8 * w + (e - p)) = 32 ∧ ∀ x, 0 ≤ x → x < e - p → wch (8 * w + x) = B (p + x)) ↔ wW B p (e - p) = wcs.getD w 0 := by
    constructor
    · rintro ⟨z1, z2⟩
      have y1 : nw w ≤ e - p := by
        rcases Nat.lt_or_ge (e - p) (nw w) with y | y
        · exact absurd z1 (n2 _ y).1
        · exact y
      have y2 : e - p = nw w := by
        rcases Nat.lt_or_ge (nw w) (e - p) with y | y
        · have a1 := z2 (nw w) (Nat.zero_le _) y
          rw [n3 (nw w) (by omega) (Nat.le_refl _)] at a1
          have a2 := of_decide_eq_true (hl (nw w) y)
          omega
        · omega
      rw [eW, ← n4, y2]
      exact pkf_cong _ (fun k hk => (z2 k (Nat.zero_le _) (by omega)).symm)
    · intro z
      rw [eW, ← n4] at z
      obtain ⟨y1, y2⟩ := pkf_inj (e - p) (nw w) lb (fun k hk => (n2 k hk).2) z
      exact ⟨n3 _ (by omega) (by omega), fun x _ hx => (y2 x hx).symm⟩
  by_cases q : wch (8 * w + (e - p)) = 32
  · rw [if_pos q]
    refine congrArg some ?_
    by_cases z : wW B p (e - p) = wcs.getD w 0
    · rw [decide_eq_true z]; exact x2.mpr (key.mpr z).2
    · rw [decide_eq_false z]; exact Bool.eq_false_iff.mpr (fun y => z (key.mp ⟨q, x2.mp y⟩))
  · rw [if_neg q, decide_eq_false (fun z => q (key.mpr z).1)]
theorem x4_kow (hF : 1000 < F) (hB : BL B L) (hT : TC S B L) {p e : Nat} (hpe : p ≤ e) (he : e ≤ L) (hl : ∀ k, k < e - p → isL (B (p + k)) = true) : ∀ (m w k : Nat), w + m = 22 → m < k → lX4_kindOfWord_2 F 1 (nI p) (nI e) k S (nI w) = some (nI (kI (wW B p (e - p)) (wcs.drop w) (16 + w)))
  | 0, w, k, hw, hk => by
    obtain ⟨k, rfl⟩ : ∃ k', k = k' + 1 := ⟨k - 1, by omega⟩
    rw [u_X4_kindOfWord_2, if_pos (nI_le (by omega) (by omega)), show w = 22 by omega]
    rfl
  | m + 1, w, k, hw, hk => by
    obtain ⟨k, rfl⟩ : ∃ k', k = k' + 1 := ⟨k - 1, by omega⟩
    have dw : wcs.drop w = wcs.getD w 0 :: wcs.drop (w + 1) := (by decide : ∀ w, w < 22 → wcs.drop w = wcs.getD w 0 :: wcs.drop (w + 1)) w (by omega)
    rw [u_X4_kindOfWord_2, if_neg (nI_ge (by omega) (by omega)), x4_isW hF hB hT (by omega) hpe he hl, bd_s, dw, nI_add, nI_add, x4_kow hF hB hT hpe he hl m (w + 1) k (by omega) (by omega)]
    show _ = some (nI (if wW B p (e - p) = wcs.getD w 0 then 16 + w else kI (wW B p (e - p)) (wcs.drop (w + 1)) (16 + w + 1)))
    by_cases z : wW B p (e - p) = wcs.getD w 0
    · rw [decide_eq_true z, if_pos rfl, if_pos z]
    · rw [decide_eq_false z, if_neg Bool.false_ne_true, if_neg z, Nat.add_assoc]
theorem x4_ko (hF : 1000 < F) (hB : BL B L) (hT : TC S B L) {p : Nat} (hp : p < L) : f_X4_kindOf F S 1 (nI p) (nI (tE B p)) = some (nI (kd B p)) := by
  have h0 := hB.1
  have hb := hB.2.1 p hp
  have te := tE_le hB (p := p) (by omega)
  have tg := tE_gt (B := B) p
  rw [u_X4_kindOf, inb_n (by omega) (by omega), ck_t, ck_t, ck_t, ck_t, nI_clamp (by omega), hT p hp, c_let (by omega), c_dig (by omega), pk_sub (by omega), ifn (b := 2) (by omega) (by omega), ifn (b := 60) (by omega) (by omega), ixq_n hF hb, u_X4_kindOfWord, bd_id]
  unfold kd
  rw [if_neg (show ¬ B p = 256 by omega)]
  cases hl : isL (B p)
  · rw [if_neg Bool.false_ne_true, if_neg Bool.false_ne_true]
    cases hd : isD (B p)
    · rw [if_neg Bool.false_ne_true, if_neg Bool.false_ne_true]
      by_cases a : tE B p - p = 2
      · rw [if_pos a, if_pos a]
        split <;> rfl
      · rw [if_neg a, if_neg a]
    · rw [if_pos rfl, if_pos rfl]
  · rw [if_pos rfl, if_pos rfl]
    exact x4_kow hF hB hT (by omega) te (tE_L hB hl) 22 0 F (by omega) (by omega)
theorem x4_val (hB : BL B L) (hT : TC S B L) {p e : Nat} (hpe : p ≤ e) (he : e ≤ L) (hd : ∀ k, k < e - p → isD (B (p + k)) = true) : ∀ (m i k : Nat), i + m = e → p ≤ i → m < k → lX4_valueOf_5 F 1 (nI p) (nI e) k S (nI (nmC B p (i - p))) (nI i) = some (nI (nmC B p (e - p)))
  | 0, i, k, hi, hp, hk => by
    obtain ⟨k, rfl⟩ : ∃ k', k = k' + 1 := ⟨k - 1, by omega⟩
    have h0 := hB.1
    rw [u_X4_valueOf_5, if_pos (nI_le (by omega) (by omega)), show i = e by omega]
  | m + 1, i, k, hi, hp, hk => by
    obtain ⟨k, rfl⟩ : ∃ k', k = k' + 1 := ⟨k - 1, by omega⟩
    have h0 := hB.1
    have dq := of_decide_eq_true (hd (i - p) (by omega))
    rw [show p + (i - p) = i by omega] at dq
    have nb : nmC B p (i - p) ≤ 10000 := by
      cases i - p
      · exact Nat.zero_le _
      · exact Nat.min_le_left _ _
    have en : nmC B p (i + 1 - p) = min 10000 (nmC B p (i - p) * 10 + B i - 48) := by
      rw [show i + 1 - p = (i - p) + 1 by omega]
      show min 10000 (nmC B p (i - p) * 10 + B (p + (i - p)) - 48) = _
      rw [show p + (i - p) = i by omega]
    rw [u_X4_valueOf_5, if_neg (nI_ge (by omega) (by omega)), inb_n (by omega) (by omega), ck_t, nI_clamp (by omega), hT i (by omega), pk_mul, nI_add, pk_sub (by omega), imin_n (by omega) (by omega), nI_add, ← en]
    exact x4_val hB hT hpe he hd m (i + 1) k (by omega) (by omega) (by omega)
theorem vp_le (i : Nat) : vp B i ≤ 10000 := by
  unfold vp
  cases tE B (tS B i) - tS B i
  · exact Nat.zero_le _
  · exact Nat.min_le_left _ _
/-- behind the end there is nothing -/
theorem kp_end (hB : BL B L) {n : Nat} (h : L ≤ tS B n) : ∀ j, n ≤ j → kp B j = 0 := fun j hj => by
  have ge : ∀ m, L ≤ tS B (n + m) := by
    intro m
    induction m with
    | zero => exact h
    | succ m ih =>
      have h1 := tE_gt (B := B) (tS B (n + m))
      have h2 := rn_ge (B := B) isB 301 (tE B (tS B (n + m)))
      show L ≤ rn B isB 301 (tE B (tS B (n + m)))
      omega
  have := ge (j - n)
  rw [show n + (j - n) = j by omega] at this
  exact (kd_0 _).mpr (hB.2.2 _ this)
theorem x4_sp (hF : 1000 < F) (hB : BL B L) {S0 : mS} : ∀ (m p k t : Nat) {S : mS}, t ≤ p → p ≤ L → L ≤ p + m → m < k → sk B p = tS B t → S.1 2 6 = nI t → (∀ j, j < t → kp B j ≠ 0 ∧ S.1 8 j = nI (kp B j) ∧ S.1 9 j = nI (tS B j) ∧ (kp B j = 2 → S.1 10 j = nI (vp B j))) → TC S B L → (∀ u k, ¬ (u = 2 ∧ k = 6) → u ≠ 8 → u ≠ 9 → u ≠ 10 → S.1 u k = S0.1 u k) → ∃ S' n, lX4_splitUp_7 F (fun (S : mS) => lX4_splitUp_130 F 2 1 (nI L) S) 2 1 (nI L) k S (nI p) = some S' ∧ TK S' n (kp B) (vp B) (tS B) ∧ ∀ u k, ¬ (u = 2 ∧ k = 6) → u ≠ 8 → u ≠ 9 → u ≠ 10 → S'.1 u k = S0.1 u k
  | m, p, k, t, S, htp, hp, hm, hk, hs, ht, hj, hT, hf => by
    obtain ⟨k, rfl⟩ : ∃ k', k = k' + 1 := ⟨k - 1, by omega⟩
    have h0 := hB.1
    have ti := tS_i (B := B) t
    have sl := sk_le hB hp
    rw [u_X4_splitUp_7]
    by_cases e : L ≤ p
    · have eB := hB.2.2 p e
      have es : sk B p = p := rn_n (by rw [eB]; rfl)
      have et : tS B t = L := by omega
      rw [if_pos (nI_le e (by omega)), u_X4_splitUp_130, ht, inb_n (by omega) (by omega), ck_t, stp_s, nI_clamp (by omega), sq_off (by omega), ht, inb_n (by omega) (by omega), ck_t, stp_s, nI_clamp (by omega)]
      have ke := kp_end hB (n := t) (by omega)
      refine ⟨_, t, rfl, ⟨by omega, ?_, fun j hj2 => ?_, fun j hj2 hk2 => ?_, fun j hj2 => ⟨(hj j hj2).1, kp_lt B j⟩, ke, vp_le⟩, fun u k a b c d => ?_⟩
      · rw [sq_off (by omega), sq_off (by omega)]; exact ht
      · by_cases y : j = t
        · subst y
          rw [ke j (Nat.le_refl _), et]
          exact ⟨by rw [sq_off (by omega), sq_hit], sq_hit _ _ _ _⟩
        · have := hj j (by omega)
          exact ⟨by rw [sq_off (by omega), sq_off (by omega)]; exact this.2.1, by rw [sq_off (by omega), sq_off (by omega)]; exact this.2.2.1⟩
      · rw [sq_off (by omega), sq_off (by omega)]; exact (hj j hj2).2.2.2 hk2
      · rw [sq_off (by omega), sq_off (by omega)]; exact hf u k a b c d
    · obtain ⟨m, rfl⟩ : ∃ m', m = m' + 1 := ⟨m - 1, by omega⟩
      have hb := hB.2.1 p (by omega)
      rw [if_neg (nI_ge (by omega) (by omega)), ht, if_neg (nI_ge (by omega) (by omega)), inb_n (n := p) (by omega) (by omega), ck_t, nI_clamp (n := p) (by omega), hT p (by omega), ifn (b := 32) (by omega) (by omega), ifn (b := 10) (by omega) (by omega)]
      cases hbl : isB (B p)
      · have nb := of_decide_eq_false hbl
        have es : sk B p = p := rn_n hbl
        have eT : tS B t = p := by omega
        have ek : kd B p = kp B t := by unfold kp; rw [eT]
        have ev : nmC B p (tE B p - p) = vp B t := by unfold vp; rw [eT]
        have kn : kp B t ≠ 0 := fun z => by
          rw [← ek, kd_0] at z
          omega
        have kl := kp_lt B t
        have te := tE_le hB (p := p) (by omega)
        have tg := tE_gt (B := B) p
        have hT' : ∀ v : Int32, TC (sI S 9 t v) B L := fun v k hk => (sq_off (by omega)).trans (hT k hk)
        rw [if_neg (by omega), if_neg (by omega), x4_te hF hB hT (by omega), bd_s, inb_n (n := t) (by omega) (by omega), ck_t, stp_s, nI_clamp (n := t) (by omega), x4_ko hF hB (hT' _) (by omega), bd_s, sq_off (by omega), ht, inb_n (n := t) (by omega) (by omega), ck_t, stp_s, nI_clamp (n := t) (by omega), sq_off (by omega), sq_off (by omega), ht, inb_n (n := t) (by omega) (by omega), ck_t, nI_clamp (n := t) (by omega), sq_hit, ifn (by omega) (by omega), ck_t, stp_s, sq_off (by omega), sq_off (by omega), sq_off (by omega), ht, nI_add, stp_s, ek]
        have go : ∀ v : Int32, (kp B t = 2 → v = nI (vp B t)) → ∃ S' n, lX4_splitUp_7 F (fun (S : mS) => lX4_splitUp_130 F 2 1 (nI L) S) 2 1 (nI L) k (sI (sI (sI (sI S 9 t (nI p)) 8 t (nI (kp B t))) 10 t v) 2 6 (nI (t + 1))) (nI (tE B p)) = some S' ∧ TK S' n (kp B) (vp B) (tS B) ∧ ∀ u k, ¬ (u = 2 ∧ k = 6) → u ≠ 8 → u ≠ 9 → u ≠ 10 → S'.1 u k = S0.1 u k := fun v hv => by
          refine x4_sp hF hB m (tE B p) k (t + 1) (by omega) te (by omega) (by omega) (by show _ = sk B (tE B (tS B t)); rw [eT]) (sq_hit _ _ _ _) (fun j hj2 => ?_) (fun k hk => ?_) (fun u k a b c d => ?_)
          · by_cases y : j = t
            · subst y
              refine ⟨kn, ?_, ?_, fun z => ?_⟩
              · rw [sq_off (by omega), sq_off (by omega), sq_hit]
              · rw [sq_off (by omega), sq_off (by omega), sq_off (by omega), sq_hit, eT]
              · rw [sq_off (by omega), sq_hit]; exact hv z
            · obtain ⟨j1, j2, j3, j4⟩ := hj j (by omega)
              refine ⟨j1, ?_, ?_, fun z => ?_⟩
              · rw [sq_off (by omega), sq_off (by omega), sq_off (by omega), sq_off (by omega)]; exact j2
              · rw [sq_off (by omega), sq_off (by omega), sq_off (by omega), sq_off (by omega)]; exact j3
              · rw [sq_off (by omega), sq_off (by omega), sq_off (by omega), sq_off (by omega)]; exact j4 z
          · rw [sq_off (by omega), sq_off (by omega), sq_off (by omega), sq_off (by omega)]; exact hT k hk
          · rw [sq_off (by omega), sq_off (by omega), sq_off (by omega), sq_off (by omega)]; exact hf u k a b c d
        by_cases k2 : kp B t = 2
        · have dd : isD (B p) = true := by
            have z : kd B p = 2 := by rw [ek, k2]
            unfold kd at z
            rw [if_neg (show ¬ B p = 256 by omega)] at z
            cases hl : isL (B p)
            · rw [hl, if_neg Bool.false_ne_true] at z
              cases hd : isD (B p)
              · rw [hd, if_neg Bool.false_ne_true] at z
                exfalso
                split at z
                · split at z <;> omega
                · have : ∀ b, b < 256 → sg b ≠ 2 := by decide +kernel
                  exact this _ hb z
              · rfl
            · rw [hl, if_pos rfl] at z
              rcases kW_c (wW B p (tE B p - p)) with y | ⟨w, y1, y2⟩ <;> omega
          have nl : isL (B p) = false := by
            have := of_decide_eq_true dd
            exact decide_eq_false (by omega)
          have al : ∀ k, k < tE B p - p → isD (B (p + k)) = true := fun k hk => by
            have et : tE B p = rn B isD 301 (p + 1) := by
              unfold tE
              rw [nl, if_neg Bool.false_ne_true, dd, if_pos rfl]
            by_cases y : k = 0
            · rw [y]; exact dd
            · exact rn_al isD 301 (p + 1) (p + k) (by omega) (by rw [← et]; omega)
          have hT2 : TC (sI (sI S 9 t (nI p)) 8 t (nI (kp B t))) B L := fun k hk => (sq_off (by omega)).trans (hT' _ k hk)
          have vv := x4_val (F := F) hB hT2 (p := p) (e := tE B p) (by omega) te al (tE B p - p) p F (by omega) (by omega) (by omega)
          rw [Nat.sub_self] at vv
          have vv : lX4_valueOf_5 F 1 (nI p) (nI (tE B p)) F (sI (sI S 9 t (nI p)) 8 t (nI (kp B t))) (nI 0) (nI p) = some (nI (nmC B p (tE B p - p))) := vv
          rw [if_pos k2, u_X4_valueOf, vv, bd_s, ck_t, stp_s, sq_off (by omega), sq_off (by omega), sq_off (by omega), ht, nI_add, stp_s]
          exact go _ (fun _ => by rw [ev])
        · rw [if_neg k2]
          exact go _ (fun z => absurd z k2)
      · have bb := of_decide_eq_true hbl
        have key : ∃ S' n, lX4_splitUp_7 F (fun (S : mS) => lX4_splitUp_130 F 2 1 (nI L) S) 2 1 (nI L) k S (nI p + nI 1) = some S' ∧ TK S' n (kp B) (vp B) (tS B) ∧ ∀ u k, ¬ (u = 2 ∧ k = 6) → u ≠ 8 → u ≠ 9 → u ≠ 10 → S'.1 u k = S0.1 u k := by
          rw [nI_add]
          refine x4_sp hF hB m (p + 1) k t (by omega) (by omega) (by omega) (by omega) ?_ ht hj hT hf
          rw [← hs]
          unfold sk
          rw [rn_s (m := 300) hbl]
          exact rn_m _ hB (by decide) _ _ _ (by omega) (by omega)
        by_cases y : B p = 32
        · rw [if_pos y]; exact key
        · rw [if_neg y, if_pos (by omega)]; exact key
end
