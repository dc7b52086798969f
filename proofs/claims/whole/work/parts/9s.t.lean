/-! ===== the reference's tokens ===== -/
theorem wb_tb (n : Nat) : (lN n).toBitVec = BitVec.ofNat 64 n := rfl
theorem wb_inj {a b : Int64} (h : a.toBitVec = b.toBitVec) : a = b := Int64.toBitVec_inj.mp h
theorem wb_c : ∀ k, k < 64 → ((nI k).toInt64 &&& 63) = lN k := by decide +kernel
theorem wb_sm : ∀ k, k < 64 → (BitVec.ofNat 64 k).smod 64 = BitVec.ofNat 64 k := by decide +kernel
theorem wb_shl (n : Nat) {k : Nat} (hk : k < 64) : lN n <<< ((nI k).toInt64 &&& 63) = lN (n * 2 ^ k) := by
  rw [wb_c k hk]
  apply wb_inj
  rw [Int64.toBitVec_shiftLeft, wb_tb, wb_tb, wb_tb, wb_sm k hk]
  apply BitVec.eq_of_toNat_eq
  rw [BitVec.shiftLeft_eq', BitVec.toNat_shiftLeft, BitVec.toNat_ofNat, BitVec.toNat_ofNat, BitVec.toNat_ofNat, Nat.mod_eq_of_lt (show k < 2 ^ 64 by omega), Nat.shiftLeft_eq, Nat.mul_mod, Nat.mod_mod, ← Nat.mul_mod]
theorem pf_shr {a d : Nat} {D : Int64} (hD : (D.toBitVec.smod 64).toNat = d) (h : a < 2 ^ 62) : lN a >>> D = lN (a / 2 ^ d) := by
  have hd : a / 2 ^ d ≤ a := Nat.div_le_self _ _
  apply Int64.toInt_inj.mp
  have e : (lN a >>> D).toInt = (lN a).toInt >>> d := by
    rw [← hD]
    exact BitVec.toInt_sshiftRight ..
  rw [e, Int.shiftRight_eq_div_pow, pk_lT (by omega), pk_lT (by omega)]
  rfl
theorem sh48 {a : Nat} (h : a < 2 ^ 62) : (lN a >>> (Int32.toInt64 (nI 48) &&& 63) = (0 : Int64)) = (a < 2 ^ 48) := propext (by
  have hd : a / 2 ^ 48 ≤ a := Nat.div_le_self _ _
  rw [pf_shr (d := 48) (by decide +kernel) h, show (0 : Int64) = lN 0 from rfl, pk_lEQ (by omega) (by omega)]
  omega)
theorem pk8 {a b : Nat} (hb : b < 256) : (lN a <<< (Int32.toInt64 (nI 8) &&& 63)) ||| Int32.toInt64 (nI b) = lN (a * 256 + b) := by
  rw [wb_shl a (by omega), nI_l (by omega), Nat.mul_comm a (2 ^ 8), fb_or_sumL (k := 8) a (by omega), Nat.mul_comm (2 ^ 8) a]
def bv (B : Nat → Nat) (p : Nat) : Int32 := if B p = 256 then -1 else nI (B p)
def TP (S : mS) (B : Nat → Nat) (L : Nat) : Prop := S.1 375 4 = nI L ∧ ∀ k, k < L → S.1 379 k = nI (B k)
theorem TP.fr {S S' : mS} {B : Nat → Nat} {L : Nat} (h : TP S B L) (e : S'.1 375 4 = S.1 375 4) (e2 : ∀ k, S'.1 379 k = S.1 379 k) : TP S' B L := ⟨e.trans h.1, fun k hk => (e2 k).trans (h.2 k hk)⟩
section
variable {F : Nat} {B : Nat → Nat} {L : Nat} {S : mS}
theorem x9_byte (hB : BL B L) (hT : TP S B L) {p : Nat} (hp : p < 1000) : f_X9_byteAt F S 375 (nI p) = some (bv B p) := by
  have h0 := hB.1
  unfold bv
  rw [u_X9_byteAt, hT.1]
  by_cases q : p < L
  · have := hB.2.1 p q
    rw [if_neg (nI_ge q (by omega)), inb_n (by omega) (by omega), ck_t, nI_clamp (by omega), hT.2 p q, if_neg (by omega)]
  · rw [if_pos (nI_le (by omega) (by omega)), if_pos (hB.2.2 p (by omega))]
theorem BL.b (hB : BL B L) (p : Nat) : B p ≤ 256 := by
  rcases Nat.lt_or_ge p L with z | z
  · have := hB.2.1 p z; omega
  · have := hB.2.2 p z; omega
theorem n_fig {b : Nat} (h : b < 1000) : f_X9_isFigure S (nI b) = isD b := by
  rw [u_X9_isFigure]
  unfold isD
  by_cases a : b < 48
  · rw [if_pos (nI_lt a (by omega)), decide_eq_false (by omega)]
  · rw [if_neg (nI_nlt (by omega) (by omega))]
    by_cases c : 57 < b
    · rw [if_pos (nI_lt c (by omega)), decide_eq_false (by omega)]
    · rw [if_neg (nI_nlt (by omega) (by omega)), decide_eq_true (by omega)]
theorem n_let {b : Nat} (h : b < 1000) : f_X9_isLetterByte S (nI b) = isL b := by
  rw [u_X9_isLetterByte]
  unfold isL
  by_cases a : b < 97
  · rw [if_pos (nI_lt a (by omega))]
    by_cases c : b < 65
    · rw [if_pos (nI_lt c (by omega)), decide_eq_false (by omega)]
    · rw [if_neg (nI_nlt (by omega) (by omega))]
      by_cases d : 90 < b
      · rw [if_pos (nI_lt d (by omega)), decide_eq_false (by omega)]
      · rw [if_neg (nI_nlt (by omega) (by omega)), decide_eq_true (by omega)]
  · rw [if_neg (nI_nlt (by omega) (by omega))]
    by_cases c : b ≤ 122
    · rw [if_pos (nI_le c (by omega)), decide_eq_true (by omega)]
    · rw [if_neg (nI_ge (by omega) (by omega)), if_neg (nI_nlt (by omega) (by omega)), if_pos (nI_lt (by omega) (by omega)), decide_eq_false (by omega)]
theorem bv_fig (hB : BL B L) (p : Nat) : f_X9_isFigure S (bv B p) = isD (B p) := by
  have := hB.b p
  unfold bv
  by_cases e : B p = 256
  · rw [if_pos e, e, u_X9_isFigure, if_pos (by decide)]; rfl
  · rw [if_neg e]; exact n_fig (by omega)
theorem bv_let (hB : BL B L) (p : Nat) : f_X9_isLetterByte S (bv B p) = isL (B p) := by
  have := hB.b p
  unfold bv
  by_cases e : B p = 256
  · rw [if_pos e, e, u_X9_isLetterByte, if_pos (by decide), if_pos (by decide)]; rfl
  · rw [if_neg e]; exact n_let (by omega)
theorem bv_eq (hB : BL B L) (p : Nat) {a : Nat} (ha : a < 256) {α : Type} (x y : α) : (if bv B p = nI a then x else y) = if B p = a then x else y := by
  have := hB.b p
  unfold bv
  by_cases e : B p = 256
  · rw [if_pos e, if_neg (by rw [m1_n (by omega)]; exact id), if_neg (by omega)]
  · rw [if_neg e, ifn (by omega) (by omega)]
theorem bv_n {p : Nat} (h : B p ≠ 256) : bv B p = nI (B p) := if_neg h
theorem isD_n {b : Nat} (h : isD b = true) : b ≠ 256 := by have := of_decide_eq_true h; omega
theorem isL_n {b : Nat} (h : isL b = true) : b ≠ 256 ∧ 0 < b := by have := of_decide_eq_true h; omega
theorem nt_85 (hB : BL B L) {s : Nat} : ∀ (m q k : Nat) {S : mS}, TP S B L → S.1 375 7 = nI q → S.1 375 10 = nI (nmR B s (q - s)) → s ≤ q → q ≤ L → L ≤ q + m → (∀ x, s ≤ x → x < q → isD (B x) = true) → m < k → ∃ S', lX9_nextToken_85 F 375 k S = some S' ∧ S'.1 375 7 = nI (rn B isD m q) ∧ S'.1 375 10 = nI (nmR B s (rn B isD m q - s)) ∧ (∀ u j, ¬ (u = 375 ∧ 7 ≤ j ∧ j ≤ 10) → S'.1 u j = S.1 u j) ∧ S'.1 375 8 = S.1 375 8 ∧ S'.1 375 9 = S.1 375 9
  | m, q, k, S, hT, h7, h10, hs, hq, hm, hx, hk => by
    obtain ⟨k, rfl⟩ : ∃ k', k = k' + 1 := ⟨k - 1, by omega⟩
    have h0 := hB.1
    rw [u_X9_nextToken_85, h7, x9_byte hB hT (by omega), bd_s, bv_fig hB]
    cases hd : isD (B q)
    · rw [if_neg Bool.false_ne_true, rn_n hd]
      exact ⟨S, rfl, h7, h10, fun _ _ _ => rfl, rfl, rfl⟩
    · have hqL := hB.nz (isD_n hd)
      obtain ⟨m, rfl⟩ : ∃ m', m = m' + 1 := ⟨m - 1, by omega⟩
      have dd := of_decide_eq_true hd
      have nb := (nm_eq (B := B) s (q - s) (fun x hx2 => hx (s + x) (by omega) (by omega))).2
      rw [if_pos rfl, rn_s hd]
      have fin : ∀ v, v = nI (nmR B s (q + 1 - s)) → ∃ S', lX9_nextToken_85 F 375 k (sI (sI S 375 10 v) 375 7 (nI q + nI 1)) = some S' ∧ S'.1 375 7 = nI (rn B isD m (q + 1)) ∧ S'.1 375 10 = nI (nmR B s (rn B isD m (q + 1) - s)) ∧ (∀ u j, ¬ (u = 375 ∧ 7 ≤ j ∧ j ≤ 10) → S'.1 u j = S.1 u j) ∧ S'.1 375 8 = S.1 375 8 ∧ S'.1 375 9 = S.1 375 9 := fun v hv => by
        obtain ⟨S', a, b, c, d, e, f⟩ := nt_85 hB (s := s) m (q + 1) k (S := sI (sI S 375 10 v) 375 7 (nI q + nI 1)) (hT.fr (by rw [sq_off (by omega), sq_off (by omega)]) (fun j => by rw [sq_off (by omega), sq_off (by omega)])) (by rw [sq_hit, nI_add]) (by rw [sq_off (by omega), sq_hit, hv]) (by omega) (by omega) (by omega) (fun x h1 h2 => by
          by_cases y : x = q
          · rw [y]; exact hd
          · exact hx x h1 (by omega)) (by omega)
        refine ⟨S', a, b, c, fun u j hu => ?_, ?_, ?_⟩
        · rw [d u j hu, sq_off (by omega), sq_off (by omega)]
        · rw [e, sq_off (by omega), sq_off (by omega)]
        · rw [f, sq_off (by omega), sq_off (by omega)]
      have en : nmR B s (q + 1 - s) = if nmR B s (q - s) ≤ 99999 then 10 * nmR B s (q - s) + B q - 48 else nmR B s (q - s) := by
        rw [show q + 1 - s = (q - s) + 1 by omega]
        show (if nmR B s (q - s) ≤ 99999 then 10 * nmR B s (q - s) + B (s + (q - s)) - 48 else nmR B s (q - s)) = _
        rw [show s + (q - s) = q by omega]
      rw [h10]
      by_cases e : nmR B s (q - s) ≤ 99999
      · rw [if_pos (nI_le e (by omega)), bd_s, stp_s, stp_s, bv_n (isD_n hd), sq_off (by omega), h7]
        rw [if_pos e] at en
        exact fin _ (by rw [pk_mul, nI_add, pk_sub (by omega), en])
      · rw [if_neg (nI_ge (by omega) (by omega)), stp_s, stp_s, sq_off (by omega), h7]
        rw [if_neg e] at en
        exact fin _ (by rw [en])
theorem wW_lt (hB : BL B L) {s n : Nat} (h : ∀ k, k < n → isL (B (s + k)) = true) : wW B s n < 2 ^ 62 := by
  unfold wW
  split
  · rename_i h7
    have h1 := pkf_lt (f := fun k => B (s + k)) n (fun k hk => by
      have h2 := hB.b (s + k)
      have h3 := (isL_n (h k hk)).1
      show B (s + k) < 256
      omega)
    have h2 : 256 ^ n ≤ 256 ^ 7 := Nat.pow_le_pow_right (by omega) h7
    have h3 : (256 : Nat) ^ 7 = 72057594037927936 := by decide
    omega
  · omega
theorem nt_168 (hB : BL B L) {s : Nat} : ∀ (m q k : Nat) {S : mS}, TP S B L → S.1 375 7 = nI q → S.2 375 11 = lN (wW B s (q - s)) → s ≤ q → q ≤ L → L ≤ q + m → (∀ x, s ≤ x → x < q → isL (B x) = true) → m < k → ∃ S', lX9_nextToken_168 F 375 k S = some S' ∧ S'.1 375 7 = nI (rn B isL m q) ∧ S'.2 375 11 = lN (wW B s (rn B isL m q - s)) ∧ (∀ u j, ¬ (u = 375 ∧ 7 ≤ j ∧ j ≤ 10) → S'.1 u j = S.1 u j) ∧ S'.1 375 8 = S.1 375 8 ∧ S'.1 375 9 = S.1 375 9
  | m, q, k, S, hT, h7, h11, hs, hq, hm, hx, hk => by
    obtain ⟨k, rfl⟩ : ∃ k', k = k' + 1 := ⟨k - 1, by omega⟩
    have h0 := hB.1
    rw [u_X9_nextToken_168, h7, x9_byte hB hT (by omega), bd_s, bv_let hB]
    cases hd : isL (B q)
    · rw [if_neg Bool.false_ne_true, rn_n hd]
      exact ⟨S, rfl, h7, h11, fun _ _ _ => rfl, rfl, rfl⟩
    · have hqL := hB.nz (isL_n hd).1
      obtain ⟨m, rfl⟩ : ∃ m', m = m' + 1 := ⟨m - 1, by omega⟩
      have hbq := hB.2.1 q hqL
      have al : ∀ x, x < q - s → isL (B (s + x)) = true := fun x hx2 => hx (s + x) (by omega) (by omega)
      have wl := wW_lt hB al
      rw [if_pos rfl, rn_s hd]
      have fin : ∀ v, v = lN (wW B s (q + 1 - s)) → ∃ S', lX9_nextToken_168 F 375 k (sI (sJ S 375 11 v) 375 7 (nI q + nI 1)) = some S' ∧ S'.1 375 7 = nI (rn B isL m (q + 1)) ∧ S'.2 375 11 = lN (wW B s (rn B isL m (q + 1) - s)) ∧ (∀ u j, ¬ (u = 375 ∧ 7 ≤ j ∧ j ≤ 10) → S'.1 u j = S.1 u j) ∧ S'.1 375 8 = S.1 375 8 ∧ S'.1 375 9 = S.1 375 9 := fun v hv => by
        have f1 : ∀ u j, ¬ (u = 375 ∧ j = 7) → (sI (sJ S 375 11 v) 375 7 (nI q + nI 1)).1 u j = S.1 u j := fun u j hu => by rw [sq_off (by omega)]; rfl
        obtain ⟨S', a, b, c, d, e, f⟩ := nt_168 hB (s := s) m (q + 1) k (S := sI (sJ S 375 11 v) 375 7 (nI q + nI 1)) (hT.fr (f1 _ _ (by omega)) (fun j => f1 _ _ (by omega))) (by rw [sq_hit, nI_add]) (by
          show (if (375 : Nat) = 375 ∧ (11 : Nat) = 11 then v else S.2 375 11) = _
          rw [if_pos ⟨rfl, rfl⟩, hv]) (by omega) (by omega) (by omega) (fun x h1 h2 => by
          by_cases y : x = q
          · rw [y]; exact hd
          · exact hx x h1 (by omega)) (by omega)
        exact ⟨S', a, b, c, fun u j hu => (d u j hu).trans (f1 u j (by omega)), e.trans (f1 _ _ (by omega)), f.trans (f1 _ _ (by omega))⟩
      have e8 : ∀ v, (sJ S 375 11 v).1 375 7 = nI q := fun v => h7
      rw [h11]
      have w48 : wW B s (q - s) < 2 ^ 48 ↔ q - s ≤ 6 := by
        unfold wW
        have pb := pkf_lt (f := fun k => B (s + k)) (q - s) (fun k hk => by
          have h2 := hB.b (s + k)
          have h3 := (isL_n (al k hk)).1
          show B (s + k) < 256
          omega)
        constructor
        · intro z
          rcases Nat.lt_or_ge (q - s) 7 with y | y
          · omega
          · by_cases y2 : q - s ≤ 7
            · rw [if_pos y2] at z
              have := pkf_big (f := fun k => B (s + k)) (isL_n (al 0 (by omega))).2 6
              rw [show q - s = 6 + 1 by omega] at z
              have p6 : (256 : Nat) ^ 6 = 2 ^ 48 := by decide
              omega
            · rw [if_neg y2] at z
              omega
        · intro z
          rw [if_pos (by omega)]
          have h2 : 256 ^ (q - s) ≤ 256 ^ 6 := Nat.pow_le_pow_right (by omega) z
          have p6 : (256 : Nat) ^ 6 = 2 ^ 48 := by decide
          omega
      by_cases e : q - s ≤ 6
      · rw [if_pos (by rw [sh48 wl]; exact w48.mpr e), bd_s, stp_s, stp_s, bv_n (isL_n hd).1, e8]
        refine fin _ ?_
        rw [pk8 hbq]
        refine congrArg lN ?_
        unfold wW
        rw [if_pos (by omega), if_pos (by omega), show q + 1 - s = (q - s) + 1 by omega]
        show pkf (fun k => B (s + k)) (q - s) * 256 + B q = pkf (fun k => B (s + k)) (q - s) * 256 + B (s + (q - s))
        rw [show s + (q - s) = q by omega]
      · rw [if_neg (by rw [sh48 wl]; exact fun z => e (w48.mp z)), stp_s, stp_s, e8]
        refine fin _ ?_
        unfold wW
        rw [if_neg (by omega)]
        rfl
theorem nt_sk (hB : BL B L) {K85 K168 : mS → Option mS} {K247 : mS → Int32 → Int32 → Option mS} : ∀ (m p : Nat) {S : mS}, TP S B L → S.1 375 7 = nI p → p ≤ L → L ≤ p + m → ∃ c S', c ≤ m ∧ (∀ k, lX9_nextToken_0 F K85 K168 K247 375 (k + c) S = lX9_nextToken_0 F K85 K168 K247 375 k S') ∧ S'.1 375 7 = nI (rn B isB m p) ∧ (∀ u j, ¬ (u = 375 ∧ j = 7) → S'.1 u j = S.1 u j)
  | m, p, S, hT, h7, hp, hm => by
    have h0 := hB.1
    cases hb : isB (B p)
    · exact ⟨0, S, Nat.zero_le _, fun _ => rfl, by rw [rn_n hb]; exact h7, fun _ _ _ => rfl⟩
    · have hb2 := of_decide_eq_true hb
      have hpL := hB.nz (p := p) (by omega)
      obtain ⟨m, rfl⟩ : ∃ m', m = m' + 1 := ⟨m - 1, by omega⟩
      have f1 : ∀ u j, ¬ (u = 375 ∧ j = 7) → (sI S 375 7 (nI (p + 1))).1 u j = S.1 u j := fun u j hu => sq_off (by omega)
      obtain ⟨c, S', a, b, d, e⟩ := nt_sk hB (K85 := K85) (K168 := K168) (K247 := K247) m (p + 1) (S := sI S 375 7 (nI (p + 1))) (hT.fr (f1 _ _ (by omega)) (fun j => f1 _ _ (by omega))) (sq_hit _ _ _ _) (by omega) (by omega)
      refine ⟨c + 1, S', by omega, fun k => ?_, by rw [rn_s hb]; exact d, fun u j hu => (e u j hu).trans (f1 u j hu)⟩
      rw [← b k, show k + (c + 1) = (k + c) + 1 by omega, u_X9_nextToken_0, h7, x9_byte hB hT (by omega), bd_s, bv_eq hB p (by omega), bd_s, bv_eq hB p (by omega), stp_s, nI_add, stp_s]
      by_cases y : B p = 32
      · rw [if_pos y]
      · rw [if_neg y, if_pos (by omega)]
/-- the token at s, as the reference has it -/
def tcd (k : Nat) : Nat := [0, 3, 1, 60, 62, 61, 35, 43, 45, 42, 47, 40, 41, 59, 4, 5].getD k 2
def tkr (k t : Nat) : Bool := decide (t = tcd k ∨ (k = 1 ∧ (t = 2 ∨ t = 58)))
def TQ (B : Nat → Nat) (S : mS) (s : Nat) : Prop := S.1 375 8 = nI s ∧ (B s ≠ 256 → S.1 375 7 = nI (tE B s)) ∧ ∃ t, t < 64 ∧ S.1 375 9 = nI t ∧ tkr (kd B s) t = true ∧ (t = 1 → ∃ m, m < 2000000 ∧ S.1 375 10 = nI m ∧ min m 10000 = nmC B s (tE B s - s)) ∧ (t = 2 → isL (B s) = true ∧ S.2 375 11 = lN (wW B s (tE B s - s)))
def sgB (a : Nat) : Bool := if a = 35 then true else if a = 40 then true else if a = 41 then true else if a = 42 then true else if a = 43 then true else if a = 45 then true else if a = 47 then true else if a = 58 then true else if a = 59 then true else if a = 60 then true else if a = 61 then true else if a = 62 then true else false
theorem n_sgn {b : Nat} (h : b < 1000) : f_X9_isSign S (nI b) = sgB b := by
  rw [u_X9_isSign, ifn (b := 35) (by omega) (by omega), ifn (b := 40) (by omega) (by omega), ifn (b := 41) (by omega) (by omega), ifn (b := 42) (by omega) (by omega), ifn (b := 43) (by omega) (by omega), ifn (b := 45) (by omega) (by omega), ifn (b := 47) (by omega) (by omega), ifn (b := 58) (by omega) (by omega), ifn (b := 59) (by omega) (by omega), ifn (b := 60) (by omega) (by omega), ifn (b := 61) (by omega) (by omega), ifn (b := 62) (by omega) (by omega)]
  rfl
theorem sg_tk : ∀ b, b < 256 → (if sgB b = true then b else 3) < 64 ∧ tkr (sg b) (if sgB b = true then b else 3) = true ∧ (if sgB b = true then b else 3) ≠ 1 ∧ (if sgB b = true then b else 3) ≠ 2 := by decide +kernel
theorem x9_nt (hF : 1000 < F) (hB : BL B L) (hT : TP S B L) {p : Nat} (h7 : S.1 375 7 = nI p) (hp : p ≤ L) : ∃ S', f_X9_nextToken F S 375 = some S' ∧ TQ B S' (sk B p) ∧ ∀ u j, ¬ (u = 375 ∧ 7 ≤ j ∧ j ≤ 10) → S'.1 u j = S.1 u j := by
  have h0 := hB.1
  obtain ⟨c, S1, c1, c2, c3, c4⟩ := nt_sk (F := F) hB (K85 := fun (S : mS) => lX9_nextToken_85 F 375 F S) (K168 := fun (S : mS) => lX9_nextToken_168 F 375 F S) (K247 := fun (S : mS) (v1 : Int32) (s0 : Int32) => lX9_nextToken_247 F (fun (S : mS) (v1 : Int32) => lX9_nextToken_272 F 375 S v1) 375 S v1 s0) 301 p hT h7 hp (by omega)
  have hs : sk B p ≤ L := sk_le hB hp
  have hnb : isB (B (sk B p)) = false := rn_st _ hB (by decide) _ _ (by omega)
  have c3 : S1.1 375 7 = nI (sk B p) := c3
  generalize sk B p = s at *
  have hT1 : TP S1 B L := hT.fr (c4 _ _ (by omega)) (fun j => c4 _ _ (by omega))
  have nb : ¬ (B s = 32 ∨ B s = 10) := of_decide_eq_false hnb
  have bb := hB.b s
  have e := c2 (F - c - 1 + 1)
  rw [show F - c - 1 + 1 + c = F by omega] at e
  rw [u_X9_nextToken, e, u_X9_nextToken_0, c3, x9_byte hB hT1 (by omega), bd_s, bv_eq hB s (by omega), bd_s, bv_eq hB s (by omega), if_neg (by omega), if_neg (by omega), stp_s, sq_off (by omega), c3]
  have f2 : ∀ u j, ¬ (u = 375 ∧ j = 8) → (sI S1 375 8 (nI s)).1 u j = S1.1 u j := fun u j hu => sq_off (by omega)
  have g2 : (sI S1 375 8 (nI s)).1 375 8 = nI s := sq_hit _ _ _ _
  generalize sI S1 375 8 (nI s) = S2 at *
  have hT2 : TP S2 B L := hT1.fr (f2 _ _ (by omega)) (fun j => f2 _ _ (by omega))
  have e7 : S2.1 375 7 = nI s := (f2 _ _ (by omega)).trans c3
  have fr2 : ∀ u j, ¬ (u = 375 ∧ 7 ≤ j ∧ j ≤ 10) → S2.1 u j = S.1 u j := fun u j hu => (f2 u j (by omega)).trans (c4 u j (by omega))
  rw [x9_byte hB hT2 (by omega), bd_s]
  by_cases e0 : B s = 256
  · have bm : bv B s = -1 := if_pos e0
    rw [bm, if_neg (by decide), stp_s]
    refine ⟨_, rfl, ⟨?_, fun z => absurd e0 z, 0, by omega, sq_hit _ _ _ _, ?_, fun z => absurd z (by omega), fun z => absurd z (by omega)⟩, fun u j hu => ?_⟩
    · rw [sq_off (by omega)]; exact g2
    · rw [(kd_0 s).mpr e0]; decide
    · rw [sq_off (by omega)]; exact fr2 u j hu
  have hsL := hB.nz e0
  rw [bv_fig hB, bv_let hB, bv_n e0, if_pos (show nI 0 ≤ nI (B s) from nI_le (by omega) (by omega))]
  cases hd : isD (B s)
  · rw [if_neg Bool.false_ne_true]
    cases hl : isL (B s)
    · rw [if_neg Bool.false_ne_true, n_sgn (by omega)]
      obtain ⟨t1, t2, t3, t4⟩ := sg_tk (B s) (by omega)
      have ek : kd B s = if tE B s - s = 2 then (if B s = 60 then 14 else 15) else sg (B s) := by
        unfold kd
        rw [if_neg e0, hl, if_neg Bool.false_ne_true, hd, if_neg Bool.false_ne_true]
      have et : tE B s = if (B s = 60 ∨ B s = 62) ∧ B (s + 1) = 61 then s + 2 else s + 1 := by
        unfold tE
        rw [hl, if_neg Bool.false_ne_true, hd, if_neg Bool.false_ne_true]
      have e3 : ∀ v : Int32, (if sgB (B s) = true then lX9_nextToken_247 F (fun (S : mS) (v1 : Int32) => lX9_nextToken_272 F 375 S v1) 375 S2 v v else lX9_nextToken_247 F (fun (S : mS) (v1 : Int32) => lX9_nextToken_272 F 375 S v1) 375 S2 v (nI 3)) = lX9_nextToken_247 F (fun (S : mS) (v1 : Int32) => lX9_nextToken_272 F 375 S v1) 375 S2 v (if sgB (B s) = true then v else nI 3) := fun v => by split <;> rfl
      rw [e3, show (if sgB (B s) = true then nI (B s) else nI 3) = nI (if sgB (B s) = true then B s else 3) by split <;> rfl]
      generalize (if sgB (B s) = true then B s else 3) = t at t1 t2 t3 t4 ⊢
      rw [u_X9_nextToken_247, stp_s, sq_off (by omega), e7, nI_add, stp_s, ifn (b := 60) (by omega) (by omega), ifn (b := 62) (by omega) (by omega)]
      have f3 : ∀ u j, ¬ (u = 375 ∧ (j = 7 ∨ j = 9)) → (sI (sI S2 375 9 (nI t)) 375 7 (nI (s + 1))).1 u j = S2.1 u j := fun u j hu => by rw [sq_off (by omega), sq_off (by omega)]
      have g7 : (sI (sI S2 375 9 (nI t)) 375 7 (nI (s + 1))).1 375 7 = nI (s + 1) := sq_hit _ _ _ _
      have g9 : (sI (sI S2 375 9 (nI t)) 375 7 (nI (s + 1))).1 375 9 = nI t := by rw [sq_off (by omega), sq_hit]
      generalize sI (sI S2 375 9 (nI t)) 375 7 (nI (s + 1)) = S3 at *
      have hT3 : TP S3 B L := hT2.fr (f3 _ _ (by omega)) (fun j => f3 _ _ (by omega))
      have fr3 : ∀ u j, ¬ (u = 375 ∧ 7 ≤ j ∧ j ≤ 10) → S3.1 u j = S.1 u j := fun u j hu => (f3 u j (by omega)).trans (fr2 u j hu)
      have one : ¬ ((B s = 60 ∨ B s = 62) ∧ B (s + 1) = 61) → ∃ S', some S3 = some S' ∧ TQ B S' s ∧ ∀ u j, ¬ (u = 375 ∧ 7 ≤ j ∧ j ≤ 10) → S'.1 u j = S.1 u j := fun hn => by
        rw [if_neg hn] at et
        rw [if_neg (by omega)] at ek
        exact ⟨S3, rfl, ⟨(f3 _ _ (by omega)).trans g2, fun _ => by rw [et]; exact g7, t, t1, g9, by rw [ek]; exact t2, fun z => absurd z t3, fun z => absurd z t4⟩, fr3⟩
      have two : B s = 60 ∨ B s = 62 → ∃ S', lX9_nextToken_272 F 375 S3 (nI (B s)) = some S' ∧ TQ B S' s ∧ ∀ u j, ¬ (u = 375 ∧ 7 ≤ j ∧ j ≤ 10) → S'.1 u j = S.1 u j := fun h6 => by
        rw [u_X9_nextToken_272, g7, x9_byte hB hT3 (by omega), bd_s, bv_eq hB (s + 1) (by omega), ifn (b := 60) (by omega) (by omega)]
        by_cases y : B (s + 1) = 61
        · rw [if_pos ⟨h6, y⟩] at et
          rw [if_pos (by omega)] at ek
          rw [if_pos y, stp_s, sq_off (by omega), g7, stp_s, stp_s, sq_off (by omega), g7, stp_s, nI_add]
          by_cases y2 : B s = 60
          · rw [if_pos y2] at ek ⊢
            refine ⟨_, rfl, ⟨?_, fun _ => by rw [et]; exact sq_hit _ _ _ _, 4, by omega, ?_, by rw [ek]; decide, fun z => absurd z (by omega), fun z => absurd z (by omega)⟩, fun u j hu => ?_⟩
            · rw [sq_off (by omega), sq_off (by omega)]; exact (f3 _ _ (by omega)).trans g2
            · rw [sq_off (by omega), sq_hit]
            · rw [sq_off (by omega), sq_off (by omega)]; exact fr3 u j hu
          · rw [if_neg y2] at ek ⊢
            refine ⟨_, rfl, ⟨?_, fun _ => by rw [et]; exact sq_hit _ _ _ _, 5, by omega, ?_, by rw [ek]; decide, fun z => absurd z (by omega), fun z => absurd z (by omega)⟩, fun u j hu => ?_⟩
            · rw [sq_off (by omega), sq_off (by omega)]; exact (f3 _ _ (by omega)).trans g2
            · rw [sq_off (by omega), sq_hit]
            · rw [sq_off (by omega), sq_off (by omega)]; exact fr3 u j hu
        · rw [if_neg y]
          exact one (fun z => y z.2)
      by_cases y1 : B s = 60
      · rw [if_pos y1]; exact two (Or.inl y1)
      · rw [if_neg y1]
        by_cases y2 : B s = 62
        · rw [if_pos y2]; exact two (Or.inr y2)
        · rw [if_neg y2]; exact one (fun z => by omega)
    · rw [if_pos rfl, stp_s, stp_s]
      have f3 : ∀ u j, ¬ (u = 375 ∧ j = 9) → (sJ (sI S2 375 9 (nI 2)) 375 11 (0 : Int64)).1 u j = S2.1 u j := fun u j hu => sq_off (by omega)
      have g9 : (sJ (sI S2 375 9 (nI 2)) 375 11 (0 : Int64)).1 375 9 = nI 2 := sq_hit S2 375 9 (nI 2)
      have g11 : (sJ (sI S2 375 9 (nI 2)) 375 11 (0 : Int64)).2 375 11 = lN (wW B s (s - s)) := by
        rw [Nat.sub_self]
        show (if (375 : Nat) = 375 ∧ (11 : Nat) = 11 then (0 : Int64) else (sI S2 375 9 (nI 2)).2 375 11) = _
        rw [if_pos ⟨rfl, rfl⟩]
        rfl
      generalize sJ (sI S2 375 9 (nI 2)) 375 11 (0 : Int64) = S3 at *
      obtain ⟨S', a, b, c, d, e8, e9⟩ := nt_168 (F := F) hB (s := s) 301 s F (S := S3) (hT2.fr (f3 _ _ (by omega)) (fun j => f3 _ _ (by omega))) ((f3 _ _ (by omega)).trans e7) g11 (by omega) (by omega) (by omega) (fun x h1 h2 => by omega) (by omega)
      have et : tE B s = rn B isL 301 s := by
        unfold tE
        rw [hl, if_pos rfl, rn_s (m := 300) hl]
        exact rn_m _ hB (by decide) _ _ _ (by omega) (by omega)
      have ek : kd B s = kW (wW B s (tE B s - s)) := by
        unfold kd
        rw [if_neg e0, hl, if_pos rfl]
      rw [← et] at b c
      refine ⟨S', a, ⟨e8.trans ((f3 _ _ (by omega)).trans g2), fun _ => b, 2, by omega, e9.trans g9, ?_, fun z => absurd z (by omega), fun _ => ⟨hl, c⟩⟩, fun u j hu => ?_⟩
      · rw [ek]
        rcases kW_c (wW B s (tE B s - s)) with y | ⟨w, y1, y2⟩
        · rw [y]; decide
        · rw [y2]
          exact (by decide : ∀ w, w < 22 → tkr (16 + w) 2 = true) w y1
      · exact (d u j hu).trans ((f3 u j (by omega)).trans (fr2 u j hu))
  · rw [if_pos rfl, stp_s, stp_s]
    have hl : isL (B s) = false := by
      have := of_decide_eq_true hd
      exact decide_eq_false (by omega)
    have f3 : ∀ u j, ¬ (u = 375 ∧ (j = 9 ∨ j = 10)) → (sI (sI S2 375 9 (nI 1)) 375 10 (nI 0)).1 u j = S2.1 u j := fun u j hu => by rw [sq_off (by omega), sq_off (by omega)]
    have g9 : (sI (sI S2 375 9 (nI 1)) 375 10 (nI 0)).1 375 9 = nI 1 := by rw [sq_off (by omega), sq_hit]
    have g10 : (sI (sI S2 375 9 (nI 1)) 375 10 (nI 0)).1 375 10 = nI (nmR B s (s - s)) := by
      rw [Nat.sub_self, sq_hit]
      rfl
    generalize sI (sI S2 375 9 (nI 1)) 375 10 (nI 0) = S3 at *
    obtain ⟨S', a, b, c, d, e8, e9⟩ := nt_85 (F := F) hB (s := s) 301 s F (S := S3) (hT2.fr (f3 _ _ (by omega)) (fun j => f3 _ _ (by omega))) ((f3 _ _ (by omega)).trans e7) g10 (by omega) (by omega) (by omega) (fun x h1 h2 => by omega) (by omega)
    have et : tE B s = rn B isD 301 s := by
      unfold tE
      rw [hl, if_neg Bool.false_ne_true, hd, if_pos rfl, rn_s (m := 300) hd]
      exact rn_m _ hB (by decide) _ _ _ (by omega) (by omega)
    have ek : kd B s = 2 := by
      unfold kd
      rw [if_neg e0, hl, if_neg Bool.false_ne_true, hd, if_pos rfl]
    rw [← et] at b c
    have nq := nm_eq (B := B) s (tE B s - s) (fun k hk => rn_al isD 301 s (s + k) (by omega) (by rw [← et]; omega))
    refine ⟨S', a, ⟨e8.trans ((f3 _ _ (by omega)).trans g2), fun _ => b, 1, by omega, e9.trans g9, by rw [ek]; decide, fun _ => ⟨_, nq.2, c, nq.1⟩, fun z => absurd z (by omega)⟩, fun u j hu => ?_⟩
    exact (d u j hu).trans ((f3 u j (by omega)).trans (fr2 u j hu))
end
