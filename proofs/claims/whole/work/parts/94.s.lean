/-! ===== sets: the class's shortcut ===== -/
def chI (a1 a2 : Int32) : Int32 := if a2 = (nI 0) then ((nI 1)) else (if a2 = (nI 1) then (a1) else (if a2 = (nI 2) then ((a1 * (a1 - (nI 1))) / (nI 2)) else (if a2 = (nI 3) then (((a1 * (a1 - (nI 1))) * (a1 - (nI 2))) / (nI 6)) else ((nI 0)))))
theorem ch_u {S : mS} {a b : Int32} : f_X2_choices S a b = chI a b := rfl
theorem ch_ok : ∀ f, f < 21 → ∀ j, j < 4 → chI (nI f) (nI j) = nI (bin f j) := by decide +kernel
theorem ch_bd : ∀ f, f < 21 → ∀ j, j < 4 → bin f j < 2000 := by decide +kernel
theorem ch_m1 : ∀ m, m < 4 → ∀ b, b < 21 → m < b → ¬ nI m - nI b = nI 0 ∧ ¬ nI m - nI b = nI 1 ∧ ¬ nI m - nI b = nI 2 ∧ ¬ nI m - nI b = nI 3 := by decide +kernel
theorem ch_ng {x : Int32} {m b : Nat} (hm : m < 4) (hb : b < 21) (h : m < b) : chI x (nI m - nI b) = nI 0 := by
  obtain ⟨h0, h1, h2, h3⟩ := ch_m1 m hm b hb h
  unfold chI
  rw [if_neg h0, if_neg h1, if_neg h2, if_neg h3]
theorem ctf_20 (p : Nat → Bool) : ctf p 20 0 = fb_ct p 20 := by
  have := ctf_ct p 20 0
  rw [show fb_ct p 0 = 0 from rfl, Nat.add_zero, Nat.zero_add] at this
  exact this
theorem cF_c {W O : Nat} (hW : W < 1048576) (m : Nat) : (W &&& O ≠ 0 → cF W O 20 m 0 = 0) ∧ (W &&& O = 0 → (m < pcf 20 W → cF W O 20 m 0 = 0) ∧ ∀ j, m = pcf 20 W + j → cF W O 20 m 0 = bin (20 - pcf 20 (W ||| O)) j) := by
  have h := cF_b (W := W) (O := O) 20 0
  rw [ctf_20, ctf_20, ctf_20] at h
  have e1 : fb_ct (wo W O) 20 = pcf 20 (W &&& O) := by rw [pcf_ct]; exact fb_ct_cong (fun k _ => (Nat.testBit_and W O k).symm)
  have e2 : fb_ct W.testBit 20 = pcf 20 W := (pcf_ct 20 W).symm
  have e3 : fb_ct (fr W O) 20 = 20 - pcf 20 (W ||| O) := by
    have a := fb_ct_not (W ||| O).testBit 20
    have b : fb_ct (fr W O) 20 = fb_ct (fun k => !(W ||| O).testBit k) 20 := fb_ct_cong (fun k _ => by
      rw [Nat.testBit_or, Bool.not_or]; rfl)
    rw [pcf_ct, b]; omega
  rw [e1, e2, e3] at h
  have z : W &&& O < 2 ^ 20 := Nat.lt_of_le_of_lt Nat.and_le_left hW
  refine ⟨fun q => h.1 (fun w => q (pcf_zero z w)) m, fun q => ?_⟩
  have y := h.2 (by rw [q]; exact pcf_0 20)
  exact ⟨fun w => y.1 m w, fun j e => by rw [e]; exact y.2 j⟩
theorem cF_bd {W O : Nat} (hW : W < 1048576) {m : Nat} (hm : m < 4) : cF W O 20 m 0 < 2000 := by
  obtain ⟨h1, h2⟩ := cF_c (O := O) hW m
  by_cases e : W &&& O = 0
  · obtain ⟨h3, h4⟩ := h2 e
    by_cases q : m < pcf 20 W
    · rw [h3 q]; decide
    · rw [h4 (m - pcf 20 W) (by omega)]; exact ch_bd _ (by omega) _ (by omega)
  · rw [h1 e]; decide
theorem cXF {W O : Nat} (hW : W < 1048576) (m : Nat) : cXE W O 20 m 0 0 = cF W O 20 m 0 := (cE_F hW 20 m 0 0 (by omega) (by decide)).1 ⟨fun i hi => absurd hi (Nat.not_lt_zero i), fun i _ => Nat.zero_testBit i⟩
theorem pcf_set {W d : Nat} (hd : d < 20) (h : W.testBit d = false) : pcf 20 (W ||| 2 ^ d) = pcf 20 W + 1 := by
  rw [pcf_ct, pcf_ct]
  have a := fb_ct_upd W.testBit true hd
  rw [h] at a
  have b : fb_ct (W ||| 2 ^ d).testBit 20 = fb_ct (fun k => if k = d then true else W.testBit k) 20 := fb_ct_cong (fun k _ => by
    rw [fb_bit_set]
    by_cases e : k = d
    · rw [if_pos e, decide_eq_true e, Bool.or_true]
    · rw [if_neg e, decide_eq_false e, Bool.or_false])
  rw [b]
  exact a
theorem or_same {W d : Nat} (h : W.testBit d = true) : W ||| 2 ^ d = W := Nat.eq_of_testBit_eq (fun i => by
  rw [fb_bit_set]
  by_cases e : i = d
  · rw [e, h]; rfl
  · rw [decide_eq_false e, Bool.or_false])
/-- what Guess knows -/
def G2 (S : mS) (q : Nat × Nat) (m : Nat) : Prop := C2 S q ∧ S.1 369 0 = nI (cF q.1 q.2 20 m 0) ∧ S.1 369 3 = nI (20 - pcf 20 (q.1 ||| q.2)) ∧ S.1 369 4 = nI m - nI (pcf 20 q.1)
section
variable {F : Nat}
theorem x2_fin {S : mS} {q : Nat × Nat} {m : Nat} (hC : C2 S q) (hq : q20 q) (hm : m < 4) : ∃ S', x2fin S (nI m) = some S' ∧ G2 S' q m ∧ F9 S S' := by
  obtain ⟨c1, c2⟩ := hC
  have p1 := pcf_le 20 q.1
  have p2 := pcf_le 20 (q.1 ||| q.2)
  let S1 := sI (sI S 369 3 (nI (20 - pcf 20 (q.1 ||| q.2)))) 369 4 (nI m - nI (pcf 20 q.1))
  have s1 : S1.1 369 1 = nI q.1 := by show (sI _ _ _ _).1 _ _ = _; rw [sq_off (by omega), sq_off (by omega)]; exact c1
  have s2 : S1.1 369 2 = nI q.2 := by show (sI _ _ _ _).1 _ _ = _; rw [sq_off (by omega), sq_off (by omega)]; exact c2
  have s3 : S1.1 369 3 = nI (20 - pcf 20 (q.1 ||| q.2)) := by show (sI _ _ _ _).1 _ _ = _; rw [sq_off (by omega), sq_hit]
  have s4 : S1.1 369 4 = nI m - nI (pcf 20 q.1) := by show (sI _ _ _ _).1 _ _ = _; rw [sq_hit]
  have z : x2fin S (nI m) = if nI (q.1 &&& q.2) = nI 0 then some (sI S1 369 0 (chI (nI (20 - pcf 20 (q.1 ||| q.2))) (nI m - nI (pcf 20 q.1)))) else some (sI S1 369 0 (nI 0)) := by
    unfold x2fin
    rw [c1, c2, fa_or, bc_n (or_lt20 hq.1 hq.2), pk_sub p2, stp_s, show (sI S 369 3 (nI (20 - pcf 20 (q.1 ||| q.2)))).1 369 1 = nI q.1 by rw [sq_off (by omega)]; exact c1, bc_n hq.1, stp_s]
    show (if S1.1 369 1 &&& S1.1 369 2 = nI 0 then stp (sI S1 369 0 (f_X2_choices S1 (S1.1 369 3) (S1.1 369 4))) fun S3 => some S3 else stp (sI S1 369 0 (nI 0)) fun S4 => some S4) = _
    rw [s1, s2, s3, s4, nx_and, ch_u, stp_s, stp_s]
  obtain ⟨h1, h2⟩ := cF_c (O := q.2) hq.1 m
  have fin : ∀ v, v = nI (cF q.1 q.2 20 m 0) → G2 (sI S1 369 0 v) q m ∧ F9 S (sI S1 369 0 v) := fun v hv => ⟨⟨⟨by rw [sq_off (by omega)]; exact s1, by rw [sq_off (by omega)]; exact s2⟩, by rw [sq_hit]; exact hv, by rw [sq_off (by omega)]; exact s3, by rw [sq_off (by omega)]; exact s4⟩, fun u k h => by rw [sq_u h]; show (sI _ _ _ _).1 _ _ = _; rw [sq_u h, sq_u h]⟩
  by_cases e : q.1 &&& q.2 = 0
  · refine ⟨_, by rw [z, e, if_pos rfl], fin _ ?_⟩
    obtain ⟨h3, h4⟩ := h2 e
    by_cases w : m < pcf 20 q.1
    · rw [h3 w]; exact ch_ng hm (by omega) w
    · rw [h4 (m - pcf 20 q.1) (by omega), pk_sub (by omega)]; exact ch_ok _ (by omega) _ (by omega)
  · refine ⟨_, by rw [z, if_neg (nI_neq e (Nat.lt_of_le_of_lt Nat.and_le_left (Nat.lt_trans hq.1 (by decide))) (by omega))], fin _ ?_⟩
    rw [h1 e]
theorem x2_cw {S : mS} {q : Nat × Nat} {m d : Nat} (hG : G2 S q m) (hq : q20 q) (hm : m < 4) (hd : d < 20) : f_X2_countWith S 369 (nI d) = nI (cF (q.1 ||| 2 ^ d) q.2 20 m 0) := by
  obtain ⟨⟨c1, c2⟩, c0, c3, c4⟩ := hG
  obtain ⟨hq1, hq2⟩ := hq
  have p1 := pcf_le 20 q.1
  have p2 := pcf_le 20 (q.1 ||| q.2)
  have b0 := cF_bd (O := q.2) hq1 hm
  obtain ⟨h1, h2⟩ := cF_c (O := q.2) hq1 m
  obtain ⟨k1, k2⟩ := cF_c (W := q.1 ||| 2 ^ d) (O := q.2) (or_lt20 hq1 (p2_lt20 hd)) m
  rw [u_X2_countWith, c0, c1, c2, c3, c4, ch_u]
  simp (disch := omega) only [i_bit1]
  by_cases o : q.2.testBit d = true
  · have e : cF (q.1 ||| 2 ^ d) q.2 20 m 0 = 0 := k1 (fun w => by
      have := congrArg (fun m => m.testBit d) w
      simp only [Nat.testBit_and, fb_bit_set, o, decide_true, Bool.or_true, Bool.and_true, Nat.zero_testBit] at this
      exact absurd this (by decide))
    rw [e, if_pos o, ite_self]
  · rw [if_neg o]
    by_cases w : q.1.testBit d = true
    · rw [if_pos w, or_same w]
      by_cases z : cF q.1 q.2 20 m 0 = 0
      · rw [z, if_pos rfl]
      · rw [if_neg (nI_neq z (by omega) (by omega))]
    · rw [if_neg w]
      have o' : q.2.testBit d = false := by cases y : q.2.testBit d; rfl; exact absurd y o
      have w' : q.1.testBit d = false := by cases y : q.1.testBit d; rfl; exact absurd y w
      have e1 : (q.1 ||| 2 ^ d) &&& q.2 = q.1 &&& q.2 := Nat.eq_of_testBit_eq (fun i => by
        rw [Nat.testBit_and, Nat.testBit_and, fb_bit_set]
        by_cases e : i = d
        · rw [e, o', Bool.and_false, Bool.and_false]
        · rw [decide_eq_false e, Bool.or_false])
      have e2 := pcf_set hd w'
      have e3 : pcf 20 (q.1 ||| 2 ^ d ||| q.2) = pcf 20 (q.1 ||| q.2) + 1 := by
        rw [Nat.or_assoc, Nat.or_comm (2 ^ d), ← Nat.or_assoc]
        exact pcf_set hd (by rw [Nat.testBit_or, w', o']; rfl)
      have p3 := pcf_le 20 (q.1 ||| 2 ^ d ||| q.2)
      rw [e1] at k1 k2
      rw [e2, e3] at k2
      by_cases e : q.1 &&& q.2 = 0
      · obtain ⟨h3, h4⟩ := h2 e
        obtain ⟨k3, k4⟩ := k2 e
        by_cases y : m < pcf 20 q.1
        · rw [h3 y, if_pos rfl, k3 (by omega)]
        · rw [pk_sub (show pcf 20 q.1 ≤ m by omega)]
          by_cases x : m = pcf 20 q.1
          · rw [k3 (by omega), show m - pcf 20 q.1 = 0 by omega, if_pos rfl, ite_self]
          · rw [k4 (m - pcf 20 q.1 - 1) (by omega), if_neg (nI_neq (show ¬ m - pcf 20 q.1 = 0 by omega) (by omega) (by omega)), pk_sub (show 1 ≤ 20 - pcf 20 (q.1 ||| q.2) by omega), pk_sub (show 1 ≤ m - pcf 20 q.1 by omega), ch_ok _ (by omega) _ (by omega), show 20 - pcf 20 (q.1 ||| q.2) - 1 = 20 - (pcf 20 (q.1 ||| q.2) + 1) by omega]
            by_cases z : cF q.1 q.2 20 m 0 = 0
            · rw [z, if_pos rfl]
              have t := h4 (m - pcf 20 q.1 - 1 + 1) (by omega)
              rw [z, show 20 - pcf 20 (q.1 ||| q.2) = 20 - (pcf 20 (q.1 ||| q.2) + 1) + 1 by omega] at t
              have t2 : bin (20 - (pcf 20 (q.1 ||| q.2) + 1) + 1) (m - pcf 20 q.1 - 1 + 1) = bin (20 - (pcf 20 (q.1 ||| q.2) + 1)) (m - pcf 20 q.1 - 1 + 1) + bin (20 - (pcf 20 (q.1 ||| q.2) + 1)) (m - pcf 20 q.1 - 1) := rfl
              rw [t2] at t
              exact congrArg nI (by omega)
            · rw [if_neg (nI_neq z (by omega) (by omega))]
      · rw [h1 e, if_pos rfl, k1 e]
theorem x2_look (hF : 60 < F) {T N : Tw} (hW : Wf T) {S : mS} {h m : Nat} (hh : h < 8) (hm : m < 4) (hC : CT S 41 T) (hS : SC S N) : ∃ S', f_X2_lookAt F S 369 40 (nI h) (nI m) = some S' ∧ G2 S' (ntq T N h) m ∧ F9 S S' := by
  have w4 := hW.2.2.2.2.1
  have w3 := hS.2.2.1
  have f0 : F9 S (sI (sI S 369 1 (nI 0)) 369 2 (nI 0)) := fun u k h => by rw [sq_u h, sq_u h]
  obtain ⟨S1, u1, c1, q1, f1⟩ := x2_l13 (F := F) hW (K := fun (S : mS) (v4 : Int32) => lX2_lookAt_72 F 369 40 (nI h) (nI m) F S v4) (a := nI m) hh (T 0 4) 0 F (S := sI (sI S 369 1 (nI 0)) 369 2 (nI 0)) (q := (0, 0)) (by omega) (by omega) (hC.fr (fun u k a b => f0 u k (by omega))) ⟨by rw [sq_off (by omega), sq_hit], sq_hit _ _ _ _⟩ q20_0
  obtain ⟨S2, u2, c2, q2, f2⟩ := x2_l72 (F := F) (a := nI m) hh (N 0 3) 0 F (by omega) (by omega) ((hS.fr f0).fr f1) c1 q1
  obtain ⟨S3, u3, c3, f3⟩ := x2_fin (m := m) c2 q2 hm
  refine ⟨S3, ?_, c3, ((f0.trans f1).trans f2).trans f3⟩
  rw [u_X2_lookAt, stp_s, stp_s, u1]
  exact u2.trans u3
end
