/-! ===== clauses: what they add to a text (pure) ===== -/
def srtK (k : Nat) : Nat := if k = 24 then 0 else if k = 25 then 1 else if k = 26 then 2 else if k = 18 then 3 else if k = 27 then 4 else if k = 28 then 5 else if k = 29 then 6 else if k = 30 then 7 else if k = 16 then 8 else 9
section
variable (κ vl : Nat → Nat)
def tNm (lo hi i : Nat) (c : List Nat) : tR := if κ i = 2 then (if lo ≤ vl i ∧ vl i ≤ hi then (0, i + 1, c ++ [vl i]) else (2, i, c)) else (1, i, c)
def tDd (s i : Nat) : tR := if s = 3 then tB (tB (tB (tB (tNm κ vl 0 19 i []) (tEx κ 19)) (tNm κ vl 0 9999)) (tEx κ 20)) (tNm κ vl 0 99) else (if s = 5 then tB (tB (tNm κ vl 0 6 i []) (tEx κ 31)) (tNm κ vl 0 6) else (if s = 7 then tB (tB (tNm κ vl 0 19 i []) (tEx κ 32)) (tNm κ vl 0 6) else (if s = 8 then tNm κ vl 1 60 i [] else tNm κ vl 0 6 i [])))
def tBy (s i : Nat) : tR := if s < 3 then tLw κ vl (decide (s = 2)) i else tDd κ vl s i
end
def tSf (E : Tw) (s : Nat) : Nat := if s = 9 then 1 else if s < 3 ∧ E 6 s < E 7 s then 4 else if E 0 0 = 24 then 6 else 0
def adE (E : Tw) (z s : Nat) (l : List Nat) : Tw := fun u k => if u = 0 ∧ k = 0 then E 0 0 + 1 else if u = 1 ∧ k = E 0 0 then s else if s < 3 then (if u = 5 ∧ z ≤ k ∧ k < z + l.length then l.getD (k - z) 0 else if u = 6 ∧ k = s then z else if u = 7 ∧ k = s then z + l.length else E u k) else (if u = 2 ∧ k = E 0 0 then l.getD 0 0 else if u = 3 ∧ k = E 0 0 then l.getD 1 0 else if u = 4 ∧ k = E 0 0 then l.getD 2 0 else E u k)
abbrev tX : Type := Nat × Nat × Tw × Nat
def tCs (κ vl : Nat → Nat) (E : Tw) (z i : Nat) : tX := if tSf E (srtK (κ i)) ≠ 0 then (tSf E (srtK (κ i)), i, E, z) else (if (tBy κ vl (srtK (κ i)) (i + 1)).1 ≠ 0 then ((tBy κ vl (srtK (κ i)) (i + 1)).1, (tBy κ vl (srtK (κ i)) (i + 1)).2.1, E, z) else (if κ (tBy κ vl (srtK (κ i)) (i + 1)).2.1 ≠ 13 then (1, (tBy κ vl (srtK (κ i)) (i + 1)).2.1, E, z) else (0, (tBy κ vl (srtK (κ i)) (i + 1)).2.1 + 1, adE E z (srtK (κ i)) (tBy κ vl (srtK (κ i)) (i + 1)).2.2, if srtK (κ i) < 3 then z + (tBy κ vl (srtK (κ i)) (i + 1)).2.2.length else z)))
def tTx (κ vl : Nat → Nat) : Nat → Tw → Nat → Nat → tX
  | 0, E, z, i => (0, i, E, z)
  | m + 1, E, z, i => if κ i = 0 then (0, i, E, z) else (if (tCs κ vl E z i).1 = 0 then tTx κ vl m (tCs κ vl E z i).2.2.1 (tCs κ vl E z i).2.2.2 (tCs κ vl E z i).2.1 else tCs κ vl E z i)
/-- a text as it should be -/
def XP (E : Tw) (z : Nat) : Prop := E 0 0 ≤ 24 ∧ (∀ c, c < E 0 0 → E 1 c < 9 ∧ (3 ≤ E 1 c → E 2 c < 10000 ∧ (E 1 c = 3 → E 2 c < 20) ∧ (E 1 c = 4 → E 2 c < 7) ∧ (E 1 c = 5 → E 2 c < 7) ∧ (E 1 c = 6 → E 2 c < 7) ∧ (E 1 c = 7 → E 2 c < 20) ∧ (E 1 c = 8 → 1 ≤ E 2 c ∧ E 2 c ≤ 60)) ∧ (E 1 c = 3 ∨ E 1 c = 5 ∨ E 1 c = 7 → E 3 c < 10000 ∧ (E 1 c ≠ 3 → E 3 c < 7)) ∧ (E 1 c = 3 → E 4 c < 100) ∧ (E 1 c < 3 → E 6 (E 1 c) < E 7 (E 1 c)))
  ∧ (∀ l, l < 3 → E 6 l ≤ E 7 l ∧ E 7 l ≤ z)
  ∧ (∀ l, l < 3 → E 6 l < E 7 l → (∃ c, c < E 0 0 ∧ E 1 c = l) ∧ tyr (E 5) (E 7 l - E 6 l) (E 6 l) (0, 0) = some (if l = 2 then (1, 0) else (0, 1)))
  ∧ ∀ p, p < z → E 5 p < 10039
theorem tyr_l {K : Nat → Nat} : ∀ (l : List Nat) (i : Nat) (s : Nat × Nat), (∀ k, k < l.length → K (i + k) = l.getD k 0) → tyr K l.length i s = tyl l s
  | [], _, _, _ => rfl
  | w :: l, i, s, h => by
    have h0 : K i = w := h 0 (Nat.succ_pos _)
    show (tyw (K i) s).bind (tyr K l.length (i + 1)) = (tyw w s).bind (tyl l)
    rw [h0]
    cases tyw w s with
    | none => rfl
    | some t => exact tyr_l l (i + 1) t (fun k hk => by
        have := h (k + 1) (Nat.succ_lt_succ hk)
        rw [show i + 1 + k = i + (k + 1) by omega]
        exact this)
theorem tyr_cong {K K' : Nat → Nat} : ∀ (m i : Nat) (s : Nat × Nat), (∀ k, k < m → K (i + k) = K' (i + k)) → tyr K m i s = tyr K' m i s
  | 0, _, _, _ => rfl
  | m + 1, i, s, h => by
    have h0 : K i = K' i := h 0 (Nat.succ_pos _)
    show (tyw (K i) s).bind (tyr K m (i + 1)) = (tyw (K' i) s).bind (tyr K' m (i + 1))
    rw [h0]
    cases tyw (K' i) s with
    | none => rfl
    | some t => exact tyr_cong m (i + 1) t (fun k hk => by
        have := h (k + 1) (Nat.succ_lt_succ hk)
        rw [show i + 1 + k = i + (k + 1) by omega]
        exact this)
theorem gd_mem {l : List Nat} {k : Nat} (h : k < l.length) : l.getD k 0 ∈ l := by
  rw [List.getD_eq_getElem?_getD, List.getElem?_eq_getElem h]
  exact List.getElem_mem h
/-- what a law must be -/
def lwG (s : Nat) (l : List Nat) : Prop := 0 < l.length ∧ tyl l (0, 0) = some (if s = 2 then (1, 0) else (0, 1)) ∧ ∀ w, w ∈ l → w < 10039
/-- and what a deed's numbers -/
def ddG (s : Nat) (l : List Nat) : Prop := (l.getD 0 0 < 10000 ∧ (s = 3 → l.getD 0 0 < 20) ∧ (s = 4 → l.getD 0 0 < 7) ∧ (s = 5 → l.getD 0 0 < 7) ∧ (s = 6 → l.getD 0 0 < 7) ∧ (s = 7 → l.getD 0 0 < 20) ∧ (s = 8 → 1 ≤ l.getD 0 0 ∧ l.getD 0 0 ≤ 60)) ∧ (s = 3 ∨ s = 5 ∨ s = 7 → l.getD 1 0 < 10000 ∧ (s ≠ 3 → l.getD 1 0 < 7)) ∧ (s = 3 → l.getD 2 0 < 100)
section
variable {E : Tw} {z s : Nat} {l : List Nat}
theorem adE_0 : adE E z s l 0 0 = E 0 0 + 1 := if_pos ⟨rfl, rfl⟩
theorem adE_1 : adE E z s l 1 (E 0 0) = s := by unfold adE; rw [if_neg (by omega), if_pos ⟨rfl, rfl⟩]
theorem adE_1o {c : Nat} (h : c ≠ E 0 0) : adE E z s l 1 c = E 1 c := by
  unfold adE
  rw [if_neg (by omega), if_neg (by omega)]
  split
  · rw [if_neg (by omega), if_neg (by omega), if_neg (by omega)]
  · rw [if_neg (by omega), if_neg (by omega), if_neg (by omega)]
theorem adE_2o {u c : Nat} (hu : u = 2 ∨ u = 3 ∨ u = 4) (h : c ≠ E 0 0) : adE E z s l u c = E u c := by
  unfold adE
  rw [if_neg (by omega), if_neg (by omega)]
  split
  · rw [if_neg (by omega), if_neg (by omega), if_neg (by omega)]
  · rw [if_neg (by omega), if_neg (by omega), if_neg (by omega)]
theorem adE_2 (hs : 3 ≤ s) : adE E z s l 2 (E 0 0) = l.getD 0 0 ∧ adE E z s l 3 (E 0 0) = l.getD 1 0 ∧ adE E z s l 4 (E 0 0) = l.getD 2 0 := by
  unfold adE
  refine ⟨?_, ?_, ?_⟩
  · rw [if_neg (by omega), if_neg (by omega), if_neg (by omega), if_pos ⟨rfl, rfl⟩]
  · rw [if_neg (by omega), if_neg (by omega), if_neg (by omega), if_neg (by omega), if_pos ⟨rfl, rfl⟩]
  · rw [if_neg (by omega), if_neg (by omega), if_neg (by omega), if_neg (by omega), if_neg (by omega), if_pos ⟨rfl, rfl⟩]
theorem adE_5 (hs : 3 ≤ s) {u k : Nat} (hu : 5 ≤ u) : adE E z s l u k = E u k := by
  unfold adE
  rw [if_neg (by omega), if_neg (by omega), if_neg (by omega), if_neg (by omega), if_neg (by omega), if_neg (by omega)]
theorem adE_5n (hs : s < 3) {k : Nat} (hk : k < l.length) : adE E z s l 5 (z + k) = l.getD k 0 := by
  unfold adE
  rw [if_neg (by omega), if_neg (by omega), if_pos hs, if_pos ⟨rfl, by omega, by omega⟩, show z + k - z = k by omega]
theorem adE_5o (hs : s < 3) {p : Nat} (hp : p < z) : adE E z s l 5 p = E 5 p := by
  unfold adE
  rw [if_neg (by omega), if_neg (by omega), if_pos hs, if_neg (by omega), if_neg (by omega), if_neg (by omega)]
theorem adE_6 (hs : s < 3) : adE E z s l 6 s = z ∧ adE E z s l 7 s = z + l.length := by
  unfold adE
  refine ⟨?_, ?_⟩
  · rw [if_neg (by omega), if_neg (by omega), if_pos hs, if_neg (by omega), if_pos ⟨rfl, rfl⟩]
  · rw [if_neg (by omega), if_neg (by omega), if_pos hs, if_neg (by omega), if_neg (by omega), if_pos ⟨rfl, rfl⟩]
theorem adE_6o (hs : s < 3) {m : Nat} (hm : m ≠ s) : adE E z s l 6 m = E 6 m ∧ adE E z s l 7 m = E 7 m := by
  unfold adE
  refine ⟨?_, ?_⟩
  · rw [if_neg (by omega), if_neg (by omega), if_pos hs, if_neg (by omega), if_neg (by omega), if_neg (by omega)]
  · rw [if_neg (by omega), if_neg (by omega), if_pos hs, if_neg (by omega), if_neg (by omega), if_neg (by omega)]
theorem XP_lw (h : XP E z) (hs : s < 3) (hf : tSf E s = 0) (hl : lwG s l) : XP (adE E z s l) (z + l.length) := by
  obtain ⟨h1, h2, h3, h4, h5⟩ := h
  have n7 : ¬ E 6 s < E 7 s := fun q => by
    unfold tSf at hf
    rw [if_neg (by omega), if_pos ⟨hs, q⟩] at hf
    omega
  have n24 : E 0 0 ≠ 24 := fun q => by
    unfold tSf at hf
    rw [if_neg (by omega), if_neg (fun y => n7 y.2), if_pos q] at hf
    omega
  refine ⟨by rw [adE_0]; omega, fun c hc => ?_, fun m hm => ?_, fun m hm => ?_, fun p hp => ?_⟩
  · rw [adE_0] at hc
    by_cases e : c = E 0 0
    · subst e
      rw [adE_1, (adE_6 hs).1, (adE_6 hs).2]
      have := hl.1
      exact ⟨by omega, fun y => by omega, fun y => by omega, fun y => by omega, fun _ => by omega⟩
    · obtain ⟨a1, a2, a3, a4, a5⟩ := h2 c (by omega)
      rw [adE_1o e, adE_2o (Or.inl rfl) e, adE_2o (Or.inr (Or.inl rfl)) e, adE_2o (Or.inr (Or.inr rfl)) e]
      refine ⟨a1, a2, a3, a4, fun y => ?_⟩
      have y2 : E 1 c ≠ s := fun q => n7 (by have := a5 y; rw [q] at this; exact this)
      rw [(adE_6o hs y2).1, (adE_6o hs y2).2]
      exact a5 y
  · by_cases e : m = s
    · subst e
      rw [(adE_6 hs).1, (adE_6 hs).2]
      omega
    · rw [(adE_6o hs e).1, (adE_6o hs e).2]
      have := h3 m hm
      omega
  · by_cases e : m = s
    · subst e
      rw [(adE_6 hs).1, (adE_6 hs).2]
      refine fun _ => ⟨⟨E 0 0, by rw [adE_0]; omega, adE_1⟩, ?_⟩
      rw [show z + l.length - z = l.length by omega, tyr_l l z (0, 0) (fun k hk => adE_5n hs hk)]
      exact hl.2.1
    · rw [(adE_6o hs e).1, (adE_6o hs e).2]
      intro y
      obtain ⟨⟨c, c1, c2⟩, y2⟩ := h4 m hm y
      have y3 := h3 m hm
      refine ⟨⟨c, by rw [adE_0]; omega, by rw [adE_1o (by omega)]; exact c2⟩, ?_⟩
      rw [← y2]
      exact tyr_cong _ _ _ (fun k hk => adE_5o hs (by omega))
  · by_cases e : p < z
    · rw [adE_5o hs e]; exact h5 p e
    · have q := adE_5n (E := E) (z := z) (l := l) hs (k := p - z) (by omega)
      rw [show z + (p - z) = p by omega] at q
      rw [q]
      exact hl.2.2 _ (gd_mem (by omega))
theorem XP_dd (h : XP E z) (hs : 3 ≤ s ∧ s < 9) (hf : tSf E s = 0) (hl : ddG s l) : XP (adE E z s l) z := by
  obtain ⟨h1, h2, h3, h4, h5⟩ := h
  have n24 : E 0 0 ≠ 24 := fun q => by
    unfold tSf at hf
    rw [if_neg (by omega), if_neg (fun y => by omega), if_pos q] at hf
    omega
  obtain ⟨b1, b2, b3⟩ := adE_2 (E := E) (z := z) (l := l) hs.1
  refine ⟨by rw [adE_0]; omega, fun c hc => ?_, fun m hm => ?_, fun m hm => ?_, fun p hp => ?_⟩
  · rw [adE_0] at hc
    by_cases e : c = E 0 0
    · subst e
      rw [adE_1, b1, b2, b3]
      exact ⟨hs.2, fun _ => hl.1, hl.2.1, hl.2.2, fun y => by omega⟩
    · obtain ⟨a1, a2, a3, a4, a5⟩ := h2 c (by omega)
      rw [adE_1o e, adE_2o (Or.inl rfl) e, adE_2o (Or.inr (Or.inl rfl)) e, adE_2o (Or.inr (Or.inr rfl)) e, adE_5 hs.1 (by omega), adE_5 hs.1 (by omega)]
      exact ⟨a1, a2, a3, a4, a5⟩
  · rw [adE_5 hs.1 (by omega), adE_5 hs.1 (by omega)]; exact h3 m hm
  · rw [adE_5 hs.1 (by omega), adE_5 hs.1 (by omega)]
    intro y
    obtain ⟨⟨c, c1, c2⟩, y2⟩ := h4 m hm y
    refine ⟨⟨c, by rw [adE_0]; omega, by rw [adE_1o (by omega)]; exact c2⟩, ?_⟩
    rw [← y2]
    exact tyr_cong _ _ _ (fun k hk => adE_5 hs.1 (by omega))
  · rw [adE_5 hs.1 (by omega)]; exact h5 p hp
end
section
variable {κ vl : Nat → Nat}
theorem tB_z {r : tR} {k : Nat → List Nat → tR} (h : (tB r k).1 = 0) : r.1 = 0 ∧ (k r.2.1 r.2.2).1 = 0 := by
  by_cases e : r.1 = 0
  · rw [tB_0 e] at h; exact ⟨e, h⟩
  · rw [tB_n e] at h; exact absurd h e
theorem tNm_0 {lo hi i : Nat} {c : List Nat} (h : (tNm κ vl lo hi i c).1 = 0) : κ i = 2 ∧ (lo ≤ vl i ∧ vl i ≤ hi) ∧ tNm κ vl lo hi i c = (0, i + 1, c ++ [vl i]) := by
  unfold tNm at h ⊢
  by_cases a : κ i = 2
  · rw [if_pos a] at h ⊢
    by_cases b : lo ≤ vl i ∧ vl i ≤ hi
    · rw [if_pos b]; exact ⟨a, b, rfl⟩
    · rw [if_neg b] at h; exact absurd h (by show ¬ 2 = 0; omega)
  · rw [if_neg a] at h; exact absurd h (by show ¬ 1 = 0; omega)
theorem tEx_0 {a i : Nat} {c : List Nat} (h : (tEx κ a i c).1 = 0) : κ i = a ∧ tEx κ a i c = (0, i + 1, c) := by
  unfold tEx at h ⊢
  by_cases e : κ i = a
  · rw [if_pos e]; exact ⟨e, rfl⟩
  · rw [if_neg e] at h; exact absurd h (by show ¬ 1 = 0; omega)
/-- a row of one, two or three numbers -/
theorem tDd_0 {s i : Nat} (hs : 3 ≤ s ∧ s < 9) (h : (tDd κ vl s i).1 = 0) : ddG s (tDd κ vl s i).2.2 := by
  unfold tDd at h ⊢
  by_cases s3 : s = 3
  · rw [if_pos s3] at h ⊢
    obtain ⟨a1, a2⟩ := tB_z h
    obtain ⟨b1, b2⟩ := tB_z a1
    obtain ⟨c1, c2⟩ := tB_z b1
    obtain ⟨d1, d2⟩ := tB_z c1
    rw [tB_0 a1, (tNm_0 a2).2.2, tB_0 b1, (tEx_0 b2).2, tB_0 c1, (tNm_0 c2).2.2, tB_0 d1, (tEx_0 d2).2, (tNm_0 d1).2.2]
    have e1 := (tNm_0 d1).2.1
    have e2 := (tNm_0 c2).2.1
    have e3 := (tNm_0 a2).2.1
    rw [tB_0 d1, (tEx_0 d2).2, (tNm_0 d1).2.2] at e2
    rw [tB_0 b1, (tEx_0 b2).2, tB_0 c1, (tNm_0 c2).2.2, tB_0 d1, (tEx_0 d2).2, (tNm_0 d1).2.2] at e3
    dsimp only at e2 e3 ⊢
    subst s3
    refine ⟨⟨?_, fun _ => ?_, fun y => by omega, fun y => by omega, fun y => by omega, fun y => by omega, fun y => by omega⟩, fun _ => ⟨?_, fun y => absurd rfl y⟩, fun _ => ?_⟩
    · show vl i < 10000; omega
    · show vl i < 20; omega
    · show vl (i + 1 + 1) < 10000; omega
    · show vl (i + 1 + 1 + 1 + 1) < 100; omega
  rw [if_neg s3] at h ⊢
  by_cases s5 : s = 5
  · rw [if_pos s5] at h ⊢
    obtain ⟨a1, a2⟩ := tB_z h
    obtain ⟨b1, b2⟩ := tB_z a1
    have e1 := (tNm_0 b1).2.1
    have e2 := (tNm_0 a2).2.1
    rw [tB_0 a1, (tNm_0 a2).2.2, tB_0 b1, (tEx_0 b2).2, (tNm_0 b1).2.2]
    rw [tB_0 b1, (tEx_0 b2).2, (tNm_0 b1).2.2] at e2
    dsimp only at e2 ⊢
    subst s5
    refine ⟨⟨?_, fun y => by omega, fun y => by omega, fun _ => ?_, fun y => by omega, fun y => by omega, fun y => by omega⟩, fun _ => ⟨?_, fun y => ?_⟩, fun y => by omega⟩
    · show vl i < 10000; omega
    · show vl i < 7; omega
    · show vl (i + 1 + 1) < 10000; omega
    · show vl (i + 1 + 1) < 7; omega
  rw [if_neg s5] at h ⊢
  by_cases s7 : s = 7
  · rw [if_pos s7] at h ⊢
    obtain ⟨a1, a2⟩ := tB_z h
    obtain ⟨b1, b2⟩ := tB_z a1
    have e1 := (tNm_0 b1).2.1
    have e2 := (tNm_0 a2).2.1
    rw [tB_0 a1, (tNm_0 a2).2.2, tB_0 b1, (tEx_0 b2).2, (tNm_0 b1).2.2]
    rw [tB_0 b1, (tEx_0 b2).2, (tNm_0 b1).2.2] at e2
    dsimp only at e2 ⊢
    subst s7
    refine ⟨⟨?_, fun y => by omega, fun y => by omega, fun y => by omega, fun y => by omega, fun _ => ?_, fun y => by omega⟩, fun _ => ⟨?_, fun y => ?_⟩, fun y => by omega⟩
    · show vl i < 10000; omega
    · show vl i < 20; omega
    · show vl (i + 1 + 1) < 10000; omega
    · show vl (i + 1 + 1) < 7; omega
  rw [if_neg s7] at h ⊢
  by_cases s8 : s = 8
  · rw [if_pos s8] at h ⊢
    have e1 := (tNm_0 h).2.1
    rw [(tNm_0 h).2.2]
    subst s8
    refine ⟨⟨?_, fun y => by omega, fun y => by omega, fun y => by omega, fun y => by omega, fun y => by omega, fun _ => ?_⟩, fun y => by omega, fun y => by omega⟩
    · show vl i < 10000; omega
    · show 1 ≤ vl i ∧ vl i ≤ 60; omega
  · rw [if_neg s8] at h ⊢
    have e1 := (tNm_0 h).2.1
    rw [(tNm_0 h).2.2]
    refine ⟨⟨?_, fun y => by omega, fun y => ?_, fun y => by omega, fun y => ?_, fun y => by omega, fun y => by omega⟩, fun y => by omega, fun y => by omega⟩
    · show vl i < 10000; omega
    · show vl i < 7; omega
    · show vl i < 7; omega
/-- bounds of where it ends -/
def tbd (i : Nat) (r : tR) : Prop := i ≤ r.2.1 ∧ r.2.1 ≤ 300 ∧ r.1 ≤ 6
theorem tbd_B {i : Nat} {r : tR} {k : Nat → List Nat → tR} (h : tbd i r) (hk : ∀ j c, j ≤ 300 → tbd j (k j c)) : tbd i (tB r k) := by
  by_cases e : r.1 = 0
  · rw [tB_0 e]
    have := hk r.2.1 r.2.2 h.2.1
    exact ⟨Nat.le_trans h.1 this.1, this.2⟩
  · rw [tB_n e]; exact h
theorem tbd_N (hN : ∀ k, 300 ≤ k → κ k = 0) {lo hi : Nat} (j : Nat) (c : List Nat) (hj : j ≤ 300) : tbd j (tNm κ vl lo hi j c) := by
  unfold tNm
  split
  · rename_i h
    have : j < 300 := by
      rcases Nat.lt_or_ge j 300 with y | y
      · exact y
      · have := hN j y; omega
    split
    · exact ⟨Nat.le_succ _, this, Nat.zero_le _⟩
    · exact ⟨Nat.le_refl _, hj, by show 2 ≤ 6; omega⟩
  · exact ⟨Nat.le_refl _, hj, by show 1 ≤ 6; omega⟩
theorem tbd_X (hN : ∀ k, 300 ≤ k → κ k = 0) {a : Nat} (ha : a ≠ 0) (j : Nat) (c : List Nat) (hj : j ≤ 300) : tbd j (tEx κ a j c) := by
  unfold tEx
  split
  · rename_i h
    have : j < 300 := by
      rcases Nat.lt_or_ge j 300 with y | y
      · exact y
      · have := hN j y; omega
    exact ⟨Nat.le_succ _, this, Nat.zero_le _⟩
  · exact ⟨Nat.le_refl _, hj, by show 1 ≤ 6; omega⟩
theorem tbd_D (hN : ∀ k, 300 ≤ k → κ k = 0) {s i : Nat} (hi : i ≤ 300) : tbd i (tDd κ vl s i) := by
  unfold tDd
  split
  · exact tbd_B (tbd_B (tbd_B (tbd_B (tbd_N hN i [] hi) (tbd_X hN (by decide))) (tbd_N hN)) (tbd_X hN (by decide))) (tbd_N hN)
  · split
    · exact tbd_B (tbd_B (tbd_N hN i [] hi) (tbd_X hN (by decide))) (tbd_N hN)
    · split
      · exact tbd_B (tbd_B (tbd_N hN i [] hi) (tbd_X hN (by decide))) (tbd_N hN)
      · split
        · exact tbd_N hN i [] hi
        · exact tbd_N hN i [] hi
theorem tLw_g (hN : ∀ k, 300 ≤ k → κ k = 0) {s i : Nat} (hi : i ≤ 300) : tbd i (tLw κ vl (decide (s = 2)) i) ∧ ((tLw κ vl (decide (s = 2)) i).1 = 0 → lwG s (tLw κ vl (decide (s = 2)) i).2.2 ∧ i < (tLw κ vl (decide (s = 2)) i).2.1 ∧ (tLw κ vl (decide (s = 2)) i).2.2.length + i ≤ (tLw κ vl (decide (s = 2)) i).2.1) := by
  unfold tLw
  by_cases e : s = 2
  · rw [decide_eq_true e, if_pos rfl]
    have g := tEi_g (vl := vl) (lt := true) hN i hi
    refine ⟨⟨g.1, g.2.1, g.2.2.1⟩, fun y => ?_⟩
    obtain ⟨a, b, c, d⟩ := g.2.2.2 y
    have c1 := c (0, 0) rfl
    refine ⟨⟨?_, by rw [if_pos e]; exact c1, d⟩, a, b⟩
    rcases Nat.eq_zero_or_pos (tEi κ vl true i).2.2.length with z | z
    · rw [List.length_eq_zero_iff.mp z] at c1
      exact absurd c1 (by decide)
    · exact z
  · rw [decide_eq_false e, if_neg Bool.false_ne_true]
    have g := tSm_g hN (tOn_g (vl := vl) (lt := false) hN 8) i hi
    refine ⟨⟨g.1, g.2.1, g.2.2.1⟩, fun y => ?_⟩
    obtain ⟨a, b, c, d⟩ := g.2.2.2 y
    have c1 := c (0, 0) trivial
    refine ⟨⟨?_, by rw [if_neg e]; exact c1, d⟩, a, b⟩
    rcases Nat.eq_zero_or_pos (tSm κ (tOn κ vl false 8) i).2.2.length with z | z
    · rw [List.length_eq_zero_iff.mp z] at c1
      exact absurd c1 (by decide)
    · exact z
theorem tBy_g (hN : ∀ k, 300 ≤ k → κ k = 0) {s i : Nat} (hi : i ≤ 300) : tbd i (tBy κ vl s i) := by
  unfold tBy
  split
  · exact (tLw_g hN hi).1
  · exact tbd_D hN hi
theorem srt_kd : ∀ k, k < 38 → (srtK k = 9 ∨ (srtK k < 9 ∧ kdS (srtK k) = k)) := by decide
/-- a clause keeps a text good -/
theorem XP_cs (hN : ∀ k, 300 ≤ k → κ k = 0) {E : Tw} {z i : Nat} (hi : i < 300) (hk : κ i < 38) (h : XP E z) (h0 : (tCs κ vl E z i).1 = 0) (hz : z ≤ i) : XP (tCs κ vl E z i).2.2.1 (tCs κ vl E z i).2.2.2 ∧ (tCs κ vl E z i).2.2.1 0 0 = E 0 0 + 1 ∧ i < (tCs κ vl E z i).2.1 ∧ (tCs κ vl E z i).2.1 ≤ 300 ∧ (tCs κ vl E z i).2.2.2 ≤ (tCs κ vl E z i).2.1 := by
  unfold tCs at h0 ⊢
  by_cases a : tSf E (srtK (κ i)) ≠ 0
  · rw [if_pos a] at h0; exact absurd h0 a
  rw [if_neg a] at h0 ⊢
  by_cases b : (tBy κ vl (srtK (κ i)) (i + 1)).1 ≠ 0
  · rw [if_pos b] at h0; exact absurd h0 b
  rw [if_neg b] at h0 ⊢
  by_cases c : κ (tBy κ vl (srtK (κ i)) (i + 1)).2.1 ≠ 13
  · rw [if_pos c] at h0; exact absurd h0 (by show ¬ 1 = 0; omega)
  rw [if_neg c] at h0 ⊢
  dsimp only
  have a' : tSf E (srtK (κ i)) = 0 := by omega
  have b' : (tBy κ vl (srtK (κ i)) (i + 1)).1 = 0 := by omega
  have c' : κ (tBy κ vl (srtK (κ i)) (i + 1)).2.1 = 13 := by omega
  have g := tBy_g (vl := vl) hN (s := srtK (κ i)) (i := i + 1) (by omega)
  have j3 : (tBy κ vl (srtK (κ i)) (i + 1)).2.1 < 300 := by
    rcases Nat.lt_or_ge (tBy κ vl (srtK (κ i)) (i + 1)).2.1 300 with y | y
    · exact y
    · have := hN _ y; omega
  have s9 : srtK (κ i) < 9 := by
    rcases srt_kd (κ i) hk with y | y
    · unfold tSf at a'
      rw [if_pos y] at a'
      omega
    · exact y.1
  refine ⟨?_, adE_0, by have := g.1; omega, j3, ?_⟩
  · unfold tBy at b' ⊢
    by_cases s3 : srtK (κ i) < 3
    · rw [if_pos s3] at b' ⊢
      rw [if_pos s3]
      exact XP_lw h s3 a' ((tLw_g hN (by omega)).2 b').1
    · rw [if_neg s3] at b' ⊢
      rw [if_neg s3]
      exact XP_dd h ⟨by omega, s9⟩ a' (tDd_0 ⟨by omega, s9⟩ b')
  · have := g.1
    by_cases s3 : srtK (κ i) < 3
    · rw [if_pos s3]
      unfold tBy at b' ⊢
      rw [if_pos s3] at b' ⊢
      have := ((tLw_g (κ := κ) (vl := vl) hN (s := srtK (κ i)) (i := i + 1) (by omega)).2 b').2.2
      omega
    · rw [if_neg s3]; omega
end
