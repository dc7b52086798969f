/-! ===== the language: what a text's laws say, by kinds and values of tokens ===== -/
abbrev tR : Type := Nat × Nat × List Nat
def tB (r : tR) (k : Nat → List Nat → tR) : tR := if r.1 = 0 then k r.2.1 r.2.2 else r
theorem tB_0 {r : tR} {k : Nat → List Nat → tR} (h : r.1 = 0) : tB r k = k r.2.1 r.2.2 := if_pos h
theorem tB_n {r : tR} {k : Nat → List Nat → tR} (h : r.1 ≠ 0) : tB r k = r := if_neg h
def o69 (k : Nat) : Bool := decide (k = 9 ∨ k = 10)
def o78 (k : Nat) : Bool := decide (k = 7 ∨ k = 8)
def oAn (k : Nat) : Bool := decide (k = 34)
def oOr (k : Nat) : Bool := decide (k = 33)
def isR (k : Nat) : Bool := decide ((3 ≤ k ∧ k ≤ 6) ∨ k = 14 ∨ k = 15 ∨ k = 36)
section
variable (κ vl : Nat → Nat) (lt : Bool)
def tEx (c j : Nat) (l : List Nat) : tR := if κ j = c then (0, j + 1, l) else (1, j, l)
def tCl (one : Nat → tR) (op : Nat → Bool) : Nat → Nat → List Nat → tR
  | 0, j, c => (0, j, c)
  | m + 1, j, c => if op (κ j) = true then tB (one (j + 1)) fun j' c' => tCl one op m j' (c ++ c' ++ [10000 + κ j]) else (0, j, c)
def tCh (one : Nat → tR) (op : Nat → Bool) (i : Nat) : tR := tB (one i) fun j c => tCl κ one op 300 j c
def tHd (i : Nat) (ent : tR) : tR := if κ i = 2 then (if vl i ≤ 9999 then (0, i + 1, [vl i]) else (2, i, [])) else (if 16 ≤ κ i ∧ κ i ≤ 23 then (if κ i = 23 ∧ lt = true then (5, i, []) else (0, i + 1, [10000 + κ i])) else (if κ i = 11 ∨ κ i = 8 ∨ κ i = 37 then ent else (1, i, [])))
def tPr (one : Nat → tR) (i : Nat) : tR := tCh κ one o69 i
def tSm (one : Nat → tR) (i : Nat) : tR := tCh κ (tPr κ one) o78 i
def tEn (one : Nat → tR) (i : Nat) : tR := if κ i = 11 then tB (tSm κ one (i + 1)) fun j c => tEx κ 12 j c else (if κ i = 8 then tB (one (i + 1)) fun j c => (0, j, c ++ [10038]) else tB (one (i + 1)) fun j c => tB (tEx κ 32 j c) fun j c => tB (one j) fun j' c' => (0, j', c ++ c' ++ [10037]))
def tOn : Nat → Nat → tR
  | 0, i => tHd κ vl lt i (3, i, [])
  | d + 1, i => tHd κ vl lt i (tEn κ (tOn d) i)
def tRl (d i : Nat) : tR := tB (tSm κ (tOn κ vl lt d) i) fun j c => if isR (κ j) = true then tB (tSm κ (tOn κ vl lt d) (j + 1)) fun j' c' => (0, j', c ++ c' ++ [10000 + κ j]) else (1, j, c)
def tAk : Nat → Nat → tR
  | 0, i => if κ i = 35 then (3, i, []) else tRl κ vl lt 0 i
  | d + 1, i => if κ i = 35 then tB (tAk d (i + 1)) fun j c => (0, j, c ++ [10035]) else tRl κ vl lt (d + 1) i
def tBo (i : Nat) : tR := tCh κ (tAk κ vl lt 8) oAn i
def tEi (i : Nat) : tR := tCh κ (tBo κ vl lt) oOr i
def tLw (i : Nat) : tR := if lt = true then tEi κ vl lt i else tSm κ (tOn κ vl lt 8) i
end
/-- what lies on the piles behind a row of words -/
def tyl : List Nat → Nat × Nat → Option (Nat × Nat)
  | [], s => some s
  | w :: c, s => (tyw w s).bind (tyl c)
theorem tyl_app : ∀ (c d : List Nat) (s : Nat × Nat), tyl (c ++ d) s = (tyl c s).bind (tyl d)
  | [], d, s => rfl
  | w :: c, d, s => by
    show (tyw w s).bind (tyl (c ++ d)) = ((tyw w s).bind (tyl c)).bind (tyl d)
    cases tyw w s with
    | none => rfl
    | some t => exact tyl_app c d t
theorem tyl_app2 {c d : List Nat} {s t u : Nat × Nat} (h : tyl c s = some t) (h2 : tyl d t = some u) : tyl (c ++ d) s = some u := by
  rw [tyl_app, h]; exact h2
theorem tyl_1 {w : Nat} {s t : Nat × Nat} (h : tyw w s = some t) : tyl [w] s = some t := by
  show (tyw w s).bind (tyl []) = _
  rw [h]; rfl
/-- a good row: consumed from i to j -/
def tJ (ty : Nat × Nat → Nat × Nat) (cond : Nat × Nat → Prop) (i j : Nat) (c : List Nat) : Prop := i < j ∧ c.length + i ≤ j ∧ (∀ s, cond s → tyl c s = some (ty s)) ∧ ∀ w, w ∈ c → w < 10039
def tH (ty : Nat × Nat → Nat × Nat) (cond : Nat × Nat → Prop) (i : Nat) (r : tR) : Prop := i ≤ r.2.1 ∧ r.2.1 ≤ 300 ∧ r.1 ≤ 6 ∧ (r.1 = 0 → tJ ty cond i r.2.1 r.2.2)
def tG (ty : Nat × Nat → Nat × Nat) (cond : Nat × Nat → Prop) (one : Nat → tR) : Prop := ∀ i, i ≤ 300 → tH ty cond i (one i)
def tyN (s : Nat × Nat) : Nat × Nat := (s.1, s.2 + 1)
def tyA (s : Nat × Nat) : Nat × Nat := (s.1 + 1, 0)
def cdN (_ : Nat × Nat) : Prop := True
def cdA (s : Nat × Nat) : Prop := s.2 = 0
section
variable {κ vl : Nat → Nat} {lt : Bool}
theorem tH_f {ty : Nat × Nat → Nat × Nat} {cond : Nat × Nat → Prop} {i j f : Nat} {c : List Nat} (h : i ≤ j) (h2 : j ≤ 300) (hf : f ≤ 6) (h0 : f ≠ 0) : tH ty cond i (f, j, c) := ⟨h, h2, hf, fun e => absurd e h0⟩
theorem tH_ok {ty : Nat × Nat → Nat × Nat} {cond : Nat × Nat → Prop} {i j : Nat} {c : List Nat} (h : tJ ty cond i j c) (hj : j ≤ 300) : tH ty cond i (0, j, c) := ⟨Nat.le_of_lt h.1, hj, Nat.zero_le _, fun _ => h⟩
theorem tH_up {ty ty' : Nat × Nat → Nat × Nat} {cond cond' : Nat × Nat → Prop} {i i' : Nat} {r : tR} (h : tH ty cond i r) (hi : i' ≤ i) (h0 : r.1 ≠ 0) : tH ty' cond' i' r := ⟨Nat.le_trans hi h.1, h.2.1, h.2.2.1, fun e => absurd e h0⟩
theorem tCl_g {ty : Nat × Nat → Nat × Nat} {cond : Nat × Nat → Prop} {one : Nat → tR} {op : Nat → Bool} (hN : ∀ k, 300 ≤ k → κ k = 0) (hO : tG ty cond one) (hc : ∀ s, cond s → cond (ty s)) (hop : ∀ k, op k = true → k ≠ 0 ∧ k < 38 ∧ ∀ s, cond s → tyw (10000 + k) (ty (ty s)) = some (ty s)) {i : Nat} : ∀ (m j : Nat) (c : List Nat), j ≤ 300 → tJ ty cond i j c → tH ty cond i (tCl κ one op m j c)
  | 0, j, c, hj, h => ⟨Nat.le_of_lt h.1, hj, Nat.zero_le _, fun _ => h⟩
  | m + 1, j, c, hj, h => by
    have h1 := h.1
    unfold tCl
    cases ho : op (κ j)
    · exact ⟨Nat.le_of_lt h.1, hj, Nat.zero_le _, fun _ => h⟩
    · rw [if_pos rfl]
      obtain ⟨k0, k38, kt⟩ := hop _ ho
      have j3 : j < 300 := by
        rcases Nat.lt_or_ge j 300 with z | z
        · exact z
        · exact absurd (hN j z) k0
      have g := hO (j + 1) (by omega)
      by_cases e : (one (j + 1)).1 = 0
      · rw [tB_0 e]
        obtain ⟨a1, a2, a3, a4⟩ := g.2.2.2 e
        refine tCl_g hN hO hc hop m _ _ g.2.1 ⟨by omega, ?_, fun s hs => ?_, fun w hw => ?_⟩
        · have := h.2.1
          simp only [List.length_append, List.length_singleton]
          omega
        · exact tyl_app2 (tyl_app2 (h.2.2.1 s hs) (a3 _ (hc s hs))) (tyl_1 (kt s hs))
        · simp only [List.mem_append, List.mem_singleton] at hw
          rcases hw with (hw | hw) | hw
          · exact h.2.2.2 w hw
          · exact a4 w hw
          · omega
      · rw [tB_n e]
        exact tH_up g (by omega) e
theorem tCh_g {ty : Nat × Nat → Nat × Nat} {cond : Nat × Nat → Prop} {one : Nat → tR} {op : Nat → Bool} (hN : ∀ k, 300 ≤ k → κ k = 0) (hO : tG ty cond one) (hc : ∀ s, cond s → cond (ty s)) (hop : ∀ k, op k = true → k ≠ 0 ∧ k < 38 ∧ ∀ s, cond s → tyw (10000 + k) (ty (ty s)) = some (ty s)) : tG ty cond (tCh κ one op) := fun i hi => by
  have g := hO i hi
  unfold tCh
  by_cases e : (one i).1 = 0
  · rw [tB_0 e]
    exact tCl_g hN hO hc hop 300 _ _ g.2.1 (g.2.2.2 e)
  · rw [tB_n e]
    exact g
theorem tw_bin {k : Nat} (h : (7 ≤ k ∧ k ≤ 10) ∨ k = 37) (s : Nat × Nat) : tyw (10000 + k) (tyN (tyN s)) = some (tyN s) := by
  unfold tyw tyN
  rw [if_neg (by omega), if_neg (by omega), if_pos (by omega), if_pos (show 2 ≤ s.2 + 1 + 1 by omega)]
  rfl
theorem tPr_g {one : Nat → tR} (hN : ∀ k, 300 ≤ k → κ k = 0) (hO : tG tyN cdN one) : tG tyN cdN (tPr κ one) := tCh_g hN hO (fun _ _ => trivial) (fun k hk => by
  have := of_decide_eq_true hk
  exact ⟨by omega, by omega, fun s _ => tw_bin (by omega) s⟩)
theorem tSm_g {one : Nat → tR} (hN : ∀ k, 300 ≤ k → κ k = 0) (hO : tG tyN cdN one) : tG tyN cdN (tSm κ one) := tCh_g hN (tPr_g hN hO) (fun _ _ => trivial) (fun k hk => by
  have := of_decide_eq_true hk
  exact ⟨by omega, by omega, fun s _ => tw_bin (by omega) s⟩)
theorem tHd_g {ent : tR} {i : Nat} (hN : ∀ k, 300 ≤ k → κ k = 0) (hi : i ≤ 300) (hE : i < 300 → κ i = 11 ∨ κ i = 8 ∨ κ i = 37 → tH tyN cdN i ent) : tH tyN cdN i (tHd κ vl lt i ent) := by
  have j3 : κ i ≠ 0 → i < 300 := fun k0 => by
    rcases Nat.lt_or_ge i 300 with z | z
    · exact z
    · exact absurd (hN i z) k0
  unfold tHd
  split
  · rename_i h
    split
    · rename_i h2
      refine ⟨Nat.le_succ _, j3 (by omega), Nat.zero_le _, fun _ => ⟨Nat.lt_succ_self _, by show 1 + i ≤ i + 1; omega, fun s _ => tyl_1 ?_, fun w hw => ?_⟩⟩
      · unfold tyw
        rw [if_pos (Or.inl (by omega))]
        rfl
      · rw [List.mem_singleton] at hw; omega
    · exact tH_f (Nat.le_refl _) hi (by decide) (by decide)
  · split
    · rename_i h h2
      split
      · exact tH_f (Nat.le_refl _) hi (by decide) (by decide)
      · refine ⟨Nat.le_succ _, j3 (by omega), Nat.zero_le _, fun _ => ⟨Nat.lt_succ_self _, by show 1 + i ≤ i + 1; omega, fun s _ => tyl_1 ?_, fun w hw => ?_⟩⟩
        · unfold tyw
          rw [if_pos (Or.inr (by omega))]
          rfl
        · rw [List.mem_singleton] at hw; omega
    · split
      · rename_i h
        exact hE (j3 (by omega)) h
      · exact tH_f (Nat.le_refl _) hi (by decide) (by decide)
theorem tOn_g (hN : ∀ k, 300 ≤ k → κ k = 0) : ∀ d, tG tyN cdN (tOn κ vl lt d)
  | 0 => fun i hi => tHd_g hN hi (fun _ _ => tH_f (Nat.le_refl _) hi (by decide) (by decide))
  | d + 1 => fun i hi => tHd_g hN hi (fun i3 _ => by
    have ih := tOn_g hN d
    have nz : ∀ j, κ j ≠ 0 → j < 300 := fun j k0 => by
      rcases Nat.lt_or_ge j 300 with z | z
      · exact z
      · exact absurd (hN j z) k0
    unfold tEn
    split
    · have g := tSm_g hN ih (i + 1) (by omega)
      by_cases e : (tSm κ (tOn κ vl lt d) (i + 1)).1 = 0
      · rw [tB_0 e]
        obtain ⟨a1, a2, a3, a4⟩ := g.2.2.2 e
        unfold tEx
        split
        · rename_i h
          have := nz _ (by rw [h]; decide)
          exact tH_ok ⟨by omega, by omega, a3, a4⟩ this
        · exact tH_f (by omega) g.2.1 (by decide) (by decide)
      · rw [tB_n e]
        exact tH_up g (by omega) e
    · split
      · have g := ih (i + 1) (by omega)
        by_cases e : (tOn κ vl lt d (i + 1)).1 = 0
        · rw [tB_0 e]
          obtain ⟨a1, a2, a3, a4⟩ := g.2.2.2 e
          refine tH_ok ⟨by omega, ?_, fun s hs => tyl_app2 (a3 s hs) (tyl_1 ?_), fun w hw => ?_⟩ g.2.1
          · simp only [List.length_append, List.length_singleton]; omega
          · unfold tyw tyN
            rw [if_neg (by omega), if_pos rfl, if_pos (show 1 ≤ s.2 + 1 by omega)]
          · simp only [List.mem_append, List.mem_singleton] at hw
            rcases hw with hw | hw
            · exact a4 w hw
            · omega
        · rw [tB_n e]
          exact tH_up g (by omega) e
      · have g := ih (i + 1) (by omega)
        by_cases e : (tOn κ vl lt d (i + 1)).1 = 0
        · rw [tB_0 e]
          obtain ⟨a1, a2, a3, a4⟩ := g.2.2.2 e
          unfold tEx
          by_cases h : κ (tOn κ vl lt d (i + 1)).2.1 = 32
          · have j3 := nz _ (show κ (tOn κ vl lt d (i + 1)).2.1 ≠ 0 by rw [h]; decide)
            rw [if_pos h, tB_0 (r := (0, _, _)) rfl]
            have g2 := ih ((tOn κ vl lt d (i + 1)).2.1 + 1) (by omega)
            by_cases e2 : (tOn κ vl lt d ((tOn κ vl lt d (i + 1)).2.1 + 1)).1 = 0
            · rw [tB_0 e2]
              obtain ⟨b1, b2, b3, b4⟩ := g2.2.2.2 e2
              refine tH_ok ⟨by omega, ?_, fun s hs => tyl_app2 (tyl_app2 (a3 s hs) (b3 _ trivial)) (tyl_1 (tw_bin (k := 37) (by omega) s)), fun w hw => ?_⟩ g2.2.1
              · simp only [List.length_append, List.length_singleton]; omega
              · simp only [List.mem_append, List.mem_singleton] at hw
                rcases hw with (hw | hw) | hw
                · exact a4 w hw
                · exact b4 w hw
                · omega
            · rw [tB_n e2]
              exact tH_up g2 (by omega) e2
          · rw [if_neg h, tB_n (r := (1, _, _)) (by show ¬ 1 = 0; omega)]
            exact tH_f (by omega) g.2.1 (by decide) (by decide)
        · rw [tB_n e]
          exact tH_up g (by omega) e)
theorem tRl_g (hN : ∀ k, 300 ≤ k → κ k = 0) (d : Nat) : tG tyA cdA (tRl κ vl lt d) := fun i hi => by
  have ih := tSm_g hN (tOn_g (vl := vl) (lt := lt) hN d)
  have g := ih i hi
  unfold tRl
  by_cases e : (tSm κ (tOn κ vl lt d) i).1 = 0
  · rw [tB_0 e]
    obtain ⟨a1, a2, a3, a4⟩ := g.2.2.2 e
    cases hr : isR (κ (tSm κ (tOn κ vl lt d) i).2.1)
    · rw [if_neg Bool.false_ne_true]
      exact tH_f (by omega) g.2.1 (by decide) (by decide)
    · rw [if_pos rfl]
      have hk := of_decide_eq_true hr
      have j3 : (tSm κ (tOn κ vl lt d) i).2.1 < 300 := by
        rcases Nat.lt_or_ge (tSm κ (tOn κ vl lt d) i).2.1 300 with z | z
        · exact z
        · have := hN _ z; omega
      have g2 := ih ((tSm κ (tOn κ vl lt d) i).2.1 + 1) (by omega)
      by_cases e2 : (tSm κ (tOn κ vl lt d) ((tSm κ (tOn κ vl lt d) i).2.1 + 1)).1 = 0
      · rw [tB_0 e2]
        obtain ⟨b1, b2, b3, b4⟩ := g2.2.2.2 e2
        refine tH_ok ⟨by omega, ?_, fun s hs => tyl_app2 (tyl_app2 (a3 s trivial) (b3 _ trivial)) (tyl_1 ?_), fun w hw => ?_⟩ g2.2.1
        · simp only [List.length_append, List.length_singleton]; omega
        · have hs' : s.2 = 0 := hs
          unfold tyw tyN tyA
          rw [if_neg (by omega), if_neg (by omega), if_neg (by omega), if_pos (by omega), if_pos (show s.2 + 1 + 1 = 2 by omega)]
        · simp only [List.mem_append, List.mem_singleton] at hw
          rcases hw with (hw | hw) | hw
          · exact a4 w hw
          · exact b4 w hw
          · omega
      · rw [tB_n e2]
        exact tH_up g2 (by omega) e2
  · rw [tB_n e]
    exact tH_up g (by omega) e
theorem tAk_g (hN : ∀ k, 300 ≤ k → κ k = 0) : ∀ d, tG tyA cdA (tAk κ vl lt d)
  | 0 => fun i hi => by
    unfold tAk
    split
    · exact tH_f (Nat.le_refl _) hi (by decide) (by decide)
    · exact tRl_g hN 0 i hi
  | d + 1 => fun i hi => by
    unfold tAk
    split
    · rename_i h
      have j3 : i < 300 := by
        rcases Nat.lt_or_ge i 300 with z | z
        · exact z
        · have := hN _ z; omega
      have g := tAk_g hN d (i + 1) (by omega)
      by_cases e : (tAk κ vl lt d (i + 1)).1 = 0
      · rw [tB_0 e]
        obtain ⟨a1, a2, a3, a4⟩ := g.2.2.2 e
        refine tH_ok ⟨by omega, ?_, fun s hs => tyl_app2 (a3 s hs) (tyl_1 ?_), fun w hw => ?_⟩ g.2.1
        · simp only [List.length_append, List.length_singleton]; omega
        · unfold tyw tyA
          rw [if_neg (by omega), if_neg (by omega), if_neg (by omega), if_neg (by omega), if_pos rfl, if_pos (show 1 ≤ s.1 + 1 ∧ 0 = 0 by omega)]
        · simp only [List.mem_append, List.mem_singleton] at hw
          rcases hw with hw | hw
          · exact a4 w hw
          · omega
      · rw [tB_n e]
        exact tH_up g (by omega) e
    · exact tRl_g hN (d + 1) i hi
theorem tw_ao {k : Nat} (h : k = 33 ∨ k = 34) (s : Nat × Nat) : tyw (10000 + k) (tyA (tyA s)) = some (tyA s) := by
  unfold tyw tyA
  rw [if_neg (by omega), if_neg (by omega), if_neg (by omega), if_neg (by omega), if_neg (by omega), if_pos (by omega), if_pos (show 2 ≤ s.1 + 1 + 1 ∧ 0 = 0 by omega)]
  rfl
theorem tBo_g (hN : ∀ k, 300 ≤ k → κ k = 0) : tG tyA cdA (tBo κ vl lt) := tCh_g hN (tAk_g hN 8) (fun _ _ => rfl) (fun k hk => by
  have := of_decide_eq_true hk
  exact ⟨by omega, by omega, fun s _ => tw_ao (by omega) s⟩)
theorem tEi_g (hN : ∀ k, 300 ≤ k → κ k = 0) : tG tyA cdA (tEi κ vl lt) := tCh_g hN (tBo_g hN) (fun _ _ => rfl) (fun k hk => by
  have := of_decide_eq_true hk
  exact ⟨by omega, by omega, fun s _ => tw_ao (by omega) s⟩)
end
