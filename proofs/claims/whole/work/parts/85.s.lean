/-! ===== played ===== -/
theorem Sim.map {α β : Type} {f8 f9 : mS → Option (mS × α)} {g8 g9 : mS → Option (mS × β)} (φ : α → β) {E : Nat → Tw} {T : Tw} {P : Nat → Tw} {N : Tw} {Q : Tw → (Nat → Tw) → Tw → α → Prop} (h : Sim f8 f9 E T P N Q) (h8 : ∀ S, CW S 40 T P N → TX S E (N 0 2) → ∀ S1 r, (∃ T' P' N', Q T' P' N' r) → f8 S = some (S1, r) → g8 S = some (S1, φ r)) (h9 : ∀ S, RW S 376 T P N → TX S E (N 0 2) → ∀ S1 r, (∃ T' P' N', Q T' P' N' r) → f9 S = some (S1, r) → g9 S = some (S1, φ r)) : Sim g8 g9 E T P N (fun _ _ _ _ => True) := by
  obtain ⟨T', P', N', r, a8, a9, v, e2, e5, q⟩ := h
  refine ⟨T', P', N', φ r, fun S hS hT => ?_, fun S hS hT => ?_, v, e2, e5, trivial⟩
  · obtain ⟨S1, u, c, f⟩ := a8 S hS hT
    exact ⟨S1, h8 S hS hT S1 r ⟨_, _, _, q⟩ u, c, f⟩
  · obtain ⟨S1, u, c, f⟩ := a9 S hS hT
    exact ⟨S1, h9 S hS hT S1 r ⟨_, _, _, q⟩ u, c, f⟩
theorem Sim.run2 {α : Type} {f8 f9 : mS → Option (mS × α)} {S : mS} {T : Tw} {P : Nat → Tw} {N : Tw} {T1 : Tw} {P1 : Nat → Tw} {N1 : Tw} {E : Nat → Tw} {Q : Tw → (Nat → Tw) → Tw → α → Prop} (h : Sim f8 f9 E T P N Q) (hI : InvW S T P N T1 P1 N1 E) : ∃ S1 S2 r, f8 S = some (S1, r) ∧ f9 S1 = some (S2, r) ∧ Inv S2 ∧ Fc S S1 := by
  obtain ⟨T', P', N', r, h8, h9, hv, e2, e5, -⟩ := h
  obtain ⟨S1, u1, c1, f1⟩ := h8 S hI.1 hI.tx
  obtain ⟨S2, u2, c2, f2⟩ := h9 S1 (hI.2.1.fc f1) (hI.tx.fc hI.2.2.1.2.2.1.2.2.1 f1)
  exact ⟨S1, S2, r, u1, u2, (hI.next c1 f1 c2 f2 hv e2).inv, f1⟩
section
variable {F : Nat} {S : mS} {E : Nat → Tw} {n i c : Nat}
theorem x5_kind (hT : TX S E n) (hi : i < n) (hc : c < E i 0 0) : f_X5_kindOf F S (12 + 5 * i) (nI c) = some (nI (kdS (E i 1 c))) := by
  obtain ⟨t1, t2, t3, t4, -⟩ := hT.1 i hi
  rw [u_X5_kindOf, win_n (by omega) (by omega) (by omega), decide_eq_true (by omega), if_pos rfl, pk_mul, inb_n (n := c * 4) (by omega) (by omega), ck_t, nI_clamp (n := c * 4) (by omega), Nat.mul_comm c 4, (t4 c hc).2.1]
theorem x5_numb (hT : TX S E n) (hi : i < n) (hc : c < E i 0 0) {w : Nat} (hw : w < 3) : f_X5_numberOf F S (12 + 5 * i) (nI c) (nI w) = some (S.1 (12 + 5 * i + 4) (4 * c + 1 + w)) := by
  obtain ⟨t1, t2, t3, t4, -⟩ := hT.1 i hi
  rw [u_X5_numberOf, win_n (by omega) (by omega) (by omega), decide_eq_true (by omega), if_pos rfl, win_n (by omega) (by omega) (by omega), decide_eq_true (by omega), if_pos rfl, pk_mul, nI_add, nI_add, inb_n (n := c * 4 + 1 + w) (by omega) (by omega), ck_t, nI_clamp (n := c * 4 + 1 + w) (by omega), Nat.mul_comm c 4]
theorem m1_neg : ((-1 : Int32) < nI 0) = True := eq_true (by decide)
end
theorem sim_clause {F : Nat} (hF : 3000 < F) {E : Nat → Tw} {T : Tw} {P : Nat → Tw} {N : Tw} (hV : WV T P N) {i c : Nat} (hi : i < N 0 2) (E0 : Nat) (hE0 : ∀ S, TX S E (N 0 2) → E i 0 0 = E0) (hc : c < E i 0 0) (hE24 : E i 0 0 ≤ 24) (hs9 : E i 1 c < 9) : Sim (fun S => f_X8_isCarriedOut F S 0 (12 + 5 * i) (nI c)) (fun S => f_X9_isPlayed F S 375 (nI (705 * i + 1 + 4 * c))) E T P N (fun _ _ _ _ => True) := by
  have b2 := hV.2.2.1.2.2.1
  have c8 : ∀ S, TX S E (N 0 2) → f_X8_isCarriedOut F S 0 (12 + 5 * i) (nI c) = _ := fun S hT => by
    rw [u_X8_isCarriedOut, x5_numb hT hi hc (by omega), bd_s, x5_numb hT hi hc (by omega), bd_s, x5_kind hT hi hc, bd_s, x5_numb hT hi hc (by omega), bd_s]
  have c9 : ∀ S, TX S E (N 0 2) → f_X9_isPlayed F S 375 (nI (705 * i + 1 + 4 * c)) = _ := fun S hT => by
    rw [u_X9_isPlayed, nI_add, nI_add, nI_add, inb_n (n := 705 * i + 1 + 4 * c + 1) (by omega) (by omega), inb_n (n := 705 * i + 1 + 4 * c + 2) (by omega) (by omega), inb_n (n := 705 * i + 1 + 4 * c) (by omega) (by omega), inb_n (n := 705 * i + 1 + 4 * c + 3) (by omega) (by omega), ck_t, ck_t, ck_t, ck_t, nI_clamp (n := 705 * i + 1 + 4 * c + 1) (by omega), nI_clamp (n := 705 * i + 1 + 4 * c + 2) (by omega), nI_clamp (n := 705 * i + 1 + 4 * c + 3) (by omega), nI_clamp (n := 705 * i + 1 + 4 * c) (by omega)]
  have so : ∀ S, TX S E (N 0 2) → S.1 378 (705 * i + 1 + 4 * c) = nI (E i 1 c) := fun S hT => ((hT.1 i hi).2.2.2.1 c hc).2.2
  have v1 : ∀ S, TX S E (N 0 2) → 3 ≤ E i 1 c → S.1 (12 + 5 * i + 4) (4 * c + 1 + 0) = nI (E i 2 c) ∧ S.1 378 (705 * i + 1 + 4 * c + 1) = nI (E i 2 c) ∧ E i 2 c < 10000 := fun S hT h3 => ⟨((hT.1 i hi).2.2.2.2.1 c hc h3).1, ((hT.1 i hi).2.2.2.2.1 c hc h3).2.1, ((hT.1 i hi).2.2.2.2.1 c hc h3).2.2.1⟩
  have v2 : ∀ S, TX S E (N 0 2) → (E i 1 c = 3 ∨ E i 1 c = 5 ∨ E i 1 c = 7) → S.1 (12 + 5 * i + 4) (4 * c + 1 + 1) = nI (E i 3 c) ∧ S.1 378 (705 * i + 1 + 4 * c + 2) = nI (E i 3 c) := fun S hT h3 => ⟨((hT.1 i hi).2.2.2.2.2.1 c hc h3).1, ((hT.1 i hi).2.2.2.2.2.1 c hc h3).2.1⟩
  have v3 : ∀ S, TX S E (N 0 2) → E i 1 c = 3 → S.1 (12 + 5 * i + 4) (4 * c + 1 + 2) = nI (E i 4 c) ∧ S.1 378 (705 * i + 1 + 4 * c + 3) = nI (E i 4 c) := fun S hT h3 => ⟨((hT.1 i hi).2.2.2.2.2.2.1 c hc h3).1, ((hT.1 i hi).2.2.2.2.2.2.1 c hc h3).2.1⟩
  rcases (show E i 1 c < 3 ∨ E i 1 c = 3 ∨ E i 1 c = 4 ∨ E i 1 c = 5 ∨ E i 1 c = 6 ∨ E i 1 c = 7 ∨ E i 1 c = 8 by omega) with q | q | q | q | q | q | q
  · have ek : kdS (E i 1 c) = 24 + E i 1 c := if_pos q
    refine ⟨T, P, N, true, fun S hS hT => ⟨S, ?_, hS, Fc.rfl' S⟩, fun S hS hT => ⟨S, ?_, hS, Fr.rfl' S⟩, hV, rfl, rfl, trivial⟩
    · show f_X8_isCarriedOut F S 0 _ _ = _
      rw [c8 S hT, ek, if_neg (nne (by omega) (by omega) (by omega)), if_neg (nne (by omega) (by omega) (by omega)), if_neg (nne (by omega) (by omega) (by omega)), if_neg (nne (by omega) (by omega) (by omega)), if_neg (nne (by omega) (by omega) (by omega)), if_neg (nne (by omega) (by omega) (by omega))]
    · show f_X9_isPlayed F S 375 _ = _
      rw [c9 S hT, so S hT, if_neg (nne (by omega) (by omega) (by omega)), if_neg (nne (by omega) (by omega) (by omega)), if_neg (nne (by omega) (by omega) (by omega)), if_neg (nne (by omega) (by omega) (by omega)), if_neg (nne (by omega) (by omega) (by omega)), if_neg (nne (by omega) (by omega) (by omega))]
  · refine (sim_house (F := F) (E := E) (by omega) hV (nI (E i 2 c)) (-1) (-1) (nI (E i 3 c)) (nI (E i 4 c))).map (fun r => decide (¬ r = -1)) (fun S hS hT S1 r hr u => ?_) (fun S hS hT S1 r hr u => ?_)
    · have u' : f_X8_house F S 0 (nI (E i 2 c)) (-1) (-1) (nI (E i 3 c)) (nI (E i 4 c)) = some (S1, r) := u
      show f_X8_isCarriedOut F S 0 _ _ = _
      rw [c8 S hT, q, show kdS 3 = 18 from rfl, if_neg (by decide), if_pos rfl, (v1 S hT (by omega)).1, (v2 S hT (Or.inl q)).1, (v3 S hT q).1, u', bd_s]
      by_cases z : r = -1
      · rw [if_pos z, decide_eq_false (fun h => h z)]
      · rw [if_neg z, decide_eq_true z]
    · have u' : f_X9_house F S 375 (nI (E i 2 c)) (-1) (-1) (nI (E i 3 c)) (nI (E i 4 c)) = some (S1, r) := u
      show f_X9_isPlayed F S 375 _ = _
      rw [c9 S hT, so S hT, q, if_pos rfl, (v1 S hT (by omega)).2.1, (v2 S hT (Or.inl q)).2, (v3 S hT q).2, u', bd_s]
      obtain ⟨-, -, -, z | ⟨m, hm, rfl⟩⟩ := hr
      · rw [z]; rfl
      · rw [if_neg (show ¬ nI m < nI 0 from nI_pos (by omega)), decide_eq_true (by rw [n_m1 (by omega)]; exact fun h => h)]
  · refine (sim_knock (F := F) (E := E) (by omega) hV (nI (E i 2 c))).map (fun r => decide (¬ r = -1)) (fun S hS hT S1 r hr u => ?_) (fun S hS hT S1 r hr u => ?_)
    · have u' : f_X8_knock F S 0 (nI (E i 2 c)) = some (S1, r) := u
      show f_X8_isCarriedOut F S 0 _ _ = _
      rw [c8 S hT, q, show kdS 4 = 27 from rfl, if_neg (by decide), if_neg (by decide), if_pos rfl, (v1 S hT (by omega)).1, u', bd_s]
      by_cases z : r = -1
      · rw [if_pos z, decide_eq_false (fun h => h z)]
      · rw [if_neg z, decide_eq_true z]
    · have u' : f_X9_knock F S 375 (nI (E i 2 c)) = some (S1, r) := u
      show f_X9_isPlayed F S 375 _ = _
      rw [c9 S hT, so S hT, q, if_neg (by decide), if_pos rfl, (v1 S hT (by omega)).2.1, u', bd_s]
      obtain ⟨-, -, -, z | ⟨m, hm, rfl⟩⟩ := hr
      · rw [z]; rfl
      · rw [if_neg (show ¬ nI m < nI 0 from nI_pos (by omega)), decide_eq_true (by rw [n_m1 (by omega)]; exact fun h => h)]
  · refine (sim_marry (F := F) (E := E) (by omega) hV (nI (E i 2 c)) (nI (E i 3 c))).map (fun r => decide (¬ r = -1)) (fun S hS hT S1 r hr u => ?_) (fun S hS hT S1 r hr u => ?_)
    · have u' : f_X8_marry F S 0 (nI (E i 2 c)) (nI (E i 3 c)) = some (S1, r) := u
      show f_X8_isCarriedOut F S 0 _ _ = _
      rw [c8 S hT, q, show kdS 5 = 28 from rfl, if_neg (by decide), if_neg (by decide), if_neg (by decide), if_pos rfl, (v1 S hT (by omega)).1, (v2 S hT (Or.inr (Or.inl q))).1, u', bd_s]
      by_cases z : r = -1
      · rw [if_pos z, decide_eq_false (fun h => h z)]
      · rw [if_neg z, decide_eq_true z]
    · have u' : f_X9_marry F S 375 (nI (E i 2 c)) (nI (E i 3 c)) = some (S1, r) := u
      show f_X9_isPlayed F S 375 _ = _
      rw [c9 S hT, so S hT, q, if_neg (by decide), if_neg (by decide), if_pos rfl, (v1 S hT (by omega)).2.1, (v2 S hT (Or.inr (Or.inl q))).2, u', bd_s]
      obtain ⟨-, -, -, z | ⟨m, hm, rfl⟩⟩ := hr
      · rw [z]; rfl
      · rw [if_neg (show ¬ nI m < nI 0 from nI_pos (by omega)), decide_eq_true (by rw [n_m1 (by omega)]; exact fun h => h)]
  · refine (sim_hat (F := F) (E := E) (by omega) hV (nI (E i 2 c))).map (fun _ => cdr T (nI (E i 2 c))) (fun S hS hT S1 r hr u => ?_) (fun S hS hT S1 r hr u => ?_)
    · have u' : f_X8_hat F S 0 (nI (E i 2 c)) = some (S1, r) := u
      show f_X8_isCarriedOut F S 0 _ _ = _
      rw [c8 S hT, q, show kdS 6 = 29 from rfl, if_neg (by decide), if_neg (by decide), if_neg (by decide), if_neg (by decide), if_pos rfl, (v1 S hT (by omega)).1, u_X8_isHatPassed, x6_canD hS.1 hV.1, bd_s, u', bd_s]
      cases z : cdr T (nI (E i 2 c))
      · rw [if_neg (by decide), bd_s]
        rw [u_X8_hat, x6_canD hS.1 hV.1, z, bd_s, if_neg (by decide)] at u'
        have e1 : S = S1 := congrArg Prod.fst (Option.some.inj u')
        rw [e1]
      · rw [if_pos rfl, bd_s]
    · have u' : f_X9_hat F S 375 (nI (E i 2 c)) = some (S1, r) := u
      show f_X9_isPlayed F S 375 _ = _
      rw [c9 S hT, so S hT, q, if_neg (by decide), if_neg (by decide), if_neg (by decide), if_pos rfl, (v1 S hT (by omega)).2.1, x9_canD (by omega) hS.1 hV.1, bd_s, u', bd_s]
  · refine (sim_forget (F := F) (E := E) (by omega) hV (nI (E i 2 c)) (nI (E i 3 c))).map (fun r => r) (fun S hS hT S1 r hr u => ?_) (fun S hS hT S1 r hr u => ?_)
    · have u' : f_X8_forget F S 0 (nI (E i 2 c)) (nI (E i 3 c)) = some (S1, r) := u
      show f_X8_isCarriedOut F S 0 _ _ = _
      rw [c8 S hT, q, show kdS 7 = 30 from rfl, if_neg (by decide), if_neg (by decide), if_neg (by decide), if_neg (by decide), if_neg (by decide), if_pos rfl, (v1 S hT (by omega)).1, (v2 S hT (Or.inr (Or.inr q))).1, u', bd_s]
    · have u' : f_X9_forget F S 375 (nI (E i 2 c)) (nI (E i 3 c)) = some (S1, r) := u
      show f_X9_isPlayed F S 375 _ = _
      rw [c9 S hT, so S hT, q, if_neg (by decide), if_neg (by decide), if_neg (by decide), if_neg (by decide), if_pos rfl, (v1 S hT (by omega)).2.1, (v2 S hT (Or.inr (Or.inr q))).2, u', bd_s]
  · by_cases h60 : E i 2 c ≤ 60
    · obtain ⟨T', P', N', j, a8, a9, v, n2, n5, jl, jm⟩ := pd_sim (F := F) (E := E) hF h60 (E i 2 c) 0 F (T := T) (P := P) (N := N) (by omega) (by omega) hV
      refine ⟨T', P', N', decide (j = E i 2 c), fun S hS hT => ?_, fun S hS hT => ?_, v, n2, n5, trivial⟩
      · obtain ⟨S1, u1, c1, f1⟩ := a8 S hS hT
        refine ⟨S1, ?_, c1, f1⟩
        show f_X8_isCarriedOut F S 0 _ _ = _
        rw [c8 S hT, q, show kdS 8 = 16 from rfl, if_pos rfl, (v1 S hT (by omega)).1, u_X8_passDays, u1, bd_s, Nat.zero_add]
        by_cases z : j = E i 2 c
        · rw [if_pos (by rw [z]), decide_eq_true z]
        · rw [if_neg (nne z (by omega) (by omega)), decide_eq_false z]
      · obtain ⟨S2, u2, c2, f2⟩ := a9 S hS hT
        refine ⟨S2, ?_, c2, f2⟩
        show f_X9_isPlayed F S 375 _ = _
        rw [c9 S hT, so S hT, q, if_neg (by decide), if_neg (by decide), if_neg (by decide), if_neg (by decide), if_neg (by decide), if_pos rfl, (v1 S hT (by omega)).2.1, u_X9_arePassed, u2, bd_s]
    · refine ⟨T, P, N, true, fun S hS hT => absurd (((hT.1 i hi).2.2.2.2.1 c hc (by omega)).2.2.2.2.2.2.2.2 q).2 h60, fun S hS hT => absurd (((hT.1 i hi).2.2.2.2.1 c hc (by omega)).2.2.2.2.2.2.2.2 q).2 h60, hV, rfl, rfl, trivial⟩
theorem sim_played {F : Nat} (hF : 3000 < F) {E : Nat → Tw} {i : Nat} (hE24 : E i 0 0 ≤ 24) (hs9 : ∀ c, c < E i 0 0 → E i 1 c < 9) (m : Nat) : ∀ (c k : Nat) {T : Tw} {P : Nat → Tw} {N : Tw}, i < N 0 2 → c + m = E i 0 0 → m < k → WV T P N → Sim (fun S => lX8_played_20 F 0 (nI i) k S (nI c)) (fun S => lX9_played_21 F 375 (nI i) k S (nI c)) E T P N (fun _ _ _ _ => True) := by
  induction m with
  | zero =>
    intro c k T P N hi hc hk hV
    have b2 := hV.2.2.1.2.2.1
    obtain ⟨k, rfl⟩ : ∃ k', k = k' + 1 := ⟨k - 1, by omega⟩
    refine ⟨T, P, N, -1, fun S hS hT => ⟨S, ?_, hS, Fc.rfl' S⟩, fun S hS hT => ⟨S, ?_, hS, Fr.rfl' S⟩, hV, rfl, rfl, trivial⟩
    · show lX8_played_20 F 0 (nI i) (k + 1) S (nI c) = _
      rw [u_X8_played_20, nI_clamp (n := i) (by omega), (hT.1 i hi).2.1, if_pos (nI_le (by omega) (by omega))]
    · show lX9_played_21 F 375 (nI i) (k + 1) S (nI c) = _
      rw [u_X9_played_21, pk_mul, inb_n (n := 705 * i) (by omega) (by omega), ck_t, nI_clamp (n := 705 * i) (by omega), (hT.1 i hi).2.2.1, if_pos (nI_le (by omega) (by omega))]
  | succ m ih =>
    intro c k T P N hi hc hk hV
    have b2 := hV.2.2.1.2.2.1
    obtain ⟨k, rfl⟩ : ∃ k', k = k' + 1 := ⟨k - 1, by omega⟩
    obtain ⟨T', P', N', r, a8, a9, v, e2, e5, -⟩ := sim_clause (F := F) hF hV hi (E i 0 0) (fun _ _ => rfl) (show c < E i 0 0 by omega) hE24 (hs9 c (by omega))
    have q8 : ∀ S S1, TX S E (N 0 2) → f_X8_isCarriedOut F S 0 (12 + 5 * i) (nI c) = some (S1, r) → lX8_played_20 F 0 (nI i) (k + 1) S (nI c) = if r = true then lX8_played_20 F 0 (nI i) k S1 (nI (c + 1)) else some (S1, nI c) := fun S S1 hT u => by
      rw [u_X8_played_20, nI_clamp (n := i) (by omega), (hT.1 i hi).2.1, if_neg (nI_ge (by omega) (by omega)), u, bd_s, nI_add]
    have q9 : ∀ S S1, TX S E (N 0 2) → f_X9_isPlayed F S 375 (nI (705 * i + 1 + 4 * c)) = some (S1, r) → lX9_played_21 F 375 (nI i) (k + 1) S (nI c) = if r = true then lX9_played_21 F 375 (nI i) k S1 (nI (c + 1)) else some (S1, nI c) := fun S S1 hT u => by
      rw [u_X9_played_21, pk_mul, inb_n (n := 705 * i) (by omega) (by omega), ck_t, nI_clamp (n := 705 * i) (by omega), (hT.1 i hi).2.2.1, if_neg (nI_ge (by omega) (by omega)), nI_add, pk_mul, nI_add, u, bd_s, nI_add]
    cases r
    · refine ⟨T', P', N', nI c, fun S hS hT => ?_, fun S hS hT => ?_, v, e2, e5, trivial⟩
      · obtain ⟨S1, u, c1, f1⟩ := a8 S hS hT
        exact ⟨S1, (q8 S S1 hT u).trans (if_neg (by decide)), c1, f1⟩
      · obtain ⟨S1, u, c1, f1⟩ := a9 S hS hT
        exact ⟨S1, (q9 S S1 hT u).trans (if_neg (by decide)), c1, f1⟩
    · obtain ⟨T2, P2, N2, r2, b8, b9, v2, g2, g5, -⟩ := ih (c + 1) k (T := T') (P := P') (N := N') (by rw [e2]; exact hi) (by omega) (by omega) v
      refine ⟨T2, P2, N2, r2, fun S hS hT => ?_, fun S hS hT => ?_, v2, g2.trans e2, g5.trans e5, trivial⟩
      · obtain ⟨S1, u, c1, f1⟩ := a8 S hS hT
        obtain ⟨S2, u2, c2, f2⟩ := b8 S1 c1 (by rw [e2]; exact hT.fc b2 f1)
        exact ⟨S2, ((q8 S S1 hT u).trans (if_pos rfl)).trans u2, c2, f1.trans f2⟩
      · obtain ⟨S1, u, c1, f1⟩ := a9 S hS hT
        obtain ⟨S2, u2, c2, f2⟩ := b9 S1 c1 (by rw [e2]; exact hT.fr' b2 f1)
        exact ⟨S2, ((q9 S S1 hT u).trans (if_pos rfl)).trans u2, c2, f1.trans f2⟩
theorem st_played : ∀ S, Inv S → ∀ a1, Step μX8_played μX9_played Inv S [.int a1] := by
  intro S hI a
  have hI' := hI
  obtain ⟨T, P, N, T1, P1, N1, E, hI⟩ := hI
  obtain ⟨F, hF⟩ := big_F
  have hV := hI.2.2.1
  have b2 := hV.2.2.1.2.2.1
  have g4 : S.1 40 4 = nI (N 0 2) := hI.1.2.2.2.1.2.2.1
  have q1 : S.1 376 1 = nI (N 0 2) := hI.2.1.2.2.1.1
  rcases tld_c a (n := N 0 2) (by omega) with z | ⟨i, hi, rfl, z⟩
  · have h1 : f_X8_played F S 0 a = some (S, -2) := by rw [u_X8_played, u_X8_isText, g4, win_tld _ (by omega), z]; rfl
    have h2 : f_X9_played F S 375 a = some (S, -2) := by rw [u_X9_played, inb_n (n := 1) (by omega) (by omega), ck_t, nI_clamp (n := 1) (by omega), q1, x9_isIn, win_tld _ (by omega), z]; rfl
    exact stepR hI' (c_X8_played k_0 h1) (c_X9_played k_375 h2) (by decide) (by decide)
  · have tr := hI.tx.1 i hi
    obtain ⟨S1, S2, r, h1, h2, h3, f1⟩ := (sim_played (F := F) (E := E) (i := i) (by omega) tr.1 (fun c hc => (tr.2.2.2.1 c hc).1) (E i 0 0) 0 F (T := T) (P := P) (N := N) hi (by omega) (by have := tr.1; omega) hV).run2 hI
    have h1' : f_X8_played F S 0 (nI i) = some (S1, r) := by
      rw [u_X8_played, u_X8_isText, g4, win_tld _ (by omega), z, if_pos rfl, if_neg (nI_ge (show i < 4 by omega) (by omega)), if_pos rfl, inb_n (n := i) (by omega) (by omega), ck_t]; exact h1
    have q1' : S1.1 376 1 = nI (N 0 2) := (f1 _ _ (by omega)).trans q1
    have h2' : f_X9_played F S1 375 (nI i) = some (S2, r) := by
      rw [u_X9_played, inb_n (n := 1) (by omega) (by omega), ck_t, nI_clamp (n := 1) (by omega), q1', x9_isIn, win_tld _ (by omega), z, if_pos rfl]; exact h2
    exact stepW (S1 := S1) (S2 := S2) (r := r) (c_X8_played k_0 h1') (c_X9_played k_375 h2') h3 (by decide) (by decide)
