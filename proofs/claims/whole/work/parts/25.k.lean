theorem rr7_town {t : Nat} (h : kd0 t = 7) : rf0 t 0 = some (t + 1) := by
  unfold rf0
  rw [h]
  rfl
theorem rr7_steps {t : Nat} (h : kd0 t = 7) : rf0 t 1 = some (t + 6) := by
  unfold rf0
  rw [h]
  rfl
theorem rr7_seenHouse {t : Nat} (h : kd0 t = 7) : rf0 t 6 = some (t + 7) := by
  unfold rf0
  rw [h]
  rfl
theorem rr7_seenDate {t : Nat} (h : kd0 t = 7) : rf0 t 7 = some (t + 8) := by
  unfold rf0
  rw [h]
  rfl
theorem rr7_seenShut {t : Nat} (h : kd0 t = 7) : rf0 t 8 = some (t + 9) := by
  unfold rf0
  rw [h]
  rfl
theorem rr7_gossipFrom {t : Nat} (h : kd0 t = 7) : rf0 t 10 = some (t + 10) := by
  unfold rf0
  rw [h]
  rfl
theorem rr7_gossipTo {t : Nat} (h : kd0 t = 7) : rf0 t 11 = some (t + 11) := by
  unfold rf0
  rw [h]
  rfl
theorem dX7_init_0 : decode cX7_init 0 = .ok (.aload_n 0, 1) := by decide +kernel
theorem dX7_init_1 : decode cX7_init 1 = .ok (.invokespecial 3, 3) := by decide +kernel
theorem dX7_init_4 : decode cX7_init 4 = .ok (.aload_n 0, 1) := by decide +kernel
theorem dX7_init_5 : decode cX7_init 5 = .ok (.new 9, 3) := by decide +kernel
theorem dX7_init_8 : decode cX7_init 8 = .ok (.dup, 1) := by decide +kernel
theorem dX7_init_9 : decode cX7_init 9 = .ok (.invokespecial 11, 3) := by decide +kernel
theorem dX7_init_12 : decode cX7_init 12 = .ok (.putfield 12, 3) := by decide +kernel
theorem dX7_init_15 : decode cX7_init 15 = .ok (.aload_n 0, 1) := by decide +kernel
theorem dX7_init_16 : decode cX7_init 16 = .ok (.bipush 30, 2) := by decide +kernel
theorem dX7_init_18 : decode cX7_init 18 = .ok (.anewarray 9, 3) := by decide +kernel
theorem dX7_init_21 : decode cX7_init 21 = .ok (.putfield 18, 3) := by decide +kernel
theorem dX7_init_24 : decode cX7_init 24 = .ok (.aload_n 0, 1) := by decide +kernel
theorem dX7_init_25 : decode cX7_init 25 = .ok (.iconst (-1), 1) := by decide +kernel
theorem dX7_init_26 : decode cX7_init 26 = .ok (.putfield 22, 3) := by decide +kernel
theorem dX7_init_29 : decode cX7_init 29 = .ok (.aload_n 0, 1) := by decide +kernel
theorem dX7_init_30 : decode cX7_init 30 = .ok (.bipush 8, 2) := by decide +kernel
theorem dX7_init_32 : decode cX7_init 32 = .ok (.newarray .int, 2) := by decide +kernel
theorem dX7_init_34 : decode cX7_init 34 = .ok (.putfield 26, 3) := by decide +kernel
theorem dX7_init_37 : decode cX7_init 37 = .ok (.aload_n 0, 1) := by decide +kernel
theorem dX7_init_38 : decode cX7_init 38 = .ok (.bipush 8, 2) := by decide +kernel
theorem dX7_init_40 : decode cX7_init 40 = .ok (.newarray .int, 2) := by decide +kernel
theorem dX7_init_42 : decode cX7_init 42 = .ok (.putfield 30, 3) := by decide +kernel
theorem dX7_init_45 : decode cX7_init 45 = .ok (.aload_n 0, 1) := by decide +kernel
theorem dX7_init_46 : decode cX7_init 46 = .ok (.bipush 8, 2) := by decide +kernel
theorem dX7_init_48 : decode cX7_init 48 = .ok (.newarray .int, 2) := by decide +kernel
theorem dX7_init_50 : decode cX7_init 50 = .ok (.putfield 33, 3) := by decide +kernel
theorem dX7_init_53 : decode cX7_init 53 = .ok (.aload_n 0, 1) := by decide +kernel
theorem dX7_init_54 : decode cX7_init 54 = .ok (.bipush 8, 2) := by decide +kernel
theorem dX7_init_56 : decode cX7_init 56 = .ok (.newarray .int, 2) := by decide +kernel
theorem dX7_init_58 : decode cX7_init 58 = .ok (.putfield 36, 3) := by decide +kernel
theorem dX7_init_61 : decode cX7_init 61 = .ok (.aload_n 0, 1) := by decide +kernel
theorem dX7_init_62 : decode cX7_init 62 = .ok (.bipush 8, 2) := by decide +kernel
theorem dX7_init_64 : decode cX7_init 64 = .ok (.newarray .int, 2) := by decide +kernel
theorem dX7_init_66 : decode cX7_init 66 = .ok (.putfield 39, 3) := by decide +kernel
theorem dX7_init_69 : decode cX7_init 69 = .ok (.iconst 0, 1) := by decide +kernel
theorem dX7_init_70 : decode cX7_init 70 = .ok (.istore_n 1, 1) := by decide +kernel
theorem dX7_init_71 : decode cX7_init 71 = .ok (.iload_n 1, 1) := by decide +kernel
theorem dX7_init_72 : decode cX7_init 72 = .ok (.bipush 30, 2) := by decide +kernel
theorem dX7_init_74 : decode cX7_init 74 = .ok (.if_icmp .ge 22, 3) := by decide +kernel
theorem dX7_init_77 : decode cX7_init 77 = .ok (.aload_n 0, 1) := by decide +kernel
theorem dX7_init_78 : decode cX7_init 78 = .ok (.getfield 18, 3) := by decide +kernel
theorem dX7_init_81 : decode cX7_init 81 = .ok (.iload_n 1, 1) := by decide +kernel
theorem dX7_init_82 : decode cX7_init 82 = .ok (.new 9, 3) := by decide +kernel
theorem dX7_init_85 : decode cX7_init 85 = .ok (.dup, 1) := by decide +kernel
theorem dX7_init_86 : decode cX7_init 86 = .ok (.invokespecial 11, 3) := by decide +kernel
theorem dX7_init_89 : decode cX7_init 89 = .ok (.aastore, 1) := by decide +kernel
theorem dX7_init_90 : decode cX7_init 90 = .ok (.iinc 1 1, 3) := by decide +kernel
theorem dX7_init_93 : decode cX7_init 93 = .ok (.goto (-22), 3) := by decide +kernel
theorem dX7_init_96 : decode cX7_init 96 = .ok (.return_, 1) := by decide +kernel
theorem la13_out {t k : Nat} (h : kd0 t = 13) (hk : ¬ k < 30) : rf0 t k = none := by
  unfold rf0
  rw [h]
  exact if_neg hk
theorem k_X7_end (E : mE) (ht : kd0 E.1 = 7) : cE E (E.1 + 6) 30 (E.1 + 162) = xE E (E.1 + 162) :=
  cE_end E (fun k q h => by rcases rl7 ht h with ⟨e1, e2⟩ | ⟨e1, e2⟩ | ⟨e1, e2⟩ | ⟨e1, e2⟩ | ⟨e1, e2⟩ | ⟨e1, e2⟩ | ⟨e1, e2⟩ <;> omega) (fun k _ _ h => la13_out (lk7_steps ht) h) (fun k h => absurd ⟨by omega, by omega⟩ h) (by omega)
theorem s0_7 {t : Nat} (h : kd0 t = 7) (k : Nat) : s0 t k = (fun j => if j = 5 then (-1) else (fun _ => 0) j) k := by
  unfold s0
  rw [h]
  by_cases hk : k = 5
  · subst hk
    rfl
  · simp [hk]
set_option maxHeartbeats 4000000 in
set_option maxRecDepth 100000 in
theorem k_X7_loop {x : mX} (E : mE) (S : mS) (ht : kd0 E.1 = 7) : ∀ (n i : Nat), i + n = 30 → mG x μX7_init 2 161 2240 (mQx E S (E.1 + 162)) (11 + 5 * i) (140 + 70 * i) (cE E (E.1 + 6) i (E.1 + 12 + 5 * i)) (wS E S (fun j => if j = 5 then (-1) else (fun _ => 0) j) (E.1 + 12 + 5 * i)) 71 [(1, .int (nI i)), (0, .ref E.1)] [] := by
  have h6 : kd0 (E.1 + 6) = 13 := lk7_steps ht
  have hl6 : ln0 (E.1 + 6) = 30 := ll7_steps ht
  intro n
  induction n with
  | zero =>
    intro i hi
    have hi : i = 30 := by omega
    subst hi
    refine mG.iload_n 0 dX7_init_71 rfl ?_
    refine mG.bipush (v := 30) dX7_init_72 (by decide) ?_
    refine mG.icmp_ge 96 dX7_init_74 (by decide) (fun c => ?_) (fun c => absurd (by decide) c)
    exact mG.vret dX7_init_96 rfl ⟨k_X7_end E ht, wS_end E S _ (by omega) (s0_7 ht), rfl⟩
  | succ n ih =>
    intro i hi
    have hi2 : i < 30 := by omega
    have hk : kd0 (E.1 + 12 + 5 * i) = 6 := by
      have := lay13 h6 hi2
      rwa [show E.1 + 6 + 6 + 5 * i = E.1 + 12 + 5 * i by omega] at this
    have hr : rf0 (E.1 + 6) i = some (E.1 + 12 + 5 * i) := by
      have := la13 h6 i hi2
      rwa [show E.1 + 6 + 6 + 5 * i = E.1 + 12 + 5 * i by omega] at this
    refine mG.iload_n 0 dX7_init_71 rfl ?_
    refine mG.bipush (v := 30) dX7_init_72 (by decide) ?_
    refine mG.icmp_ge 96 dX7_init_74 (by decide) (fun c => absurd c (nI_ge (a := i) (b := 30) hi2 (by decide))) (fun c => ?_)
    refine mG.aload_n 1 dX7_init_77 rfl ?_
    refine mG.get (v := .ref (E.1 + 6)) dX7_init_78 mfX7_18 ((cE_kd E (Nat.le_refl _) (by omega)).trans ht) (by rw [cE_fld E (rr7_steps ht) (by omega)]; rfl) ?_
    refine mG.iload_n 0 dX7_init_81 rfl ?_
    refine mG.new (ci := 6) dX7_init_82 (by decide) wk4_1 wk2_9 wk2_10 (by omega) (by show 140 + 70 * i + 9 ≤ 2240; omega) ?_
    refine mG.dup dX7_init_85 rfl ?_
    refine mG.callIN (as := []) (st := [.ref (E.1 + 12 + 5 * i), .int (nI i), .ref (E.1 + 6)]) dX7_init_86 mbX6_init rfl ⟨rfl, wk4_10⟩ (List.mem_of_getElem? (i := 13) rfl) rfl rfl (by decide) (by omega) (by show 140 + 70 * i + 9 + 61 ≤ 2240; omega) (Nat.le_of_ble_eq_true rfl) (k_X6 (cE E (E.1 + 6) i (E.1 + 12 + 5 * i)) (wS E S (fun j => if j = 5 then (-1) else (fun _ => 0) j) (E.1 + 12 + 5 * i)) hk) (fun E2 S2 r h => by rw [h.1]; show E.1 + 12 + 5 * i + 5 = E.1 + 12 + 5 * i + 1 + 4; omega) (fun E2 S2 r h => ?_)
    obtain ⟨rfl, rfl, rfl⟩ := h
    refine mG.aast13 (n := 30) dX7_init_89 ((xcE_kd E (by omega) (by show E.1 + 6 < E.1 + 12 + 5 * i + 5; omega)).trans h6) ((xcE_ln E (by omega) (by show E.1 + 6 < E.1 + 12 + 5 * i + 5; omega)).trans hl6) (vp_in_nI hi2 (by decide)) ((xcE_kd E (by omega) (by show E.1 + 12 + 5 * i < E.1 + 12 + 5 * i + 5; omega)).trans hk) ?_
    rw [nI_clamp (by omega)]
    refine mG.iinc 0 (u := nI (i + 1)) (lv2 := [(1, .int (nI (i + 1))), (0, .ref E.1)]) dX7_init_90 rfl (nI_1 i) (by decide) rfl ?_
    refine mG.goto 71 dX7_init_93 (by decide) ?_
    refine mG.eqv (E2 := cE E (E.1 + 6) (i + 1) (E.1 + 12 + 5 * (i + 1))) (S2 := wS E S (fun j => if j = 5 then (-1) else (fun _ => 0) j) (E.1 + 12 + 5 * (i + 1))) ?_ ?_ (ih (i + 1) (by omega))
    · exact cE_ent E (by omega) (by omega) (show E.1 + 12 + 5 * i < E.1 + 12 + 5 * i + 5 by omega) hr (fun k q h h2 => by rcases rl7 ht h with ⟨e1, e2⟩ | ⟨e1, e2⟩ | ⟨e1, e2⟩ | ⟨e1, e2⟩ | ⟨e1, e2⟩ | ⟨e1, e2⟩ | ⟨e1, e2⟩ <;> omega)
    · exact wS_obj E S _ (by omega) (show E.1 + 12 + 5 * i < E.1 + 12 + 5 * i + 5 by omega)
set_option maxHeartbeats 4000000 in
set_option maxRecDepth 100000 in
theorem k_X7 (E : mE) (S : mS) (ht : kd0 E.1 = 7) (hE : ∀ k, E.2.2.2 (E.1 + 6) k = none) : mCt μX7_init 2 161 2240 (nE E 7 0) (nS E S) [.ref E.1] (mQx E S (E.1 + 162)) := by
  have hk1 := lk7_town ht
  have hl1 := ll7_town ht
  have hk6 := lk7_steps ht
  have hl6 := ll7_steps ht
  have hk7 := lk7_seenHouse ht
  have hl7 := ll7_seenHouse ht
  have hk8 := lk7_seenDate ht
  have hl8 := ll7_seenDate ht
  have hk9 := lk7_seenShut ht
  have hl9 := ll7_seenShut ht
  have hk10 := lk7_gossipFrom ht
  have hl10 := ll7_gossipFrom ht
  have hk11 := lk7_gossipTo ht
  have hl11 := ll7_gossipTo ht
  refine mCt.of (by decide) (Nat.le_of_ble_eq_true rfl) ?_
  intro x
  refine mG.aload_n 0 dX7_init_0 rfl ?_
  refine mG.objInit dX7_init_1 wk4_0 (by decide) (Nat.le_of_ble_eq_true rfl) ?_
  refine mG.eqv (E2 := cE E (E.1 + 6) 0 (E.1 + 1)) (S2 := wS E S (fun _ => 0) (E.1 + 1)) (cE_0 E (Or.inr hE) ht (ln7_0 ht) (fun k q h => by rcases rl7 ht h with ⟨e1, e2⟩ | ⟨e1, e2⟩ | ⟨e1, e2⟩ | ⟨e1, e2⟩ | ⟨e1, e2⟩ | ⟨e1, e2⟩ | ⟨e1, e2⟩ <;> omega)) (wS_0 E S) ?_
  refine mG.aload_n 0 dX7_init_4 rfl ?_
  refine mG.new (ci := 6) dX7_init_5 (by decide) wk4_1 wk2_9 wk2_10 (by decide) (by decide) ?_
  refine mG.dup dX7_init_8 rfl ?_
  refine mG.callIN (as := []) (st := [.ref (E.1 + 1), .ref E.1]) dX7_init_9 mbX6_init rfl ⟨rfl, wk4_10⟩ (List.mem_of_getElem? (i := 13) rfl) rfl rfl (by decide) (by decide) (by decide) (Nat.le_of_ble_eq_true rfl) (k_X6 (cE E (E.1 + 6) 0 (E.1 + 1)) (wS E S (fun _ => 0) (E.1 + 1)) hk1) (fun E2 S2 r h => by rw [h.1]; simp only [xE, nE, pE] <;> omega) (fun E2 S2 r h => ?_)
  obtain ⟨rfl, rfl, rfl⟩ := h
  refine mG.putR dX7_init_12 mfX7_12 rfl rfl rfl (Or.inl ⟨_, rfl⟩) ((xcE_kd E (Nat.le_refl _) (show E.1 < E.1 + 1 + 5 by omega)).trans ht) ?_
  refine mG.eqv (E2 := cE E (E.1 + 6) 0 (E.1 + 6)) (S2 := wS E S (fun _ => 0) (E.1 + 6)) (cE_obj E (n := E.1 + 1) (n2 := E.1 + 6) (by omega) (by omega) (rr7_town ht) (fun k2 q h1 h2 h3 => by rcases rl7 ht h1 with ⟨e1, e2⟩ | ⟨e1, e2⟩ | ⟨e1, e2⟩ | ⟨e1, e2⟩ | ⟨e1, e2⟩ | ⟨e1, e2⟩ | ⟨e1, e2⟩ <;> omega) (Or.inr (by omega))) (wS_obj E S _ (n := E.1 + 1) (n2 := E.1 + 6) (by omega) (by omega)) ?_
  refine mG.aload_n 0 dX7_init_15 rfl ?_
  refine mG.bipush (v := 30) dX7_init_16 (by decide) ?_
  refine mG.newR13 (N := 30) dX7_init_18 wk4_1 (by decide) (by decide) (by decide) (by decide) (by decide) ?_
  refine mG.putR dX7_init_21 mfX7_18 rfl rfl rfl (Or.inr ⟨_, rfl⟩) ((ncE_kd E (Nat.le_refl _) (by omega)).trans ht) ?_
  refine mG.eqv (E2 := cE E (E.1 + 6) 0 (E.1 + 7)) (S2 := wS E S (fun _ => 0) (E.1 + 7)) (cE_ref E (a := E.1 + 6) (by omega) (rr7_steps ht) (fun k2 h1 => by rcases rl7 ht h1 with ⟨e1, e2⟩ | ⟨e1, e2⟩ | ⟨e1, e2⟩ | ⟨e1, e2⟩ | ⟨e1, e2⟩ | ⟨e1, e2⟩ | ⟨e1, e2⟩ <;> omega) hk6 hl6) (wS_arr E S _ (by omega) (by rw [hk6]; decide)) ?_
  refine mG.aload_n 0 dX7_init_24 rfl ?_
  refine mG.iconst (v := (-1)) dX7_init_25 rfl ?_
  refine mG.putI (S2 := wS E S (fun j => if j = 5 then (-1) else (fun _ => 0) j) (E.1 + 7)) dX7_init_26 mfX7_22 rfl (Or.inl rfl) ((cE_kd E (Nat.le_refl _) (by omega)).trans ht) (wS_put E S _ 5 (-1)) ?_
  refine mG.aload_n 0 dX7_init_29 rfl ?_
  refine mG.bipush (v := 8) dX7_init_30 (by decide) ?_
  refine mG.newI (N := 8) dX7_init_32 (by decide) (by decide) (by decide) (by decide) (by decide) ?_
  refine mG.putR dX7_init_34 mfX7_26 rfl rfl rfl (Or.inr ⟨_, rfl⟩) ((ncE_kd E (Nat.le_refl _) (by omega)).trans ht) ?_
  refine mG.eqv (E2 := cE E (E.1 + 6) 0 (E.1 + 8)) (S2 := wS E S (fun j => if j = 5 then (-1) else (fun _ => 0) j) (E.1 + 8)) (cE_arr E (n := E.1 + 7) (by omega) (rr7_seenHouse ht) (fun k2 h1 => by rcases rl7 ht h1 with ⟨e1, e2⟩ | ⟨e1, e2⟩ | ⟨e1, e2⟩ | ⟨e1, e2⟩ | ⟨e1, e2⟩ | ⟨e1, e2⟩ | ⟨e1, e2⟩ <;> omega) (Or.inl (by omega)) hk7 hl7 (rf0_arr (by simp [hk7]))) (wS_arr E S _ (by omega) (by rw [hk7]; decide)) ?_
  refine mG.aload_n 0 dX7_init_37 rfl ?_
  refine mG.bipush (v := 8) dX7_init_38 (by decide) ?_
  refine mG.newI (N := 8) dX7_init_40 (by decide) (by decide) (by decide) (by decide) (by decide) ?_
  refine mG.putR dX7_init_42 mfX7_30 rfl rfl rfl (Or.inr ⟨_, rfl⟩) ((ncE_kd E (Nat.le_refl _) (by omega)).trans ht) ?_
  refine mG.eqv (E2 := cE E (E.1 + 6) 0 (E.1 + 9)) (S2 := wS E S (fun j => if j = 5 then (-1) else (fun _ => 0) j) (E.1 + 9)) (cE_arr E (n := E.1 + 8) (by omega) (rr7_seenDate ht) (fun k2 h1 => by rcases rl7 ht h1 with ⟨e1, e2⟩ | ⟨e1, e2⟩ | ⟨e1, e2⟩ | ⟨e1, e2⟩ | ⟨e1, e2⟩ | ⟨e1, e2⟩ | ⟨e1, e2⟩ <;> omega) (Or.inl (by omega)) hk8 hl8 (rf0_arr (by simp [hk8]))) (wS_arr E S _ (by omega) (by rw [hk8]; decide)) ?_
  refine mG.aload_n 0 dX7_init_45 rfl ?_
  refine mG.bipush (v := 8) dX7_init_46 (by decide) ?_
  refine mG.newI (N := 8) dX7_init_48 (by decide) (by decide) (by decide) (by decide) (by decide) ?_
  refine mG.putR dX7_init_50 mfX7_33 rfl rfl rfl (Or.inr ⟨_, rfl⟩) ((ncE_kd E (Nat.le_refl _) (by omega)).trans ht) ?_
  refine mG.eqv (E2 := cE E (E.1 + 6) 0 (E.1 + 10)) (S2 := wS E S (fun j => if j = 5 then (-1) else (fun _ => 0) j) (E.1 + 10)) (cE_arr E (n := E.1 + 9) (by omega) (rr7_seenShut ht) (fun k2 h1 => by rcases rl7 ht h1 with ⟨e1, e2⟩ | ⟨e1, e2⟩ | ⟨e1, e2⟩ | ⟨e1, e2⟩ | ⟨e1, e2⟩ | ⟨e1, e2⟩ | ⟨e1, e2⟩ <;> omega) (Or.inl (by omega)) hk9 hl9 (rf0_arr (by simp [hk9]))) (wS_arr E S _ (by omega) (by rw [hk9]; decide)) ?_
  refine mG.aload_n 0 dX7_init_53 rfl ?_
  refine mG.bipush (v := 8) dX7_init_54 (by decide) ?_
  refine mG.newI (N := 8) dX7_init_56 (by decide) (by decide) (by decide) (by decide) (by decide) ?_
  refine mG.putR dX7_init_58 mfX7_36 rfl rfl rfl (Or.inr ⟨_, rfl⟩) ((ncE_kd E (Nat.le_refl _) (by omega)).trans ht) ?_
  refine mG.eqv (E2 := cE E (E.1 + 6) 0 (E.1 + 11)) (S2 := wS E S (fun j => if j = 5 then (-1) else (fun _ => 0) j) (E.1 + 11)) (cE_arr E (n := E.1 + 10) (by omega) (rr7_gossipFrom ht) (fun k2 h1 => by rcases rl7 ht h1 with ⟨e1, e2⟩ | ⟨e1, e2⟩ | ⟨e1, e2⟩ | ⟨e1, e2⟩ | ⟨e1, e2⟩ | ⟨e1, e2⟩ | ⟨e1, e2⟩ <;> omega) (Or.inl (by omega)) hk10 hl10 (rf0_arr (by simp [hk10]))) (wS_arr E S _ (by omega) (by rw [hk10]; decide)) ?_
  refine mG.aload_n 0 dX7_init_61 rfl ?_
  refine mG.bipush (v := 8) dX7_init_62 (by decide) ?_
  refine mG.newI (N := 8) dX7_init_64 (by decide) (by decide) (by decide) (by decide) (by decide) ?_
  refine mG.putR dX7_init_66 mfX7_39 rfl rfl rfl (Or.inr ⟨_, rfl⟩) ((ncE_kd E (Nat.le_refl _) (by omega)).trans ht) ?_
  refine mG.eqv (E2 := cE E (E.1 + 6) 0 (E.1 + 12)) (S2 := wS E S (fun j => if j = 5 then (-1) else (fun _ => 0) j) (E.1 + 12)) (cE_arr E (n := E.1 + 11) (by omega) (rr7_gossipTo ht) (fun k2 h1 => by rcases rl7 ht h1 with ⟨e1, e2⟩ | ⟨e1, e2⟩ | ⟨e1, e2⟩ | ⟨e1, e2⟩ | ⟨e1, e2⟩ | ⟨e1, e2⟩ | ⟨e1, e2⟩ <;> omega) (Or.inl (by omega)) hk11 hl11 (rf0_arr (by simp [hk11]))) (wS_arr E S _ (by omega) (by rw [hk11]; decide)) ?_
  refine mG.iconst (v := (0)) dX7_init_69 rfl ?_
  refine mG.istore_n (lv2 := [(1, .int 0), (0, .ref E.1)]) dX7_init_70 rfl (by decide) rfl ?_
  exact k_X7_loop E S ht 30 0 rfl
theorem ln8_all : ∀ t ∈ kL8, ln0 t = 0 := by decide +kernel
theorem ln8_0 {t : Nat} (h : kd0 t = 8) : ln0 t = 0 := ln8_all t (kL8_in h)
theorem ln9_all : ∀ t ∈ kL9, ln0 t = 0 := by decide +kernel
theorem ln9_0 {t : Nat} (h : kd0 t = 9) : ln0 t = 0 := ln9_all t (kL9_in h)
theorem rr8_tape {t : Nat} (h : kd0 t = 8) : rf0 t 0 = some (t + 1) := by
  unfold rf0
  rw [h]
  rfl
theorem rr8_reader {t : Nat} (h : kd0 t = 8) : rf0 t 3 = some (t + 2) := by
  unfold rf0
  rw [h]
  rfl
theorem rr8_texts {t : Nat} (h : kd0 t = 8) : rf0 t 4 = some (t + 11) := by
  unfold rf0
  rw [h]
  rfl
theorem rr8_lawless {t : Nat} (h : kd0 t = 8) : rf0 t 5 = some (t + 32) := by
  unfold rf0
  rw [h]
  rfl
theorem rr8_laws {t : Nat} (h : kd0 t = 8) : rf0 t 6 = some (t + 37) := by
  unfold rf0
  rw [h]
  rfl
theorem rr8_now {t : Nat} (h : kd0 t = 8) : rf0 t 7 = some (t + 40) := by
  unfold rf0
  rw [h]
  rfl
theorem rr8_image {t : Nat} (h : kd0 t = 8) : rf0 t 8 = some (t + 202) := by
  unfold rf0
  rw [h]
  rfl
theorem rr8_trial {t : Nat} (h : kd0 t = 8) : rf0 t 9 = some (t + 364) := by
  unfold rf0
  rw [h]
  rfl
theorem rr8_guess {t : Nat} (h : kd0 t = 8) : rf0 t 10 = some (t + 369) := by
  unfold rf0
  rw [h]
  rfl
theorem rr8_diary {t : Nat} (h : kd0 t = 8) : rf0 t 11 = some (t + 370) := by
  unfold rf0
  rw [h]
  rfl
theorem rr8_couples {t : Nat} (h : kd0 t = 8) : rf0 t 12 = some (t + 372) := by
  unfold rf0
  rw [h]
  rfl
theorem dX8_init_0 : decode cX8_init 0 = .ok (.aload_n 0, 1) := by decide +kernel
theorem dX8_init_1 : decode cX8_init 1 = .ok (.invokespecial 3, 3) := by decide +kernel
theorem dX8_init_4 : decode cX8_init 4 = .ok (.aload_n 0, 1) := by decide +kernel
theorem dX8_init_5 : decode cX8_init 5 = .ok (.sipush 300, 3) := by decide +kernel
theorem dX8_init_8 : decode cX8_init 8 = .ok (.newarray .int, 2) := by decide +kernel
theorem dX8_init_10 : decode cX8_init 10 = .ok (.putfield 9, 3) := by decide +kernel
theorem dX8_init_13 : decode cX8_init 13 = .ok (.aload_n 0, 1) := by decide +kernel
theorem dX8_init_14 : decode cX8_init 14 = .ok (.new 13, 3) := by decide +kernel
theorem dX8_init_17 : decode cX8_init 17 = .ok (.dup, 1) := by decide +kernel
theorem dX8_init_18 : decode cX8_init 18 = .ok (.invokespecial 15, 3) := by decide +kernel
theorem dX8_init_21 : decode cX8_init 21 = .ok (.putfield 16, 3) := by decide +kernel
theorem dX8_init_24 : decode cX8_init 24 = .ok (.aload_n 0, 1) := by decide +kernel
theorem dX8_init_25 : decode cX8_init 25 = .ok (.iconst 4, 1) := by decide +kernel
theorem dX8_init_26 : decode cX8_init 26 = .ok (.anewarray 20, 3) := by decide +kernel
theorem dX8_init_29 : decode cX8_init 29 = .ok (.putfield 22, 3) := by decide +kernel
theorem dX8_init_32 : decode cX8_init 32 = .ok (.iconst 0, 1) := by decide +kernel
theorem dX8_init_33 : decode cX8_init 33 = .ok (.istore_n 1, 1) := by decide +kernel
theorem dX8_init_34 : decode cX8_init 34 = .ok (.iload_n 1, 1) := by decide +kernel
theorem dX8_init_35 : decode cX8_init 35 = .ok (.iconst 4, 1) := by decide +kernel
theorem dX8_init_36 : decode cX8_init 36 = .ok (.if_icmp .ge 22, 3) := by decide +kernel
theorem dX8_init_39 : decode cX8_init 39 = .ok (.aload_n 0, 1) := by decide +kernel
theorem dX8_init_40 : decode cX8_init 40 = .ok (.getfield 22, 3) := by decide +kernel
theorem dX8_init_43 : decode cX8_init 43 = .ok (.iload_n 1, 1) := by decide +kernel
theorem dX8_init_44 : decode cX8_init 44 = .ok (.new 20, 3) := by decide +kernel
theorem dX8_init_47 : decode cX8_init 47 = .ok (.dup, 1) := by decide +kernel
theorem dX8_init_48 : decode cX8_init 48 = .ok (.invokespecial 26, 3) := by decide +kernel
theorem dX8_init_51 : decode cX8_init 51 = .ok (.aastore, 1) := by decide +kernel
theorem dX8_init_52 : decode cX8_init 52 = .ok (.iinc 1 1, 3) := by decide +kernel
theorem dX8_init_55 : decode cX8_init 55 = .ok (.goto (-21), 3) := by decide +kernel
theorem dX8_init_58 : decode cX8_init 58 = .ok (.aload_n 0, 1) := by decide +kernel
theorem dX8_init_59 : decode cX8_init 59 = .ok (.new 20, 3) := by decide +kernel
theorem dX8_init_62 : decode cX8_init 62 = .ok (.dup, 1) := by decide +kernel
theorem dX8_init_63 : decode cX8_init 63 = .ok (.invokespecial 26, 3) := by decide +kernel
theorem dX8_init_66 : decode cX8_init 66 = .ok (.putfield 27, 3) := by decide +kernel
theorem dX8_init_69 : decode cX8_init 69 = .ok (.aload_n 0, 1) := by decide +kernel
theorem dX8_init_70 : decode cX8_init 70 = .ok (.new 31, 3) := by decide +kernel
theorem dX8_init_73 : decode cX8_init 73 = .ok (.dup, 1) := by decide +kernel
theorem dX8_init_74 : decode cX8_init 74 = .ok (.invokespecial 33, 3) := by decide +kernel
theorem dX8_init_77 : decode cX8_init 77 = .ok (.putfield 34, 3) := by decide +kernel
theorem dX8_init_80 : decode cX8_init 80 = .ok (.aload_n 0, 1) := by decide +kernel
theorem dX8_init_81 : decode cX8_init 81 = .ok (.new 38, 3) := by decide +kernel
theorem dX8_init_84 : decode cX8_init 84 = .ok (.dup, 1) := by decide +kernel
theorem dX8_init_85 : decode cX8_init 85 = .ok (.invokespecial 40, 3) := by decide +kernel
theorem dX8_init_88 : decode cX8_init 88 = .ok (.putfield 41, 3) := by decide +kernel
theorem dX8_init_91 : decode cX8_init 91 = .ok (.aload_n 0, 1) := by decide +kernel
theorem dX8_init_92 : decode cX8_init 92 = .ok (.new 38, 3) := by decide +kernel
theorem dX8_init_95 : decode cX8_init 95 = .ok (.dup, 1) := by decide +kernel
theorem dX8_init_96 : decode cX8_init 96 = .ok (.invokespecial 40, 3) := by decide +kernel
theorem dX8_init_99 : decode cX8_init 99 = .ok (.putfield 45, 3) := by decide +kernel
theorem dX8_init_102 : decode cX8_init 102 = .ok (.aload_n 0, 1) := by decide +kernel
theorem dX8_init_103 : decode cX8_init 103 = .ok (.new 48, 3) := by decide +kernel
theorem dX8_init_106 : decode cX8_init 106 = .ok (.dup, 1) := by decide +kernel
theorem dX8_init_107 : decode cX8_init 107 = .ok (.invokespecial 50, 3) := by decide +kernel
theorem dX8_init_110 : decode cX8_init 110 = .ok (.putfield 51, 3) := by decide +kernel
theorem dX8_init_113 : decode cX8_init 113 = .ok (.aload_n 0, 1) := by decide +kernel
theorem dX8_init_114 : decode cX8_init 114 = .ok (.new 55, 3) := by decide +kernel
theorem dX8_init_117 : decode cX8_init 117 = .ok (.dup, 1) := by decide +kernel
theorem dX8_init_118 : decode cX8_init 118 = .ok (.invokespecial 57, 3) := by decide +kernel
theorem dX8_init_121 : decode cX8_init 121 = .ok (.putfield 58, 3) := by decide +kernel
theorem dX8_init_124 : decode cX8_init 124 = .ok (.aload_n 0, 1) := by decide +kernel
theorem dX8_init_125 : decode cX8_init 125 = .ok (.new 62, 3) := by decide +kernel
theorem dX8_init_128 : decode cX8_init 128 = .ok (.dup, 1) := by decide +kernel
theorem dX8_init_129 : decode cX8_init 129 = .ok (.invokespecial 64, 3) := by decide +kernel
theorem dX8_init_132 : decode cX8_init 132 = .ok (.putfield 65, 3) := by decide +kernel
theorem dX8_init_135 : decode cX8_init 135 = .ok (.aload_n 0, 1) := by decide +kernel
theorem dX8_init_136 : decode cX8_init 136 = .ok (.new 69, 3) := by decide +kernel
theorem dX8_init_139 : decode cX8_init 139 = .ok (.dup, 1) := by decide +kernel
theorem dX8_init_140 : decode cX8_init 140 = .ok (.invokespecial 71, 3) := by decide +kernel
theorem dX8_init_143 : decode cX8_init 143 = .ok (.putfield 72, 3) := by decide +kernel
theorem dX8_init_146 : decode cX8_init 146 = .ok (.return_, 1) := by decide +kernel
theorem la14_out {t k : Nat} (h : kd0 t = 14) (hk : ¬ k < 4) : rf0 t k = none := by
  unfold rf0
  rw [h]
  exact if_neg hk
theorem s0_8 {t : Nat} (h : kd0 t = 8) (k : Nat) : s0 t k = (fun _ => 0) k := by
  unfold s0
  rw [h]
  simp
theorem k_X8_far (E : mE) {a i n m k : Nat} (hE : ∀ u k, E.1 ≤ u → E.2.2.2 u k = none) (h1 : E.1 < n) (h2 : n ≤ m) (h3 : a < n) : (cE E a i n).2.2.2 m k = none := by
  show (if m = E.1 then rfL (rf0 m k) n else if m = a ∧ ¬ k < i then none else if E.1 ≤ m ∧ m < n then rf0 m k else E.2.2.2 m k) = none
  rw [if_neg (by omega), if_neg (by omega), if_neg (by omega)]
  exact hE m k (by omega)
set_option maxHeartbeats 4000000 in
set_option maxRecDepth 100000 in
theorem k_X8_tail {x : mX} (E : mE) (S : mS) (ht : kd0 E.1 = 8) (hE : ∀ u k, E.1 ≤ u → E.2.2.2 u k = none) : mG x μX8_init 3 374 8582 (mQx E S (E.1 + 375)) 31 3256 (cE E (E.1 + 11) 4 (E.1 + 32)) (wS E S (fun _ => 0) (E.1 + 32)) 58 [(1, .int (nI 4)), (0, .ref E.1)] [] := by
  have hk1 := lk8_tape ht
  have hl1 := ll8_tape ht
  have hk2 := lk8_reader ht
  have hl2 := ll8_reader ht
  have hk11 := lk8_texts ht
  have hl11 := ll8_texts ht
  have hk32 := lk8_lawless ht
  have hl32 := ll8_lawless ht
  have hk37 := lk8_laws ht
  have hl37 := ll8_laws ht
  have hk40 := lk8_now ht
  have hl40 := ll8_now ht
  have hk202 := lk8_image ht
  have hl202 := ll8_image ht
  have hk364 := lk8_trial ht
  have hl364 := ll8_trial ht
  have hk369 := lk8_guess ht
  have hl369 := ll8_guess ht
  have hk370 := lk8_diary ht
  have hl370 := ll8_diary ht
  have hk372 := lk8_couples ht
  have hl372 := ll8_couples ht
  refine mG.aload_n 1 dX8_init_58 rfl ?_
  refine mG.new (ci := 5) dX8_init_59 (by decide) wk1_18 wk1_20 wk1_21 (by decide) (by decide) ?_
  refine mG.dup dX8_init_62 rfl ?_
  refine mG.callIN (as := []) (st := [.ref (E.1 + 32), .ref E.1]) dX8_init_63 mbX5_init rfl ⟨rfl, wk3_9⟩ (List.mem_of_getElem? (i := 1) rfl) rfl rfl (by decide) (by decide) (by decide) (Nat.le_of_ble_eq_true rfl) (k_X5 (cE E (E.1 + 11) 4 (E.1 + 32)) (wS E S (fun _ => 0) (E.1 + 32)) hk32) (fun E2 S2 r h => by rw [h.1]; simp only [xE, nE, pE] <;> omega) (fun E2 S2 r h => ?_)
  obtain ⟨rfl, rfl, rfl⟩ := h
  refine mG.putR dX8_init_66 mfX8_27 rfl rfl rfl (Or.inl ⟨_, rfl⟩) ((xcE_kd E (Nat.le_refl _) (show E.1 < E.1 + 32 + 5 by omega)).trans ht) ?_
  refine mG.eqv (E2 := cE E (E.1 + 11) 4 (E.1 + 37)) (S2 := wS E S (fun _ => 0) (E.1 + 37)) (cE_obj E (n := E.1 + 32) (n2 := E.1 + 37) (by omega) (by omega) (rr8_lawless ht) (fun k2 q h1 h2 h3 => by rcases rl8 ht h1 with ⟨e1, e2⟩ | ⟨e1, e2⟩ | ⟨e1, e2⟩ | ⟨e1, e2⟩ | ⟨e1, e2⟩ | ⟨e1, e2⟩ | ⟨e1, e2⟩ | ⟨e1, e2⟩ | ⟨e1, e2⟩ | ⟨e1, e2⟩ | ⟨e1, e2⟩ <;> omega) (Or.inl (by omega))) (wS_obj E S _ (n := E.1 + 32) (n2 := E.1 + 37) (by omega) (by omega)) ?_
  refine mG.aload_n 1 dX8_init_69 rfl ?_
  refine mG.new (ci := 3) dX8_init_70 (by decide) wk1_23 wk2_0 wk2_1 (by decide) (by decide) ?_
  refine mG.dup dX8_init_73 rfl ?_
  refine mG.callIN (as := []) (st := [.ref (E.1 + 37), .ref E.1]) dX8_init_74 mbX3_init rfl ⟨rfl, wk3_16⟩ (List.mem_of_getElem? (i := 2) rfl) rfl rfl (by decide) (by decide) (by decide) (Nat.le_of_ble_eq_true rfl) (k_X3 (cE E (E.1 + 11) 4 (E.1 + 37)) (wS E S (fun _ => 0) (E.1 + 37)) hk37) (fun E2 S2 r h => by rw [h.1]; simp only [xE, nE, pE] <;> omega) (fun E2 S2 r h => ?_)
  obtain ⟨rfl, rfl, rfl⟩ := h
  refine mG.putR dX8_init_77 mfX8_34 rfl rfl rfl (Or.inl ⟨_, rfl⟩) ((xcE_kd E (Nat.le_refl _) (show E.1 < E.1 + 37 + 3 by omega)).trans ht) ?_
  refine mG.eqv (E2 := cE E (E.1 + 11) 4 (E.1 + 40)) (S2 := wS E S (fun _ => 0) (E.1 + 40)) (cE_obj E (n := E.1 + 37) (n2 := E.1 + 40) (by omega) (by omega) (rr8_laws ht) (fun k2 q h1 h2 h3 => by rcases rl8 ht h1 with ⟨e1, e2⟩ | ⟨e1, e2⟩ | ⟨e1, e2⟩ | ⟨e1, e2⟩ | ⟨e1, e2⟩ | ⟨e1, e2⟩ | ⟨e1, e2⟩ | ⟨e1, e2⟩ | ⟨e1, e2⟩ | ⟨e1, e2⟩ | ⟨e1, e2⟩ <;> omega) (Or.inl (by omega))) (wS_obj E S _ (n := E.1 + 37) (n2 := E.1 + 40) (by omega) (by omega)) ?_
  refine mG.aload_n 1 dX8_init_80 rfl ?_
  refine mG.new (ci := 7) dX8_init_81 (by decide) wk2_3 wk2_4 wk2_5 (by decide) (by decide) ?_
  refine mG.dup dX8_init_84 rfl ?_
  refine mG.callI (as := []) (st := [.ref (E.1 + 40), .ref E.1]) dX8_init_85 mbX7_init rfl ⟨rfl, wk3_22⟩ wk3_21 rfl rfl (by decide) (by decide) (by decide) (Nat.le_of_ble_eq_true rfl) (k_X7 (cE E (E.1 + 11) 4 (E.1 + 40)) (wS E S (fun _ => 0) (E.1 + 40)) hk40 (fun k => k_X8_far E hE (by omega) (show E.1 + 40 ≤ E.1 + 40 + 6 by omega) (by omega))) (fun E2 S2 r h => by rw [h.1]; simp only [xE, nE, pE] <;> omega) (fun E2 S2 r h => ?_)
  obtain ⟨rfl, rfl, rfl⟩ := h
  refine mG.putR dX8_init_88 mfX8_41 rfl rfl rfl (Or.inl ⟨_, rfl⟩) ((xcE_kd E (Nat.le_refl _) (show E.1 < E.1 + 40 + 162 by omega)).trans ht) ?_
  refine mG.eqv (E2 := cE E (E.1 + 11) 4 (E.1 + 202)) (S2 := wS E S (fun _ => 0) (E.1 + 202)) (cE_obj E (n := E.1 + 40) (n2 := E.1 + 202) (by omega) (by omega) (rr8_now ht) (fun k2 q h1 h2 h3 => by rcases rl8 ht h1 with ⟨e1, e2⟩ | ⟨e1, e2⟩ | ⟨e1, e2⟩ | ⟨e1, e2⟩ | ⟨e1, e2⟩ | ⟨e1, e2⟩ | ⟨e1, e2⟩ | ⟨e1, e2⟩ | ⟨e1, e2⟩ | ⟨e1, e2⟩ | ⟨e1, e2⟩ <;> omega) (Or.inl (by omega))) (wS_obj E S _ (n := E.1 + 40) (n2 := E.1 + 202) (by omega) (by omega)) ?_
  refine mG.aload_n 1 dX8_init_91 rfl ?_
  refine mG.new (ci := 7) dX8_init_92 (by decide) wk2_3 wk2_4 wk2_5 (by decide) (by decide) ?_
  refine mG.dup dX8_init_95 rfl ?_
  refine mG.callI (as := []) (st := [.ref (E.1 + 202), .ref E.1]) dX8_init_96 mbX7_init rfl ⟨rfl, wk3_22⟩ wk3_21 rfl rfl (by decide) (by decide) (by decide) (Nat.le_of_ble_eq_true rfl) (k_X7 (cE E (E.1 + 11) 4 (E.1 + 202)) (wS E S (fun _ => 0) (E.1 + 202)) hk202 (fun k => k_X8_far E hE (by omega) (show E.1 + 202 ≤ E.1 + 202 + 6 by omega) (by omega))) (fun E2 S2 r h => by rw [h.1]; simp only [xE, nE, pE] <;> omega) (fun E2 S2 r h => ?_)
  obtain ⟨rfl, rfl, rfl⟩ := h
  refine mG.putR dX8_init_99 mfX8_45 rfl rfl rfl (Or.inl ⟨_, rfl⟩) ((xcE_kd E (Nat.le_refl _) (show E.1 < E.1 + 202 + 162 by omega)).trans ht) ?_
  refine mG.eqv (E2 := cE E (E.1 + 11) 4 (E.1 + 364)) (S2 := wS E S (fun _ => 0) (E.1 + 364)) (cE_obj E (n := E.1 + 202) (n2 := E.1 + 364) (by omega) (by omega) (rr8_image ht) (fun k2 q h1 h2 h3 => by rcases rl8 ht h1 with ⟨e1, e2⟩ | ⟨e1, e2⟩ | ⟨e1, e2⟩ | ⟨e1, e2⟩ | ⟨e1, e2⟩ | ⟨e1, e2⟩ | ⟨e1, e2⟩ | ⟨e1, e2⟩ | ⟨e1, e2⟩ | ⟨e1, e2⟩ | ⟨e1, e2⟩ <;> omega) (Or.inl (by omega))) (wS_obj E S _ (n := E.1 + 202) (n2 := E.1 + 364) (by omega) (by omega)) ?_
  refine mG.aload_n 1 dX8_init_102 rfl ?_
  refine mG.new (ci := 6) dX8_init_103 (by decide) wk2_8 wk2_9 wk2_10 (by decide) (by decide) ?_
  refine mG.dup dX8_init_106 rfl ?_
  refine mG.callIN (as := []) (st := [.ref (E.1 + 364), .ref E.1]) dX8_init_107 mbX6_init rfl ⟨rfl, wk4_10⟩ (List.mem_of_getElem? (i := 3) rfl) rfl rfl (by decide) (by decide) (by decide) (Nat.le_of_ble_eq_true rfl) (k_X6 (cE E (E.1 + 11) 4 (E.1 + 364)) (wS E S (fun _ => 0) (E.1 + 364)) hk364) (fun E2 S2 r h => by rw [h.1]; simp only [xE, nE, pE] <;> omega) (fun E2 S2 r h => ?_)
  obtain ⟨rfl, rfl, rfl⟩ := h
  refine mG.putR dX8_init_110 mfX8_51 rfl rfl rfl (Or.inl ⟨_, rfl⟩) ((xcE_kd E (Nat.le_refl _) (show E.1 < E.1 + 364 + 5 by omega)).trans ht) ?_
  refine mG.eqv (E2 := cE E (E.1 + 11) 4 (E.1 + 369)) (S2 := wS E S (fun _ => 0) (E.1 + 369)) (cE_obj E (n := E.1 + 364) (n2 := E.1 + 369) (by omega) (by omega) (rr8_trial ht) (fun k2 q h1 h2 h3 => by rcases rl8 ht h1 with ⟨e1, e2⟩ | ⟨e1, e2⟩ | ⟨e1, e2⟩ | ⟨e1, e2⟩ | ⟨e1, e2⟩ | ⟨e1, e2⟩ | ⟨e1, e2⟩ | ⟨e1, e2⟩ | ⟨e1, e2⟩ | ⟨e1, e2⟩ | ⟨e1, e2⟩ <;> omega) (Or.inl (by omega))) (wS_obj E S _ (n := E.1 + 364) (n2 := E.1 + 369) (by omega) (by omega)) ?_
  refine mG.aload_n 1 dX8_init_113 rfl ?_
  refine mG.new (ci := 2) dX8_init_114 (by decide) wk2_12 wk2_13 wk2_14 (by decide) (by decide) ?_
  refine mG.dup dX8_init_117 rfl ?_
  refine mG.callIN (as := []) (st := [.ref (E.1 + 369), .ref E.1]) dX8_init_118 mbX2_init rfl ⟨rfl, wk4_18⟩ (List.mem_of_getElem? (i := 4) rfl) rfl rfl (by decide) (by decide) (by decide) (Nat.le_of_ble_eq_true rfl) (k_X2 (cE E (E.1 + 11) 4 (E.1 + 369)) (wS E S (fun _ => 0) (E.1 + 369)) hk369) (fun E2 S2 r h => by rw [h.1]; simp only [xE, nE, pE] <;> omega) (fun E2 S2 r h => ?_)
  obtain ⟨rfl, rfl, rfl⟩ := h
  refine mG.putR dX8_init_121 mfX8_58 rfl rfl rfl (Or.inl ⟨_, rfl⟩) ((xcE_kd E (Nat.le_refl _) (show E.1 < E.1 + 369 + 1 by omega)).trans ht) ?_
  refine mG.eqv (E2 := cE E (E.1 + 11) 4 (E.1 + 370)) (S2 := wS E S (fun _ => 0) (E.1 + 370)) (cE_obj E (n := E.1 + 369) (n2 := E.1 + 370) (by omega) (by omega) (rr8_guess ht) (fun k2 q h1 h2 h3 => by rcases rl8 ht h1 with ⟨e1, e2⟩ | ⟨e1, e2⟩ | ⟨e1, e2⟩ | ⟨e1, e2⟩ | ⟨e1, e2⟩ | ⟨e1, e2⟩ | ⟨e1, e2⟩ | ⟨e1, e2⟩ | ⟨e1, e2⟩ | ⟨e1, e2⟩ | ⟨e1, e2⟩ <;> omega) (Or.inl (by omega))) (wS_obj E S _ (n := E.1 + 369) (n2 := E.1 + 370) (by omega) (by omega)) ?_
  refine mG.aload_n 1 dX8_init_124 rfl ?_
  refine mG.new (ci := 1) dX8_init_125 (by decide) wk2_16 wk2_17 wk2_18 (by decide) (by decide) ?_
  refine mG.dup dX8_init_128 rfl ?_
  refine mG.callIN (as := []) (st := [.ref (E.1 + 370), .ref E.1]) dX8_init_129 mbX1_init rfl ⟨rfl, wk4_21⟩ (List.mem_of_getElem? (i := 5) rfl) rfl rfl (by decide) (by decide) (by decide) (Nat.le_of_ble_eq_true rfl) (k_X1 (cE E (E.1 + 11) 4 (E.1 + 370)) (wS E S (fun _ => 0) (E.1 + 370)) hk370) (fun E2 S2 r h => by rw [h.1]; simp only [xE, nE, pE] <;> omega) (fun E2 S2 r h => ?_)
  obtain ⟨rfl, rfl, rfl⟩ := h
  refine mG.putR dX8_init_132 mfX8_65 rfl rfl rfl (Or.inl ⟨_, rfl⟩) ((xcE_kd E (Nat.le_refl _) (show E.1 < E.1 + 370 + 2 by omega)).trans ht) ?_
  refine mG.eqv (E2 := cE E (E.1 + 11) 4 (E.1 + 372)) (S2 := wS E S (fun _ => 0) (E.1 + 372)) (cE_obj E (n := E.1 + 370) (n2 := E.1 + 372) (by omega) (by omega) (rr8_diary ht) (fun k2 q h1 h2 h3 => by rcases rl8 ht h1 with ⟨e1, e2⟩ | ⟨e1, e2⟩ | ⟨e1, e2⟩ | ⟨e1, e2⟩ | ⟨e1, e2⟩ | ⟨e1, e2⟩ | ⟨e1, e2⟩ | ⟨e1, e2⟩ | ⟨e1, e2⟩ | ⟨e1, e2⟩ | ⟨e1, e2⟩ <;> omega) (Or.inl (by omega))) (wS_obj E S _ (n := E.1 + 370) (n2 := E.1 + 372) (by omega) (by omega)) ?_
  refine mG.aload_n 1 dX8_init_135 rfl ?_
  refine mG.new (ci := 0) dX8_init_136 (by decide) wk2_20 wk2_21 wk2_22 (by decide) (by decide) ?_
  refine mG.dup dX8_init_139 rfl ?_
  refine mG.callIN (as := []) (st := [.ref (E.1 + 372), .ref E.1]) dX8_init_140 mbX0_init rfl ⟨rfl, wk5_1⟩ (List.mem_of_getElem? (i := 6) rfl) rfl rfl (by decide) (by decide) (by decide) (Nat.le_of_ble_eq_true rfl) (k_X0 (cE E (E.1 + 11) 4 (E.1 + 372)) (wS E S (fun _ => 0) (E.1 + 372)) hk372) (fun E2 S2 r h => by rw [h.1]; simp only [xE, nE, pE] <;> omega) (fun E2 S2 r h => ?_)
  obtain ⟨rfl, rfl, rfl⟩ := h
  refine mG.putR dX8_init_143 mfX8_72 rfl rfl rfl (Or.inl ⟨_, rfl⟩) ((xcE_kd E (Nat.le_refl _) (show E.1 < E.1 + 372 + 3 by omega)).trans ht) ?_
  refine mG.eqv (E2 := cE E (E.1 + 11) 4 (E.1 + 375)) (S2 := wS E S (fun _ => 0) (E.1 + 375)) (cE_obj E (n := E.1 + 372) (n2 := E.1 + 375) (by omega) (by omega) (rr8_couples ht) (fun k2 q h1 h2 h3 => by rcases rl8 ht h1 with ⟨e1, e2⟩ | ⟨e1, e2⟩ | ⟨e1, e2⟩ | ⟨e1, e2⟩ | ⟨e1, e2⟩ | ⟨e1, e2⟩ | ⟨e1, e2⟩ | ⟨e1, e2⟩ | ⟨e1, e2⟩ | ⟨e1, e2⟩ | ⟨e1, e2⟩ <;> omega) (Or.inl (by omega))) (wS_obj E S _ (n := E.1 + 372) (n2 := E.1 + 375) (by omega) (by omega)) ?_
  exact mG.vret dX8_init_146 rfl ⟨cE_end E (fun k q h => by rcases rl8 ht h with ⟨e1, e2⟩ | ⟨e1, e2⟩ | ⟨e1, e2⟩ | ⟨e1, e2⟩ | ⟨e1, e2⟩ | ⟨e1, e2⟩ | ⟨e1, e2⟩ | ⟨e1, e2⟩ | ⟨e1, e2⟩ | ⟨e1, e2⟩ | ⟨e1, e2⟩ <;> omega) (fun k _ _ h => la14_out (lk8_texts ht) h) (fun k h => absurd ⟨by omega, by omega⟩ h) (by omega), wS_end E S _ (by omega) (s0_8 ht), rfl⟩
set_option maxHeartbeats 4000000 in
set_option maxRecDepth 100000 in
theorem k_X8_loop {x : mX} (E : mE) (S : mS) (ht : kd0 E.1 = 8) (hE : ∀ u k, E.1 ≤ u → E.2.2.2 u k = none) : ∀ (n i : Nat), i + n = 4 → mG x μX8_init 3 374 8582 (mQx E S (E.1 + 375)) (11 + 5 * i) (1624 + 408 * i) (cE E (E.1 + 11) i (E.1 + 12 + 5 * i)) (wS E S (fun _ => 0) (E.1 + 12 + 5 * i)) 34 [(1, .int (nI i)), (0, .ref E.1)] [] := by
  have h6 : kd0 (E.1 + 11) = 14 := lk8_texts ht
  have hl6 : ln0 (E.1 + 11) = 4 := ll8_texts ht
  intro n
  induction n with
  | zero =>
    intro i hi
    have hi : i = 4 := by omega
    subst hi
    refine mG.iload_n 0 dX8_init_34 rfl ?_
    refine mG.iconst (v := 4) dX8_init_35 rfl ?_
    refine mG.icmp_ge 58 dX8_init_36 (by decide) (fun c => ?_) (fun c => absurd (by decide) c)
    exact k_X8_tail E S ht hE
  | succ n ih =>
    intro i hi
    have hi2 : i < 4 := by omega
    have hk : kd0 (E.1 + 12 + 5 * i) = 5 := by
      have := lay14 h6 hi2
      rwa [show E.1 + 11 + 1 + 5 * i = E.1 + 12 + 5 * i by omega] at this
    have hr : rf0 (E.1 + 11) i = some (E.1 + 12 + 5 * i) := by
      have := la14 h6 i hi2
      rwa [show E.1 + 11 + 1 + 5 * i = E.1 + 12 + 5 * i by omega] at this
    refine mG.iload_n 0 dX8_init_34 rfl ?_
    refine mG.iconst (v := 4) dX8_init_35 rfl ?_
    refine mG.icmp_ge 58 dX8_init_36 (by decide) (fun c => absurd c (nI_ge (a := i) (b := 4) hi2 (by decide))) (fun c => ?_)
    refine mG.aload_n 1 dX8_init_39 rfl ?_
    refine mG.get (v := .ref (E.1 + 11)) dX8_init_40 mfX8_22 ((cE_kd E (Nat.le_refl _) (by omega)).trans ht) (by rw [cE_fld E (rr8_texts ht) (by omega)]; rfl) ?_
    refine mG.iload_n 0 dX8_init_43 rfl ?_
    refine mG.new (ci := 5) dX8_init_44 (by decide) wk1_18 wk1_20 wk1_21 (by omega) (by show 1624 + 408 * i + 6 ≤ 8582; omega) ?_
    refine mG.dup dX8_init_47 rfl ?_
    refine mG.callIN (as := []) (st := [.ref (E.1 + 12 + 5 * i), .int (nI i), .ref (E.1 + 11)]) dX8_init_48 mbX5_init rfl ⟨rfl, wk3_9⟩ (List.mem_of_getElem? (i := 1) rfl) rfl rfl (by decide) (by omega) (by show 1624 + 408 * i + 6 + 402 ≤ 8582; omega) (Nat.le_of_ble_eq_true rfl) (k_X5 (cE E (E.1 + 11) i (E.1 + 12 + 5 * i)) (wS E S (fun _ => 0) (E.1 + 12 + 5 * i)) hk) (fun E2 S2 r h => by rw [h.1]; show E.1 + 12 + 5 * i + 5 = E.1 + 12 + 5 * i + 1 + 4; omega) (fun E2 S2 r h => ?_)
    obtain ⟨rfl, rfl, rfl⟩ := h
    refine mG.aast14 (n := 4) dX8_init_51 ((xcE_kd E (by omega) (by show E.1 + 11 < E.1 + 12 + 5 * i + 5; omega)).trans h6) ((xcE_ln E (by omega) (by show E.1 + 11 < E.1 + 12 + 5 * i + 5; omega)).trans hl6) (vp_in_nI hi2 (by decide)) ((xcE_kd E (by omega) (by show E.1 + 12 + 5 * i < E.1 + 12 + 5 * i + 5; omega)).trans hk) ?_
    rw [nI_clamp (by omega)]
    refine mG.iinc 0 (u := nI (i + 1)) (lv2 := [(1, .int (nI (i + 1))), (0, .ref E.1)]) dX8_init_52 rfl (nI_1 i) (by decide) rfl ?_
    refine mG.goto 34 dX8_init_55 (by decide) ?_
    refine mG.eqv (E2 := cE E (E.1 + 11) (i + 1) (E.1 + 12 + 5 * (i + 1))) (S2 := wS E S (fun _ => 0) (E.1 + 12 + 5 * (i + 1))) ?_ ?_ (ih (i + 1) (by omega))
    · exact cE_ent E (n := E.1 + 12 + 5 * i) (n2 := E.1 + 12 + 5 * i + 5) (by omega) (by omega) (show E.1 + 12 + 5 * i < E.1 + 12 + 5 * i + 5 by omega) hr (fun k q h h2 => by rcases rl8 ht h with ⟨e1, e2⟩ | ⟨e1, e2⟩ | ⟨e1, e2⟩ | ⟨e1, e2⟩ | ⟨e1, e2⟩ | ⟨e1, e2⟩ | ⟨e1, e2⟩ | ⟨e1, e2⟩ | ⟨e1, e2⟩ | ⟨e1, e2⟩ | ⟨e1, e2⟩ <;> omega)
    · exact wS_obj E S _ (by omega) (show E.1 + 12 + 5 * i < E.1 + 12 + 5 * i + 5 by omega)
set_option maxHeartbeats 4000000 in
set_option maxRecDepth 100000 in
theorem k_X8 (E : mE) (S : mS) (ht : kd0 E.1 = 8) (hE : ∀ u k, E.1 ≤ u → E.2.2.2 u k = none) : mCt μX8_init 3 374 8582 (nE E 8 0) (nS E S) [.ref E.1] (mQx E S (E.1 + 375)) := by
  have hk1 := lk8_tape ht
  have hl1 := ll8_tape ht
  have hk2 := lk8_reader ht
  have hl2 := ll8_reader ht
  have hk11 := lk8_texts ht
  have hl11 := ll8_texts ht
  have hk32 := lk8_lawless ht
  have hl32 := ll8_lawless ht
  have hk37 := lk8_laws ht
  have hl37 := ll8_laws ht
  have hk40 := lk8_now ht
  have hl40 := ll8_now ht
  have hk202 := lk8_image ht
  have hl202 := ll8_image ht
  have hk364 := lk8_trial ht
  have hl364 := ll8_trial ht
  have hk369 := lk8_guess ht
  have hl369 := ll8_guess ht
  have hk370 := lk8_diary ht
  have hl370 := ll8_diary ht
  have hk372 := lk8_couples ht
  have hl372 := ll8_couples ht
  refine mCt.of (by decide) (Nat.le_of_ble_eq_true rfl) ?_
  intro x
  refine mG.aload_n 0 dX8_init_0 rfl ?_
  refine mG.objInit dX8_init_1 wk1_9 (by decide) (Nat.le_of_ble_eq_true rfl) ?_
  refine mG.eqv (E2 := cE E (E.1 + 11) 0 (E.1 + 1)) (S2 := wS E S (fun _ => 0) (E.1 + 1)) (cE_0 E (Or.inr (fun k => hE _ k (by omega))) ht (ln8_0 ht) (fun k q h => by rcases rl8 ht h with ⟨e1, e2⟩ | ⟨e1, e2⟩ | ⟨e1, e2⟩ | ⟨e1, e2⟩ | ⟨e1, e2⟩ | ⟨e1, e2⟩ | ⟨e1, e2⟩ | ⟨e1, e2⟩ | ⟨e1, e2⟩ | ⟨e1, e2⟩ | ⟨e1, e2⟩ <;> omega)) (wS_0 E S) ?_
  refine mG.aload_n 0 dX8_init_4 rfl ?_
  refine mG.sipush (v := 300) dX8_init_5 (by decide) ?_
  refine mG.newI (N := 300) dX8_init_8 (by decide) (by decide) (by decide) (by decide) (by decide) ?_
  refine mG.putR dX8_init_10 mfX8_9 rfl rfl rfl (Or.inr ⟨_, rfl⟩) ((ncE_kd E (Nat.le_refl _) (by omega)).trans ht) ?_
  refine mG.eqv (E2 := cE E (E.1 + 11) 0 (E.1 + 2)) (S2 := wS E S (fun _ => 0) (E.1 + 2)) (cE_arr E (n := E.1 + 1) (by omega) (rr8_tape ht) (fun k2 h1 => by rcases rl8 ht h1 with ⟨e1, e2⟩ | ⟨e1, e2⟩ | ⟨e1, e2⟩ | ⟨e1, e2⟩ | ⟨e1, e2⟩ | ⟨e1, e2⟩ | ⟨e1, e2⟩ | ⟨e1, e2⟩ | ⟨e1, e2⟩ | ⟨e1, e2⟩ | ⟨e1, e2⟩ <;> omega) (Or.inr (by omega)) hk1 hl1 (rf0_arr (by simp [hk1]))) (wS_arr E S _ (by omega) (by rw [hk1]; decide)) ?_
  refine mG.aload_n 0 dX8_init_13 rfl ?_
  refine mG.new (ci := 4) dX8_init_14 (by decide) wk1_14 wk1_15 wk1_16 (by decide) (by decide) ?_
  refine mG.dup dX8_init_17 rfl ?_
  refine mG.callIN (as := []) (st := [.ref (E.1 + 2), .ref E.1]) dX8_init_18 mbX4_init rfl ⟨rfl, wk3_0⟩ (List.mem_of_getElem? (i := 0) rfl) rfl rfl (by decide) (by decide) (by decide) (Nat.le_of_ble_eq_true rfl) (k_X4 (cE E (E.1 + 11) 0 (E.1 + 2)) (wS E S (fun _ => 0) (E.1 + 2)) hk2) (fun E2 S2 r h => by rw [h.1]; simp only [xE, nE, pE] <;> omega) (fun E2 S2 r h => ?_)
  obtain ⟨rfl, rfl, rfl⟩ := h
  refine mG.putR dX8_init_21 mfX8_16 rfl rfl rfl (Or.inl ⟨_, rfl⟩) ((xcE_kd E (Nat.le_refl _) (show E.1 < E.1 + 2 + 9 by omega)).trans ht) ?_
  refine mG.eqv (E2 := cE E (E.1 + 11) 0 (E.1 + 11)) (S2 := wS E S (fun _ => 0) (E.1 + 11)) (cE_obj E (n := E.1 + 2) (n2 := E.1 + 11) (by omega) (by omega) (rr8_reader ht) (fun k2 q h1 h2 h3 => by rcases rl8 ht h1 with ⟨e1, e2⟩ | ⟨e1, e2⟩ | ⟨e1, e2⟩ | ⟨e1, e2⟩ | ⟨e1, e2⟩ | ⟨e1, e2⟩ | ⟨e1, e2⟩ | ⟨e1, e2⟩ | ⟨e1, e2⟩ | ⟨e1, e2⟩ | ⟨e1, e2⟩ <;> omega) (Or.inr (by omega))) (wS_obj E S _ (n := E.1 + 2) (n2 := E.1 + 11) (by omega) (by omega)) ?_
  refine mG.aload_n 0 dX8_init_24 rfl ?_
  refine mG.iconst (v := (4)) dX8_init_25 rfl ?_
  refine mG.newR14 (N := 4) dX8_init_26 wk1_18 (by decide) (by decide) (by decide) (by decide) (by decide) ?_
  refine mG.putR dX8_init_29 mfX8_22 rfl rfl rfl (Or.inr ⟨_, rfl⟩) ((ncE_kd E (Nat.le_refl _) (by omega)).trans ht) ?_
  refine mG.eqv (E2 := cE E (E.1 + 11) 0 (E.1 + 12)) (S2 := wS E S (fun _ => 0) (E.1 + 12)) (cE_ref E (a := E.1 + 11) (by omega) (rr8_texts ht) (fun k2 h1 => by rcases rl8 ht h1 with ⟨e1, e2⟩ | ⟨e1, e2⟩ | ⟨e1, e2⟩ | ⟨e1, e2⟩ | ⟨e1, e2⟩ | ⟨e1, e2⟩ | ⟨e1, e2⟩ | ⟨e1, e2⟩ | ⟨e1, e2⟩ | ⟨e1, e2⟩ | ⟨e1, e2⟩ <;> omega) hk11 hl11) (wS_arr E S _ (by omega) (by rw [hk11]; decide)) ?_
  refine mG.iconst (v := (0)) dX8_init_32 rfl ?_
  refine mG.istore_n (lv2 := [(1, .int 0), (0, .ref E.1)]) dX8_init_33 rfl (by decide) rfl ?_
  exact k_X8_loop E S ht hE 4 0 rfl
