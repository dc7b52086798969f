theorem rr9_a {t : Nat} (h : kd0 t = 9) : rf0 t 0 = some (t + 1) := by
  unfold rf0
  rw [h]
  rfl
theorem rr9_image {t : Nat} (h : kd0 t = 9) : rf0 t 1 = some (t + 2) := by
  unfold rf0
  rw [h]
  rfl
theorem rr9_texts {t : Nat} (h : kd0 t = 9) : rf0 t 2 = some (t + 3) := by
  unfold rf0
  rw [h]
  rfl
theorem rr9_tape {t : Nat} (h : kd0 t = 9) : rf0 t 3 = some (t + 4) := by
  unfold rf0
  rw [h]
  rfl
theorem rr9_pile {t : Nat} (h : kd0 t = 9) : rf0 t 15 = some (t + 5) := by
  unfold rf0
  rw [h]
  rfl
theorem rr9_named {t : Nat} (h : kd0 t = 9) : rf0 t 21 = some (t + 6) := by
  unfold rf0
  rw [h]
  rfl
theorem rr9_values {t : Nat} (h : kd0 t = 9) : rf0 t 22 = some (t + 7) := by
  unfold rf0
  rw [h]
  rfl
theorem rr9_truth {t : Nat} (h : kd0 t = 9) : rf0 t 23 = some (t + 8) := by
  unfold rf0
  rw [h]
  rfl
theorem rr9_aside {t : Nat} (h : kd0 t = 9) : rf0 t 24 = some (t + 9) := by
  unfold rf0
  rw [h]
  rfl
theorem rr9_with {t : Nat} (h : kd0 t = 9) : rf0 t 29 = some (t + 10) := by
  unfold rf0
  rw [h]
  rfl
theorem rr9_member {t : Nat} (h : kd0 t = 9) : rf0 t 32 = some (t + 11) := by
  unfold rf0
  rw [h]
  rfl
theorem rr9_dayOf {t : Nat} (h : kd0 t = 9) : rf0 t 33 = some (t + 12) := by
  unfold rf0
  rw [h]
  rfl
theorem rr9_mate {t : Nat} (h : kd0 t = 9) : rf0 t 34 = some (t + 13) := by
  unfold rf0
  rw [h]
  rfl
theorem rr9_bestMate {t : Nat} (h : kd0 t = 9) : rf0 t 35 = some (t + 14) := by
  unfold rf0
  rw [h]
  rfl
theorem dX9_init_0 : decode cX9_init 0 = .ok (.aload_n 0, 1) := by decide +kernel
theorem dX9_init_1 : decode cX9_init 1 = .ok (.invokespecial 1, 3) := by decide +kernel
theorem dX9_init_4 : decode cX9_init 4 = .ok (.aload_n 0, 1) := by decide +kernel
theorem dX9_init_5 : decode cX9_init 5 = .ok (.sipush 2308, 3) := by decide +kernel
theorem dX9_init_8 : decode cX9_init 8 = .ok (.newarray .int, 2) := by decide +kernel
theorem dX9_init_10 : decode cX9_init 10 = .ok (.putfield 7, 3) := by decide +kernel
theorem dX9_init_13 : decode cX9_init 13 = .ok (.aload_n 0, 1) := by decide +kernel
theorem dX9_init_14 : decode cX9_init 14 = .ok (.sipush 2308, 3) := by decide +kernel
theorem dX9_init_17 : decode cX9_init 17 = .ok (.newarray .int, 2) := by decide +kernel
theorem dX9_init_19 : decode cX9_init 19 = .ok (.putfield 13, 3) := by decide +kernel
theorem dX9_init_22 : decode cX9_init 22 = .ok (.aload_n 0, 1) := by decide +kernel
theorem dX9_init_23 : decode cX9_init 23 = .ok (.sipush 2820, 3) := by decide +kernel
theorem dX9_init_26 : decode cX9_init 26 = .ok (.newarray .int, 2) := by decide +kernel
theorem dX9_init_28 : decode cX9_init 28 = .ok (.putfield 16, 3) := by decide +kernel
theorem dX9_init_31 : decode cX9_init 31 = .ok (.aload_n 0, 1) := by decide +kernel
theorem dX9_init_32 : decode cX9_init 32 = .ok (.sipush 300, 3) := by decide +kernel
theorem dX9_init_35 : decode cX9_init 35 = .ok (.newarray .int, 2) := by decide +kernel
theorem dX9_init_37 : decode cX9_init 37 = .ok (.putfield 19, 3) := by decide +kernel
theorem dX9_init_40 : decode cX9_init 40 = .ok (.aload_n 0, 1) := by decide +kernel
theorem dX9_init_41 : decode cX9_init 41 = .ok (.iconst (-1), 1) := by decide +kernel
theorem dX9_init_42 : decode cX9_init 42 = .ok (.putfield 22, 3) := by decide +kernel
theorem dX9_init_45 : decode cX9_init 45 = .ok (.aload_n 0, 1) := by decide +kernel
theorem dX9_init_46 : decode cX9_init 46 = .ok (.iconst (-1), 1) := by decide +kernel
theorem dX9_init_47 : decode cX9_init 47 = .ok (.putfield 26, 3) := by decide +kernel
theorem dX9_init_50 : decode cX9_init 50 = .ok (.aload_n 0, 1) := by decide +kernel
theorem dX9_init_51 : decode cX9_init 51 = .ok (.sipush 160, 3) := by decide +kernel
theorem dX9_init_54 : decode cX9_init 54 = .ok (.newarray .int, 2) := by decide +kernel
theorem dX9_init_56 : decode cX9_init 56 = .ok (.putfield 29, 3) := by decide +kernel
theorem dX9_init_59 : decode cX9_init 59 = .ok (.aload_n 0, 1) := by decide +kernel
theorem dX9_init_60 : decode cX9_init 60 = .ok (.bipush 8, 2) := by decide +kernel
theorem dX9_init_62 : decode cX9_init 62 = .ok (.newarray .int, 2) := by decide +kernel
theorem dX9_init_64 : decode cX9_init 64 = .ok (.putfield 32, 3) := by decide +kernel
theorem dX9_init_67 : decode cX9_init 67 = .ok (.aload_n 0, 1) := by decide +kernel
theorem dX9_init_68 : decode cX9_init 68 = .ok (.sipush 330, 3) := by decide +kernel
theorem dX9_init_71 : decode cX9_init 71 = .ok (.newarray .long, 2) := by decide +kernel
theorem dX9_init_73 : decode cX9_init 73 = .ok (.putfield 35, 3) := by decide +kernel
theorem dX9_init_76 : decode cX9_init 76 = .ok (.aload_n 0, 1) := by decide +kernel
theorem dX9_init_77 : decode cX9_init 77 = .ok (.sipush 330, 3) := by decide +kernel
theorem dX9_init_80 : decode cX9_init 80 = .ok (.newarray .boolean, 2) := by decide +kernel
theorem dX9_init_82 : decode cX9_init 82 = .ok (.putfield 39, 3) := by decide +kernel
theorem dX9_init_85 : decode cX9_init 85 = .ok (.aload_n 0, 1) := by decide +kernel
theorem dX9_init_86 : decode cX9_init 86 = .ok (.bipush 68, 2) := by decide +kernel
theorem dX9_init_88 : decode cX9_init 88 = .ok (.newarray .int, 2) := by decide +kernel
theorem dX9_init_90 : decode cX9_init 90 = .ok (.putfield 43, 3) := by decide +kernel
theorem dX9_init_93 : decode cX9_init 93 = .ok (.aload_n 0, 1) := by decide +kernel
theorem dX9_init_94 : decode cX9_init 94 = .ok (.bipush 20, 2) := by decide +kernel
theorem dX9_init_96 : decode cX9_init 96 = .ok (.newarray .int, 2) := by decide +kernel
theorem dX9_init_98 : decode cX9_init 98 = .ok (.putfield 46, 3) := by decide +kernel
theorem dX9_init_101 : decode cX9_init 101 = .ok (.aload_n 0, 1) := by decide +kernel
theorem dX9_init_102 : decode cX9_init 102 = .ok (.bipush 7, 2) := by decide +kernel
theorem dX9_init_104 : decode cX9_init 104 = .ok (.newarray .int, 2) := by decide +kernel
theorem dX9_init_106 : decode cX9_init 106 = .ok (.putfield 49, 3) := by decide +kernel
theorem dX9_init_109 : decode cX9_init 109 = .ok (.aload_n 0, 1) := by decide +kernel
theorem dX9_init_110 : decode cX9_init 110 = .ok (.bipush 7, 2) := by decide +kernel
theorem dX9_init_112 : decode cX9_init 112 = .ok (.newarray .int, 2) := by decide +kernel
theorem dX9_init_114 : decode cX9_init 114 = .ok (.putfield 52, 3) := by decide +kernel
theorem dX9_init_117 : decode cX9_init 117 = .ok (.aload_n 0, 1) := by decide +kernel
theorem dX9_init_118 : decode cX9_init 118 = .ok (.bipush 7, 2) := by decide +kernel
theorem dX9_init_120 : decode cX9_init 120 = .ok (.newarray .int, 2) := by decide +kernel
theorem dX9_init_122 : decode cX9_init 122 = .ok (.putfield 55, 3) := by decide +kernel
theorem dX9_init_125 : decode cX9_init 125 = .ok (.aload_n 0, 1) := by decide +kernel
theorem dX9_init_126 : decode cX9_init 126 = .ok (.bipush 7, 2) := by decide +kernel
theorem dX9_init_128 : decode cX9_init 128 = .ok (.newarray .int, 2) := by decide +kernel
theorem dX9_init_130 : decode cX9_init 130 = .ok (.putfield 58, 3) := by decide +kernel
theorem dX9_init_133 : decode cX9_init 133 = .ok (.aload_n 0, 1) := by decide +kernel
theorem dX9_init_134 : decode cX9_init 134 = .ok (.getfield 7, 3) := by decide +kernel
theorem dX9_init_137 : decode cX9_init 137 = .ok (.bipush 9, 2) := by decide +kernel
theorem dX9_init_139 : decode cX9_init 139 = .ok (.sipush 131, 3) := by decide +kernel
theorem dX9_init_142 : decode cX9_init 142 = .ok (.iastore, 1) := by decide +kernel
theorem dX9_init_143 : decode cX9_init 143 = .ok (.aload_n 0, 1) := by decide +kernel
theorem dX9_init_144 : decode cX9_init 144 = .ok (.getfield 7, 3) := by decide +kernel
theorem dX9_init_147 : decode cX9_init 147 = .ok (.iconst 2, 1) := by decide +kernel
theorem dX9_init_148 : decode cX9_init 148 = .ok (.iconst (-1), 1) := by decide +kernel
theorem dX9_init_149 : decode cX9_init 149 = .ok (.iastore, 1) := by decide +kernel
theorem dX9_init_150 : decode cX9_init 150 = .ok (.aload_n 0, 1) := by decide +kernel
theorem dX9_init_151 : decode cX9_init 151 = .ok (.getfield 7, 3) := by decide +kernel
theorem dX9_init_154 : decode cX9_init 154 = .ok (.aload_n 0, 1) := by decide +kernel
theorem dX9_init_155 : decode cX9_init 155 = .ok (.getfield 13, 3) := by decide +kernel
theorem dX9_init_158 : decode cX9_init 158 = .ok (.invokestatic 61, 3) := by decide +kernel
theorem dX9_init_161 : decode cX9_init 161 = .ok (.return_, 1) := by decide +kernel
def eE : mE := (0, fun _ => 99, fun _ => 0, fun _ _ => none)
def E375 : mE := xE eE 375
theorem ln0_out {t : Nat} (h : 390 ≤ t) : ln0 t = 0 := by
  unfold ln0
  rw [List.getD_eq_getElem?_getD, List.getElem?_eq_none (by rw [show lnL.length = 390 by decide +kernel]; exact h)]
  rfl
theorem rf0_out {t k : Nat} (h : 390 ≤ t) : rf0 t k = none := by
  unfold rf0
  rw [kd0_out h]
  rfl
theorem E390 : xE E375 390 = E0 := by
  refine mE_ext rfl ?_ ?_ ?_
  · intro u
    show (if 375 ≤ u ∧ u < 390 then kd0 u else if 0 ≤ u ∧ u < 375 then kd0 u else 99) = kd0 u
    repeat' split
    all_goals first | rfl | exact (kd0_out (by omega)).symm
  · intro u
    show (if 375 ≤ u ∧ u < 390 then ln0 u else if 0 ≤ u ∧ u < 375 then ln0 u else 0) = ln0 u
    repeat' split
    all_goals first | rfl | exact (ln0_out (by omega)).symm
  · intro u k
    show (if 375 ≤ u ∧ u < 390 then rf0 u k else if 0 ≤ u ∧ u < 375 then rf0 u k else none) = rf0 u k
    repeat' split
    all_goals first | rfl | exact (rf0_out (by omega)).symm
theorem k9_t : kd0 E375.1 = 9 := by decide +kernel
set_option maxHeartbeats 4000000 in
set_option maxRecDepth 100000 in
theorem k_X9_end {x : mX} {S S2 : mS} {F : Nat} (hc : f_X9_copy F S 376 377 = some S2) : mG x μX9_init 2 14 8680 (fun E3 S3 r => E3 = E0 ∧ S3 = S2 ∧ r = none) 14 8680 E0 S 150 [(0, .ref 375)] [] := by
  have ht : kd0 375 = 9 := by decide +kernel
  refine mG.aload_n 0 dX9_init_150 rfl ?_
  refine mG.get (v := .ref (375 + 1)) dX9_init_151 mfX9_7 ht (lr9_a ht) ?_
  refine mG.aload_n 0 dX9_init_154 rfl ?_
  refine mG.get (v := .ref (375 + 2)) dX9_init_155 mfX9_13 ht (lr9_image ht) ?_
  refine mG.callS (mc2 := 0) (ms2 := 0) (d2 := 1) (as := [.ref 376, .ref 377]) (st := []) dX9_init_158 mbX9_copy wk6_5 wk6_4 rfl rfl (by decide) (by decide) (by decide) (Nat.le_of_ble_eq_true rfl) (c_X9_copy (lk9_a ht) (ll9_a ht) (lk9_image ht) (ll9_image ht) hc) (fun E2 S3 r h => by rw [h.1]) (fun E2 S3 r h => ?_)
  obtain ⟨rfl, rfl, rfl⟩ := h
  exact mG.vret dX9_init_161 rfl ⟨rfl, rfl, rfl⟩
set_option maxHeartbeats 4000000 in
set_option maxRecDepth 100000 in
theorem k_X9_mid {x : mX} {Q : mQt} (E : mE) (S : mS) (ht : kd0 E.1 = 9) (hend : mG x μX9_init 2 14 8680 Q 14 8680 (cE E E.1 0 (E.1 + 15)) (wS E S (fun j => if j = 6 then (-1) else (fun j => if j = 5 then (-1) else (fun _ => 0) j) j) (E.1 + 15)) 133 [(0, .ref E.1)] []) : mG x μX9_init 2 14 8680 Q 0 0 (nE E 9 0) (nS E S) 0 [(0, .ref E.1)] [] := by
  have hk1 := lk9_a ht
  have hl1 := ll9_a ht
  have hk2 := lk9_image ht
  have hl2 := ll9_image ht
  have hk3 := lk9_texts ht
  have hl3 := ll9_texts ht
  have hk4 := lk9_tape ht
  have hl4 := ll9_tape ht
  have hk5 := lk9_pile ht
  have hl5 := ll9_pile ht
  have hk6 := lk9_named ht
  have hl6 := ll9_named ht
  have hk7 := lk9_values ht
  have hl7 := ll9_values ht
  have hk8 := lk9_truth ht
  have hl8 := ll9_truth ht
  have hk9 := lk9_aside ht
  have hl9 := ll9_aside ht
  have hk10 := lk9_with ht
  have hl10 := ll9_with ht
  have hk11 := lk9_member ht
  have hl11 := ll9_member ht
  have hk12 := lk9_dayOf ht
  have hl12 := ll9_dayOf ht
  have hk13 := lk9_mate ht
  have hl13 := ll9_mate ht
  have hk14 := lk9_bestMate ht
  have hl14 := ll9_bestMate ht
  refine mG.aload_n 0 dX9_init_0 rfl ?_
  refine mG.objInit dX9_init_1 wk5_9 (by decide) (Nat.le_of_ble_eq_true rfl) ?_
  refine mG.eqv (E2 := cE E E.1 0 (E.1 + 1)) (S2 := wS E S (fun _ => 0) (E.1 + 1)) (cE_0 E (Or.inl rfl) ht (ln9_0 ht) (fun k q h => by rcases rl9 ht h with ⟨e1, e2⟩ | ⟨e1, e2⟩ | ⟨e1, e2⟩ | ⟨e1, e2⟩ | ⟨e1, e2⟩ | ⟨e1, e2⟩ | ⟨e1, e2⟩ | ⟨e1, e2⟩ | ⟨e1, e2⟩ | ⟨e1, e2⟩ | ⟨e1, e2⟩ | ⟨e1, e2⟩ | ⟨e1, e2⟩ | ⟨e1, e2⟩ <;> omega)) (wS_0 E S) ?_
  refine mG.aload_n 0 dX9_init_4 rfl ?_
  refine mG.sipush (v := 2308) dX9_init_5 (by decide) ?_
  refine mG.newI (N := 2308) dX9_init_8 (by decide) (by decide) (by decide) (by decide) (by decide) ?_
  refine mG.putR dX9_init_10 mfX9_7 rfl rfl rfl (Or.inr ⟨_, rfl⟩) ((ncE_kd E (Nat.le_refl _) (by omega)).trans ht) ?_
  refine mG.eqv (E2 := cE E E.1 0 (E.1 + 2)) (S2 := wS E S (fun _ => 0) (E.1 + 2)) (cE_arr E (n := E.1 + 1) (by omega) (rr9_a ht) (fun k2 h1 => by rcases rl9 ht h1 with ⟨e1, e2⟩ | ⟨e1, e2⟩ | ⟨e1, e2⟩ | ⟨e1, e2⟩ | ⟨e1, e2⟩ | ⟨e1, e2⟩ | ⟨e1, e2⟩ | ⟨e1, e2⟩ | ⟨e1, e2⟩ | ⟨e1, e2⟩ | ⟨e1, e2⟩ | ⟨e1, e2⟩ | ⟨e1, e2⟩ | ⟨e1, e2⟩ <;> omega) (Or.inl (by omega)) hk1 hl1 (rf0_arr (by simp [hk1]))) (wS_arr E S _ (by omega) (by rw [hk1]; decide)) ?_
  refine mG.aload_n 0 dX9_init_13 rfl ?_
  refine mG.sipush (v := 2308) dX9_init_14 (by decide) ?_
  refine mG.newI (N := 2308) dX9_init_17 (by decide) (by decide) (by decide) (by decide) (by decide) ?_
  refine mG.putR dX9_init_19 mfX9_13 rfl rfl rfl (Or.inr ⟨_, rfl⟩) ((ncE_kd E (Nat.le_refl _) (by omega)).trans ht) ?_
  refine mG.eqv (E2 := cE E E.1 0 (E.1 + 3)) (S2 := wS E S (fun _ => 0) (E.1 + 3)) (cE_arr E (n := E.1 + 2) (by omega) (rr9_image ht) (fun k2 h1 => by rcases rl9 ht h1 with ⟨e1, e2⟩ | ⟨e1, e2⟩ | ⟨e1, e2⟩ | ⟨e1, e2⟩ | ⟨e1, e2⟩ | ⟨e1, e2⟩ | ⟨e1, e2⟩ | ⟨e1, e2⟩ | ⟨e1, e2⟩ | ⟨e1, e2⟩ | ⟨e1, e2⟩ | ⟨e1, e2⟩ | ⟨e1, e2⟩ | ⟨e1, e2⟩ <;> omega) (Or.inl (by omega)) hk2 hl2 (rf0_arr (by simp [hk2]))) (wS_arr E S _ (by omega) (by rw [hk2]; decide)) ?_
  refine mG.aload_n 0 dX9_init_22 rfl ?_
  refine mG.sipush (v := 2820) dX9_init_23 (by decide) ?_
  refine mG.newI (N := 2820) dX9_init_26 (by decide) (by decide) (by decide) (by decide) (by decide) ?_
  refine mG.putR dX9_init_28 mfX9_16 rfl rfl rfl (Or.inr ⟨_, rfl⟩) ((ncE_kd E (Nat.le_refl _) (by omega)).trans ht) ?_
  refine mG.eqv (E2 := cE E E.1 0 (E.1 + 4)) (S2 := wS E S (fun _ => 0) (E.1 + 4)) (cE_arr E (n := E.1 + 3) (by omega) (rr9_texts ht) (fun k2 h1 => by rcases rl9 ht h1 with ⟨e1, e2⟩ | ⟨e1, e2⟩ | ⟨e1, e2⟩ | ⟨e1, e2⟩ | ⟨e1, e2⟩ | ⟨e1, e2⟩ | ⟨e1, e2⟩ | ⟨e1, e2⟩ | ⟨e1, e2⟩ | ⟨e1, e2⟩ | ⟨e1, e2⟩ | ⟨e1, e2⟩ | ⟨e1, e2⟩ | ⟨e1, e2⟩ <;> omega) (Or.inl (by omega)) hk3 hl3 (rf0_arr (by simp [hk3]))) (wS_arr E S _ (by omega) (by rw [hk3]; decide)) ?_
  refine mG.aload_n 0 dX9_init_31 rfl ?_
  refine mG.sipush (v := 300) dX9_init_32 (by decide) ?_
  refine mG.newI (N := 300) dX9_init_35 (by decide) (by decide) (by decide) (by decide) (by decide) ?_
  refine mG.putR dX9_init_37 mfX9_19 rfl rfl rfl (Or.inr ⟨_, rfl⟩) ((ncE_kd E (Nat.le_refl _) (by omega)).trans ht) ?_
  refine mG.eqv (E2 := cE E E.1 0 (E.1 + 5)) (S2 := wS E S (fun _ => 0) (E.1 + 5)) (cE_arr E (n := E.1 + 4) (by omega) (rr9_tape ht) (fun k2 h1 => by rcases rl9 ht h1 with ⟨e1, e2⟩ | ⟨e1, e2⟩ | ⟨e1, e2⟩ | ⟨e1, e2⟩ | ⟨e1, e2⟩ | ⟨e1, e2⟩ | ⟨e1, e2⟩ | ⟨e1, e2⟩ | ⟨e1, e2⟩ | ⟨e1, e2⟩ | ⟨e1, e2⟩ | ⟨e1, e2⟩ | ⟨e1, e2⟩ | ⟨e1, e2⟩ <;> omega) (Or.inl (by omega)) hk4 hl4 (rf0_arr (by simp [hk4]))) (wS_arr E S _ (by omega) (by rw [hk4]; decide)) ?_
  refine mG.aload_n 0 dX9_init_40 rfl ?_
  refine mG.iconst (v := (-1)) dX9_init_41 rfl ?_
  refine mG.putI (S2 := wS E S (fun j => if j = 5 then (-1) else (fun _ => 0) j) (E.1 + 5)) dX9_init_42 mfX9_22 rfl (Or.inl rfl) ((cE_kd E (Nat.le_refl _) (by omega)).trans ht) (wS_put E S _ 5 (-1)) ?_
  refine mG.aload_n 0 dX9_init_45 rfl ?_
  refine mG.iconst (v := (-1)) dX9_init_46 rfl ?_
  refine mG.putI (S2 := wS E S (fun j => if j = 6 then (-1) else (fun j => if j = 5 then (-1) else (fun _ => 0) j) j) (E.1 + 5)) dX9_init_47 mfX9_26 rfl (Or.inl rfl) ((cE_kd E (Nat.le_refl _) (by omega)).trans ht) (wS_put E S _ 6 (-1)) ?_
  refine mG.aload_n 0 dX9_init_50 rfl ?_
  refine mG.sipush (v := 160) dX9_init_51 (by decide) ?_
  refine mG.newI (N := 160) dX9_init_54 (by decide) (by decide) (by decide) (by decide) (by decide) ?_
  refine mG.putR dX9_init_56 mfX9_29 rfl rfl rfl (Or.inr ⟨_, rfl⟩) ((ncE_kd E (Nat.le_refl _) (by omega)).trans ht) ?_
  refine mG.eqv (E2 := cE E E.1 0 (E.1 + 6)) (S2 := wS E S (fun j => if j = 6 then (-1) else (fun j => if j = 5 then (-1) else (fun _ => 0) j) j) (E.1 + 6)) (cE_arr E (n := E.1 + 5) (by omega) (rr9_pile ht) (fun k2 h1 => by rcases rl9 ht h1 with ⟨e1, e2⟩ | ⟨e1, e2⟩ | ⟨e1, e2⟩ | ⟨e1, e2⟩ | ⟨e1, e2⟩ | ⟨e1, e2⟩ | ⟨e1, e2⟩ | ⟨e1, e2⟩ | ⟨e1, e2⟩ | ⟨e1, e2⟩ | ⟨e1, e2⟩ | ⟨e1, e2⟩ | ⟨e1, e2⟩ | ⟨e1, e2⟩ <;> omega) (Or.inl (by omega)) hk5 hl5 (rf0_arr (by simp [hk5]))) (wS_arr E S _ (by omega) (by rw [hk5]; decide)) ?_
  refine mG.aload_n 0 dX9_init_59 rfl ?_
  refine mG.bipush (v := 8) dX9_init_60 (by decide) ?_
  refine mG.newI (N := 8) dX9_init_62 (by decide) (by decide) (by decide) (by decide) (by decide) ?_
  refine mG.putR dX9_init_64 mfX9_32 rfl rfl rfl (Or.inr ⟨_, rfl⟩) ((ncE_kd E (Nat.le_refl _) (by omega)).trans ht) ?_
  refine mG.eqv (E2 := cE E E.1 0 (E.1 + 7)) (S2 := wS E S (fun j => if j = 6 then (-1) else (fun j => if j = 5 then (-1) else (fun _ => 0) j) j) (E.1 + 7)) (cE_arr E (n := E.1 + 6) (by omega) (rr9_named ht) (fun k2 h1 => by rcases rl9 ht h1 with ⟨e1, e2⟩ | ⟨e1, e2⟩ | ⟨e1, e2⟩ | ⟨e1, e2⟩ | ⟨e1, e2⟩ | ⟨e1, e2⟩ | ⟨e1, e2⟩ | ⟨e1, e2⟩ | ⟨e1, e2⟩ | ⟨e1, e2⟩ | ⟨e1, e2⟩ | ⟨e1, e2⟩ | ⟨e1, e2⟩ | ⟨e1, e2⟩ <;> omega) (Or.inl (by omega)) hk6 hl6 (rf0_arr (by simp [hk6]))) (wS_arr E S _ (by omega) (by rw [hk6]; decide)) ?_
  refine mG.aload_n 0 dX9_init_67 rfl ?_
  refine mG.sipush (v := 330) dX9_init_68 (by decide) ?_
  refine mG.newL (N := 330) dX9_init_71 (by decide) (by decide) (by decide) (by decide) (by decide) ?_
  refine mG.putR dX9_init_73 mfX9_35 rfl rfl rfl (Or.inr ⟨_, rfl⟩) ((ncE_kd E (Nat.le_refl _) (by omega)).trans ht) ?_
  refine mG.eqv (E2 := cE E E.1 0 (E.1 + 8)) (S2 := wS E S (fun j => if j = 6 then (-1) else (fun j => if j = 5 then (-1) else (fun _ => 0) j) j) (E.1 + 8)) (cE_arr E (n := E.1 + 7) (by omega) (rr9_values ht) (fun k2 h1 => by rcases rl9 ht h1 with ⟨e1, e2⟩ | ⟨e1, e2⟩ | ⟨e1, e2⟩ | ⟨e1, e2⟩ | ⟨e1, e2⟩ | ⟨e1, e2⟩ | ⟨e1, e2⟩ | ⟨e1, e2⟩ | ⟨e1, e2⟩ | ⟨e1, e2⟩ | ⟨e1, e2⟩ | ⟨e1, e2⟩ | ⟨e1, e2⟩ | ⟨e1, e2⟩ <;> omega) (Or.inl (by omega)) hk7 hl7 (rf0_arr (by simp [hk7]))) (wS_arr E S _ (by omega) (by rw [hk7]; decide)) ?_
  refine mG.aload_n 0 dX9_init_76 rfl ?_
  refine mG.sipush (v := 330) dX9_init_77 (by decide) ?_
  refine mG.newZ (N := 330) dX9_init_80 (by decide) (by decide) (by decide) (by decide) (by decide) ?_
  refine mG.putR dX9_init_82 mfX9_39 rfl rfl rfl (Or.inr ⟨_, rfl⟩) ((ncE_kd E (Nat.le_refl _) (by omega)).trans ht) ?_
  refine mG.eqv (E2 := cE E E.1 0 (E.1 + 9)) (S2 := wS E S (fun j => if j = 6 then (-1) else (fun j => if j = 5 then (-1) else (fun _ => 0) j) j) (E.1 + 9)) (cE_arr E (n := E.1 + 8) (by omega) (rr9_truth ht) (fun k2 h1 => by rcases rl9 ht h1 with ⟨e1, e2⟩ | ⟨e1, e2⟩ | ⟨e1, e2⟩ | ⟨e1, e2⟩ | ⟨e1, e2⟩ | ⟨e1, e2⟩ | ⟨e1, e2⟩ | ⟨e1, e2⟩ | ⟨e1, e2⟩ | ⟨e1, e2⟩ | ⟨e1, e2⟩ | ⟨e1, e2⟩ | ⟨e1, e2⟩ | ⟨e1, e2⟩ <;> omega) (Or.inl (by omega)) hk8 hl8 (rf0_arr (by simp [hk8]))) (wS_arr E S _ (by omega) (by rw [hk8]; decide)) ?_
  refine mG.aload_n 0 dX9_init_85 rfl ?_
  refine mG.bipush (v := 68) dX9_init_86 (by decide) ?_
  refine mG.newI (N := 68) dX9_init_88 (by decide) (by decide) (by decide) (by decide) (by decide) ?_
  refine mG.putR dX9_init_90 mfX9_43 rfl rfl rfl (Or.inr ⟨_, rfl⟩) ((ncE_kd E (Nat.le_refl _) (by omega)).trans ht) ?_
  refine mG.eqv (E2 := cE E E.1 0 (E.1 + 10)) (S2 := wS E S (fun j => if j = 6 then (-1) else (fun j => if j = 5 then (-1) else (fun _ => 0) j) j) (E.1 + 10)) (cE_arr E (n := E.1 + 9) (by omega) (rr9_aside ht) (fun k2 h1 => by rcases rl9 ht h1 with ⟨e1, e2⟩ | ⟨e1, e2⟩ | ⟨e1, e2⟩ | ⟨e1, e2⟩ | ⟨e1, e2⟩ | ⟨e1, e2⟩ | ⟨e1, e2⟩ | ⟨e1, e2⟩ | ⟨e1, e2⟩ | ⟨e1, e2⟩ | ⟨e1, e2⟩ | ⟨e1, e2⟩ | ⟨e1, e2⟩ | ⟨e1, e2⟩ <;> omega) (Or.inl (by omega)) hk9 hl9 (rf0_arr (by simp [hk9]))) (wS_arr E S _ (by omega) (by rw [hk9]; decide)) ?_
  refine mG.aload_n 0 dX9_init_93 rfl ?_
  refine mG.bipush (v := 20) dX9_init_94 (by decide) ?_
  refine mG.newI (N := 20) dX9_init_96 (by decide) (by decide) (by decide) (by decide) (by decide) ?_
  refine mG.putR dX9_init_98 mfX9_46 rfl rfl rfl (Or.inr ⟨_, rfl⟩) ((ncE_kd E (Nat.le_refl _) (by omega)).trans ht) ?_
  refine mG.eqv (E2 := cE E E.1 0 (E.1 + 11)) (S2 := wS E S (fun j => if j = 6 then (-1) else (fun j => if j = 5 then (-1) else (fun _ => 0) j) j) (E.1 + 11)) (cE_arr E (n := E.1 + 10) (by omega) (rr9_with ht) (fun k2 h1 => by rcases rl9 ht h1 with ⟨e1, e2⟩ | ⟨e1, e2⟩ | ⟨e1, e2⟩ | ⟨e1, e2⟩ | ⟨e1, e2⟩ | ⟨e1, e2⟩ | ⟨e1, e2⟩ | ⟨e1, e2⟩ | ⟨e1, e2⟩ | ⟨e1, e2⟩ | ⟨e1, e2⟩ | ⟨e1, e2⟩ | ⟨e1, e2⟩ | ⟨e1, e2⟩ <;> omega) (Or.inl (by omega)) hk10 hl10 (rf0_arr (by simp [hk10]))) (wS_arr E S _ (by omega) (by rw [hk10]; decide)) ?_
  refine mG.aload_n 0 dX9_init_101 rfl ?_
  refine mG.bipush (v := 7) dX9_init_102 (by decide) ?_
  refine mG.newI (N := 7) dX9_init_104 (by decide) (by decide) (by decide) (by decide) (by decide) ?_
  refine mG.putR dX9_init_106 mfX9_49 rfl rfl rfl (Or.inr ⟨_, rfl⟩) ((ncE_kd E (Nat.le_refl _) (by omega)).trans ht) ?_
  refine mG.eqv (E2 := cE E E.1 0 (E.1 + 12)) (S2 := wS E S (fun j => if j = 6 then (-1) else (fun j => if j = 5 then (-1) else (fun _ => 0) j) j) (E.1 + 12)) (cE_arr E (n := E.1 + 11) (by omega) (rr9_member ht) (fun k2 h1 => by rcases rl9 ht h1 with ⟨e1, e2⟩ | ⟨e1, e2⟩ | ⟨e1, e2⟩ | ⟨e1, e2⟩ | ⟨e1, e2⟩ | ⟨e1, e2⟩ | ⟨e1, e2⟩ | ⟨e1, e2⟩ | ⟨e1, e2⟩ | ⟨e1, e2⟩ | ⟨e1, e2⟩ | ⟨e1, e2⟩ | ⟨e1, e2⟩ | ⟨e1, e2⟩ <;> omega) (Or.inl (by omega)) hk11 hl11 (rf0_arr (by simp [hk11]))) (wS_arr E S _ (by omega) (by rw [hk11]; decide)) ?_
  refine mG.aload_n 0 dX9_init_109 rfl ?_
  refine mG.bipush (v := 7) dX9_init_110 (by decide) ?_
  refine mG.newI (N := 7) dX9_init_112 (by decide) (by decide) (by decide) (by decide) (by decide) ?_
  refine mG.putR dX9_init_114 mfX9_52 rfl rfl rfl (Or.inr ⟨_, rfl⟩) ((ncE_kd E (Nat.le_refl _) (by omega)).trans ht) ?_
  refine mG.eqv (E2 := cE E E.1 0 (E.1 + 13)) (S2 := wS E S (fun j => if j = 6 then (-1) else (fun j => if j = 5 then (-1) else (fun _ => 0) j) j) (E.1 + 13)) (cE_arr E (n := E.1 + 12) (by omega) (rr9_dayOf ht) (fun k2 h1 => by rcases rl9 ht h1 with ⟨e1, e2⟩ | ⟨e1, e2⟩ | ⟨e1, e2⟩ | ⟨e1, e2⟩ | ⟨e1, e2⟩ | ⟨e1, e2⟩ | ⟨e1, e2⟩ | ⟨e1, e2⟩ | ⟨e1, e2⟩ | ⟨e1, e2⟩ | ⟨e1, e2⟩ | ⟨e1, e2⟩ | ⟨e1, e2⟩ | ⟨e1, e2⟩ <;> omega) (Or.inl (by omega)) hk12 hl12 (rf0_arr (by simp [hk12]))) (wS_arr E S _ (by omega) (by rw [hk12]; decide)) ?_
  refine mG.aload_n 0 dX9_init_117 rfl ?_
  refine mG.bipush (v := 7) dX9_init_118 (by decide) ?_
  refine mG.newI (N := 7) dX9_init_120 (by decide) (by decide) (by decide) (by decide) (by decide) ?_
  refine mG.putR dX9_init_122 mfX9_55 rfl rfl rfl (Or.inr ⟨_, rfl⟩) ((ncE_kd E (Nat.le_refl _) (by omega)).trans ht) ?_
  refine mG.eqv (E2 := cE E E.1 0 (E.1 + 14)) (S2 := wS E S (fun j => if j = 6 then (-1) else (fun j => if j = 5 then (-1) else (fun _ => 0) j) j) (E.1 + 14)) (cE_arr E (n := E.1 + 13) (by omega) (rr9_mate ht) (fun k2 h1 => by rcases rl9 ht h1 with ⟨e1, e2⟩ | ⟨e1, e2⟩ | ⟨e1, e2⟩ | ⟨e1, e2⟩ | ⟨e1, e2⟩ | ⟨e1, e2⟩ | ⟨e1, e2⟩ | ⟨e1, e2⟩ | ⟨e1, e2⟩ | ⟨e1, e2⟩ | ⟨e1, e2⟩ | ⟨e1, e2⟩ | ⟨e1, e2⟩ | ⟨e1, e2⟩ <;> omega) (Or.inl (by omega)) hk13 hl13 (rf0_arr (by simp [hk13]))) (wS_arr E S _ (by omega) (by rw [hk13]; decide)) ?_
  refine mG.aload_n 0 dX9_init_125 rfl ?_
  refine mG.bipush (v := 7) dX9_init_126 (by decide) ?_
  refine mG.newI (N := 7) dX9_init_128 (by decide) (by decide) (by decide) (by decide) (by decide) ?_
  refine mG.putR dX9_init_130 mfX9_58 rfl rfl rfl (Or.inr ⟨_, rfl⟩) ((ncE_kd E (Nat.le_refl _) (by omega)).trans ht) ?_
  refine mG.eqv (E2 := cE E E.1 0 (E.1 + 15)) (S2 := wS E S (fun j => if j = 6 then (-1) else (fun j => if j = 5 then (-1) else (fun _ => 0) j) j) (E.1 + 15)) (cE_arr E (n := E.1 + 14) (by omega) (rr9_bestMate ht) (fun k2 h1 => by rcases rl9 ht h1 with ⟨e1, e2⟩ | ⟨e1, e2⟩ | ⟨e1, e2⟩ | ⟨e1, e2⟩ | ⟨e1, e2⟩ | ⟨e1, e2⟩ | ⟨e1, e2⟩ | ⟨e1, e2⟩ | ⟨e1, e2⟩ | ⟨e1, e2⟩ | ⟨e1, e2⟩ | ⟨e1, e2⟩ | ⟨e1, e2⟩ | ⟨e1, e2⟩ <;> omega) (Or.inl (by omega)) hk14 hl14 (rf0_arr (by simp [hk14]))) (wS_arr E S _ (by omega) (by rw [hk14]; decide)) ?_
  exact hend
def g9 : Nat → Int32 := (fun j => if j = 6 then (-1) else (fun j => if j = 5 then (-1) else (fun _ => 0) j) j)
def sM (S : mS) : mS := sI (sI (wS E375 S g9 390) 376 9 131) 376 2 (-1)
set_option maxHeartbeats 4000000 in
set_option maxRecDepth 100000 in
theorem k_X9 {S S2 : mS} {F : Nat} (hc : f_X9_copy F (sM S) 376 377 = some S2) : mCt μX9_init 2 14 8680 (nE E375 9 0) (nS E375 S) [.ref 375] (fun E3 S3 r => E3 = E0 ∧ S3 = S2 ∧ r = none) := by
  have ht : kd0 375 = 9 := by decide +kernel
  refine mCt.of (by decide) (Nat.le_of_ble_eq_true rfl) ?_
  intro x
  refine k_X9_mid E375 S ht ?_
  refine mG.eqv (E2 := E0) (S2 := wS E375 S g9 390) ?_ rfl ?_
  · rw [← E390]
    exact cE_end E375 (fun k q h => by rcases rl9 ht h with ⟨e1, e2⟩ | ⟨e1, e2⟩ | ⟨e1, e2⟩ | ⟨e1, e2⟩ | ⟨e1, e2⟩ | ⟨e1, e2⟩ | ⟨e1, e2⟩ | ⟨e1, e2⟩ | ⟨e1, e2⟩ | ⟨e1, e2⟩ | ⟨e1, e2⟩ | ⟨e1, e2⟩ | ⟨e1, e2⟩ | ⟨e1, e2⟩ <;> (subst e2; decide)) (fun k h _ _ => absurd h (Nat.lt_irrefl _)) (fun k _ _ h => absurd rfl h) (by decide)
  refine mG.aload_n 0 dX9_init_133 rfl ?_
  refine mG.get (v := .ref (375 + 1)) dX9_init_134 mfX9_7 ht (lr9_a ht) ?_
  refine mG.bipush (v := 9) dX9_init_137 (by decide) ?_
  refine mG.sipush (v := 131) dX9_init_139 (by decide) ?_
  refine mG.iast (n := 2308) dX9_init_142 (lk9_a ht) (ll9_a ht) (inbp (by decide)) rfl ?_
  refine mG.aload_n 0 dX9_init_143 rfl ?_
  refine mG.get (v := .ref (375 + 1)) dX9_init_144 mfX9_7 ht (lr9_a ht) ?_
  refine mG.iconst (v := 2) dX9_init_147 rfl ?_
  refine mG.iconst (v := (-1)) dX9_init_148 rfl ?_
  refine mG.iast (n := 2308) dX9_init_149 (lk9_a ht) (ll9_a ht) (inbp (by decide)) rfl ?_
  exact k_X9_end hc
