/-! ===== the constructors ===== -/
theorem mE_ext {E E' : mE} (h1 : E.1 = E'.1) (h2 : ∀ u, E.2.1 u = E'.2.1 u) (h3 : ∀ u, E.2.2.1 u = E'.2.2.1 u) (h4 : ∀ u k, E.2.2.2 u k = E'.2.2.2 u k) : E = E' := by
  obtain ⟨a, b, c, d⟩ := E
  obtain ⟨a', b', c', d'⟩ := E'
  have e1 : a = a' := h1
  have e2 : b = b' := funext h2
  have e3 : c = c' := funext h3
  have e4 : d = d' := funext fun u => funext fun k => h4 u k
  subst e1; subst e2; subst e3; subst e4
  rfl
theorem mS_ext {S S' : mS} (h1 : ∀ u k, S.1 u k = S'.1 u k) (h2 : ∀ u k, S.2 u k = S'.2 u k) : S = S' := by
  obtain ⟨a, b⟩ := S
  obtain ⟨a', b'⟩ := S'
  have e1 : a = a' := funext fun u => funext fun k => h1 u k
  have e2 : b = b' := funext fun u => funext fun k => h2 u k
  subst e1; subst e2
  rfl
/-- what a new cell holds once its object is made -/
def s0 (u k : Nat) : Int32 := if kd0 u = 6 ∧ k = 8 then 131 else if kd0 u = 7 ∧ k = 5 then -1 else if kd0 u = 4 ∧ k = 2 then -1 else if kd0 u = 9 ∧ (k = 5 ∨ k = 6) then -1 else 0
def xE (E : mE) (n : Nat) : mE := (n, fun u => if E.1 ≤ u ∧ u < n then kd0 u else E.2.1 u, fun u => if E.1 ≤ u ∧ u < n then ln0 u else E.2.2.1 u, fun u k => if E.1 ≤ u ∧ u < n then rf0 u k else E.2.2.2 u k)
def xS (E : mE) (S : mS) (n : Nat) : mS := (fun u k => if E.1 ≤ u ∧ u < n then s0 u k else S.1 u k, fun u k => if E.1 ≤ u ∧ u < n then 0 else S.2 u k)
def mQx (E : mE) (S : mS) (n : Nat) : mQt := fun E' S' r => E' = xE E n ∧ S' = xS E S n ∧ r = none
def kL2 : List Nat := [369]
theorem kL2_all : ∀ t, t < 390 → kd0 t = 2 → t ∈ kL2 := by decide +kernel
theorem kL2_in {t : Nat} (h : kd0 t = 2) : t ∈ kL2 := by
  by_cases ht : t < 390
  · exact kL2_all t ht h
  · exact absurd h (by rw [kd0_out (by omega)]; decide)
theorem ln0_all : ∀ t ∈ kL0, ln0 t = 0 := by decide +kernel
theorem ln0_0 {t : Nat} (h : kd0 t = 0) : ln0 t = 0 := ln0_all t (kL0_in h)
theorem ln1_all : ∀ t ∈ kL1, ln0 t = 0 := by decide +kernel
theorem ln1_0 {t : Nat} (h : kd0 t = 1) : ln0 t = 0 := ln1_all t (kL1_in h)
theorem ln2_all : ∀ t ∈ kL2, ln0 t = 0 := by decide +kernel
theorem ln2_0 {t : Nat} (h : kd0 t = 2) : ln0 t = 0 := ln2_all t (kL2_in h)
theorem ln3_all : ∀ t ∈ kL3, ln0 t = 0 := by decide +kernel
theorem ln3_0 {t : Nat} (h : kd0 t = 3) : ln0 t = 0 := ln3_all t (kL3_in h)
theorem ln4_all : ∀ t ∈ kL4, ln0 t = 0 := by decide +kernel
theorem ln4_0 {t : Nat} (h : kd0 t = 4) : ln0 t = 0 := ln4_all t (kL4_in h)
theorem ln5_all : ∀ t ∈ kL5, ln0 t = 0 := by decide +kernel
theorem ln5_0 {t : Nat} (h : kd0 t = 5) : ln0 t = 0 := ln5_all t (kL5_in h)
theorem ln6_all : ∀ t ∈ kL6, ln0 t = 0 := by decide +kernel
theorem ln6_0 {t : Nat} (h : kd0 t = 6) : ln0 t = 0 := ln6_all t (kL6_in h)
theorem ln7_all : ∀ t ∈ kL7, ln0 t = 0 := by decide +kernel
theorem ln7_0 {t : Nat} (h : kd0 t = 7) : ln0 t = 0 := ln7_all t (kL7_in h)
theorem dX2_init_0 : decode cX2_init 0 = .ok (.aload_n 0, 1) := by decide +kernel
theorem dX2_init_1 : decode cX2_init 1 = .ok (.invokespecial 3, 3) := by decide +kernel
theorem dX2_init_4 : decode cX2_init 4 = .ok (.return_, 1) := by decide +kernel
set_option maxHeartbeats 4000000 in
set_option maxRecDepth 100000 in
theorem k_X2 (E : mE) (S : mS) (ht : kd0 E.1 = 2) : mCt μX2_init 1 0 0 (nE E 2 0) (nS E S) [.ref E.1] (mQx E S (E.1 + 1)) := by
  obtain ⟨t, kd, ln, rf⟩ := E
  have ht : kd0 t = 2 := ht
  have hl0 := ln2_0 ht
  refine mCt.of (by decide) (Nat.le_of_ble_eq_true rfl) ?_
  intro x
  refine mG.aload_n 0 dX2_init_0 rfl ?_
  refine mG.objInit dX2_init_1 wk4_20 (by decide) (Nat.le_of_ble_eq_true rfl) ?_
  refine mG.vret dX2_init_4 rfl ⟨mE_ext rfl ?_ ?_ ?_, mS_ext ?_ ?_, rfl⟩
  · intro u
    simp only [nE, pE, xE]
    repeat' split
    all_goals first | rfl | omega | (simp_all; done)
  · intro u
    simp only [nE, pE, xE]
    repeat' split
    all_goals first | rfl | omega | (simp_all; done)
  · intro u k
    simp only [nE, pE, xE, rf0]
    repeat' split
    all_goals first | rfl | omega | (simp_all [rfk]; done) | (simp_all [rfk]; omega) | (rename_i h1; simp_all [rfk]; split <;> first | rfl | omega | simp_all)
  · intro u k
    simp only [nE, pE, nS, xS, sI, s0]
    repeat' split
    all_goals first | rfl | omega | (simp_all; done) | (simp_all; omega)
  · intro u k
    simp only [nE, pE, nS, xS, sI]
    repeat' split
    all_goals first | rfl | omega | (simp_all; done)
theorem dX1_init_0 : decode cX1_init 0 = .ok (.aload_n 0, 1) := by decide +kernel
theorem dX1_init_1 : decode cX1_init 1 = .ok (.invokespecial 3, 3) := by decide +kernel
theorem dX1_init_4 : decode cX1_init 4 = .ok (.aload_n 0, 1) := by decide +kernel
theorem dX1_init_5 : decode cX1_init 5 = .ok (.bipush 7, 2) := by decide +kernel
theorem dX1_init_7 : decode cX1_init 7 = .ok (.newarray .int, 2) := by decide +kernel
theorem dX1_init_9 : decode cX1_init 9 = .ok (.putfield 9, 3) := by decide +kernel
theorem dX1_init_12 : decode cX1_init 12 = .ok (.return_, 1) := by decide +kernel
set_option maxHeartbeats 4000000 in
set_option maxRecDepth 100000 in
theorem k_X1 (E : mE) (S : mS) (ht : kd0 E.1 = 1) : mCt μX1_init 1 1 7 (nE E 1 0) (nS E S) [.ref E.1] (mQx E S (E.1 + 2)) := by
  obtain ⟨t, kd, ln, rf⟩ := E
  have ht : kd0 t = 1 := ht
  have hk1 : kd0 (t + 1) = 10 := lk1_dayOf ht
  have hl1 : ln0 (t + 1) = 7 := ll1_dayOf ht
  have hl0 := ln1_0 ht
  refine mCt.of (by decide) (Nat.le_of_ble_eq_true rfl) ?_
  intro x
  refine mG.aload_n 0 dX1_init_0 rfl ?_
  refine mG.objInit dX1_init_1 wk4_23 (by decide) (Nat.le_of_ble_eq_true rfl) ?_
  refine mG.aload_n 0 dX1_init_4 rfl ?_
  refine mG.bipush (v := 7) dX1_init_5 (by decide) ?_
  refine mG.newI (N := 7) dX1_init_7 (by decide) (by decide) (by decide) (by decide) (by decide) ?_
  refine mG.putR dX1_init_9 mfX1_9 rfl rfl rfl (Or.inr ⟨_, rfl⟩) (by simp only [nE, pE, xE]; (repeat' split) <;> first | rfl | omega | (simp_all; done)) ?_
  refine mG.vret dX1_init_12 rfl ⟨mE_ext rfl ?_ ?_ ?_, mS_ext ?_ ?_, rfl⟩
  · intro u
    simp only [nE, pE, xE]
    repeat' split
    all_goals first | rfl | omega | (simp_all; done)
  · intro u
    simp only [nE, pE, xE]
    repeat' split
    all_goals first | rfl | omega | (simp_all; done)
  · intro u k
    simp only [nE, pE, xE, rf0]
    repeat' split
    all_goals first | rfl | omega | (simp_all [rfk]; done) | (simp_all [rfk]; omega) | (rename_i h1; simp_all [rfk]; split <;> first | rfl | omega | simp_all)
  · intro u k
    simp only [nE, pE, nS, xS, sI, s0]
    repeat' split
    all_goals first | rfl | omega | (simp_all; done) | (simp_all; omega)
  · intro u k
    simp only [nE, pE, nS, xS, sI]
    repeat' split
    all_goals first | rfl | omega | (simp_all; done)
theorem dX0_init_0 : decode cX0_init 0 = .ok (.aload_n 0, 1) := by decide +kernel
theorem dX0_init_1 : decode cX0_init 1 = .ok (.invokespecial 3, 3) := by decide +kernel
theorem dX0_init_4 : decode cX0_init 4 = .ok (.aload_n 0, 1) := by decide +kernel
theorem dX0_init_5 : decode cX0_init 5 = .ok (.bipush 7, 2) := by decide +kernel
theorem dX0_init_7 : decode cX0_init 7 = .ok (.newarray .int, 2) := by decide +kernel
theorem dX0_init_9 : decode cX0_init 9 = .ok (.putfield 9, 3) := by decide +kernel
theorem dX0_init_12 : decode cX0_init 12 = .ok (.aload_n 0, 1) := by decide +kernel
theorem dX0_init_13 : decode cX0_init 13 = .ok (.bipush 7, 2) := by decide +kernel
theorem dX0_init_15 : decode cX0_init 15 = .ok (.newarray .int, 2) := by decide +kernel
theorem dX0_init_17 : decode cX0_init 17 = .ok (.putfield 15, 3) := by decide +kernel
theorem dX0_init_20 : decode cX0_init 20 = .ok (.return_, 1) := by decide +kernel
set_option maxHeartbeats 4000000 in
set_option maxRecDepth 100000 in
theorem k_X0 (E : mE) (S : mS) (ht : kd0 E.1 = 0) : mCt μX0_init 1 2 14 (nE E 0 0) (nS E S) [.ref E.1] (mQx E S (E.1 + 3)) := by
  obtain ⟨t, kd, ln, rf⟩ := E
  have ht : kd0 t = 0 := ht
  have hk1 : kd0 (t + 1) = 10 := lk0_best ht
  have hl1 : ln0 (t + 1) = 7 := ll0_best ht
  have hk2 : kd0 (t + 2) = 10 := lk0_with ht
  have hl2 : ln0 (t + 2) = 7 := ll0_with ht
  have hl0 := ln0_0 ht
  refine mCt.of (by decide) (Nat.le_of_ble_eq_true rfl) ?_
  intro x
  refine mG.aload_n 0 dX0_init_0 rfl ?_
  refine mG.objInit dX0_init_1 wk5_3 (by decide) (Nat.le_of_ble_eq_true rfl) ?_
  refine mG.aload_n 0 dX0_init_4 rfl ?_
  refine mG.bipush (v := 7) dX0_init_5 (by decide) ?_
  refine mG.newI (N := 7) dX0_init_7 (by decide) (by decide) (by decide) (by decide) (by decide) ?_
  refine mG.putR dX0_init_9 mfX0_9 rfl rfl rfl (Or.inr ⟨_, rfl⟩) (by simp only [nE, pE, xE]; (repeat' split) <;> first | rfl | omega | (simp_all; done)) ?_
  refine mG.aload_n 0 dX0_init_12 rfl ?_
  refine mG.bipush (v := 7) dX0_init_13 (by decide) ?_
  refine mG.newI (N := 7) dX0_init_15 (by decide) (by decide) (by decide) (by decide) (by decide) ?_
  refine mG.putR dX0_init_17 mfX0_15 rfl rfl rfl (Or.inr ⟨_, rfl⟩) (by simp only [nE, pE, xE]; (repeat' split) <;> first | rfl | omega | (simp_all; done)) ?_
  refine mG.vret dX0_init_20 rfl ⟨mE_ext rfl ?_ ?_ ?_, mS_ext ?_ ?_, rfl⟩
  · intro u
    simp only [nE, pE, xE]
    repeat' split
    all_goals first | rfl | omega | (simp_all; done)
  · intro u
    simp only [nE, pE, xE]
    repeat' split
    all_goals first | rfl | omega | (simp_all; done)
  · intro u k
    simp only [nE, pE, xE, rf0]
    repeat' split
    all_goals first | rfl | omega | (simp_all [rfk]; done) | (simp_all [rfk]; omega) | (rename_i h1; simp_all [rfk]; split <;> first | rfl | omega | simp_all)
  · intro u k
    simp only [nE, pE, nS, xS, sI, s0]
    repeat' split
    all_goals first | rfl | omega | (simp_all; done) | (simp_all; omega)
  · intro u k
    simp only [nE, pE, nS, xS, sI]
    repeat' split
    all_goals first | rfl | omega | (simp_all; done)
theorem dX3_init_0 : decode cX3_init 0 = .ok (.aload_n 0, 1) := by decide +kernel
theorem dX3_init_1 : decode cX3_init 1 = .ok (.invokespecial 3, 3) := by decide +kernel
theorem dX3_init_4 : decode cX3_init 4 = .ok (.aload_n 0, 1) := by decide +kernel
theorem dX3_init_5 : decode cX3_init 5 = .ok (.bipush 8, 2) := by decide +kernel
theorem dX3_init_7 : decode cX3_init 7 = .ok (.newarray .int, 2) := by decide +kernel
theorem dX3_init_9 : decode cX3_init 9 = .ok (.putfield 9, 3) := by decide +kernel
theorem dX3_init_12 : decode cX3_init 12 = .ok (.aload_n 0, 1) := by decide +kernel
theorem dX3_init_13 : decode cX3_init 13 = .ok (.sipush 300, 3) := by decide +kernel
theorem dX3_init_16 : decode cX3_init 16 = .ok (.newarray .int, 2) := by decide +kernel
theorem dX3_init_18 : decode cX3_init 18 = .ok (.putfield 15, 3) := by decide +kernel
theorem dX3_init_21 : decode cX3_init 21 = .ok (.return_, 1) := by decide +kernel
set_option maxHeartbeats 4000000 in
set_option maxRecDepth 100000 in
theorem k_X3 (E : mE) (S : mS) (ht : kd0 E.1 = 3) : mCt μX3_init 1 2 308 (nE E 3 0) (nS E S) [.ref E.1] (mQx E S (E.1 + 3)) := by
  obtain ⟨t, kd, ln, rf⟩ := E
  have ht : kd0 t = 3 := ht
  have hk1 : kd0 (t + 1) = 10 := lk3_names ht
  have hl1 : ln0 (t + 1) = 8 := ll3_names ht
  have hk2 : kd0 (t + 2) = 10 := lk3_stack ht
  have hl2 : ln0 (t + 2) = 300 := ll3_stack ht
  have hl0 := ln3_0 ht
  refine mCt.of (by decide) (Nat.le_of_ble_eq_true rfl) ?_
  intro x
  refine mG.aload_n 0 dX3_init_0 rfl ?_
  refine mG.objInit dX3_init_1 wk3_18 (by decide) (Nat.le_of_ble_eq_true rfl) ?_
  refine mG.aload_n 0 dX3_init_4 rfl ?_
  refine mG.bipush (v := 8) dX3_init_5 (by decide) ?_
  refine mG.newI (N := 8) dX3_init_7 (by decide) (by decide) (by decide) (by decide) (by decide) ?_
  refine mG.putR dX3_init_9 mfX3_9 rfl rfl rfl (Or.inr ⟨_, rfl⟩) (by simp only [nE, pE, xE]; (repeat' split) <;> first | rfl | omega | (simp_all; done)) ?_
  refine mG.aload_n 0 dX3_init_12 rfl ?_
  refine mG.sipush (v := 300) dX3_init_13 (by decide) ?_
  refine mG.newI (N := 300) dX3_init_16 (by decide) (by decide) (by decide) (by decide) (by decide) ?_
  refine mG.putR dX3_init_18 mfX3_15 rfl rfl rfl (Or.inr ⟨_, rfl⟩) (by simp only [nE, pE, xE]; (repeat' split) <;> first | rfl | omega | (simp_all; done)) ?_
  refine mG.vret dX3_init_21 rfl ⟨mE_ext rfl ?_ ?_ ?_, mS_ext ?_ ?_, rfl⟩
  · intro u
    simp only [nE, pE, xE]
    repeat' split
    all_goals first | rfl | omega | (simp_all; done)
  · intro u
    simp only [nE, pE, xE]
    repeat' split
    all_goals first | rfl | omega | (simp_all; done)
  · intro u k
    simp only [nE, pE, xE, rf0]
    repeat' split
    all_goals first | rfl | omega | (simp_all [rfk]; done) | (simp_all [rfk]; omega) | (rename_i h1; simp_all [rfk]; split <;> first | rfl | omega | simp_all)
  · intro u k
    simp only [nE, pE, nS, xS, sI, s0]
    repeat' split
    all_goals first | rfl | omega | (simp_all; done) | (simp_all; omega)
  · intro u k
    simp only [nE, pE, nS, xS, sI]
    repeat' split
    all_goals first | rfl | omega | (simp_all; done)
theorem dX5_init_0 : decode cX5_init 0 = .ok (.aload_n 0, 1) := by decide +kernel
theorem dX5_init_1 : decode cX5_init 1 = .ok (.invokespecial 3, 3) := by decide +kernel
theorem dX5_init_4 : decode cX5_init 4 = .ok (.aload_n 0, 1) := by decide +kernel
theorem dX5_init_5 : decode cX5_init 5 = .ok (.sipush 300, 3) := by decide +kernel
theorem dX5_init_8 : decode cX5_init 8 = .ok (.newarray .int, 2) := by decide +kernel
theorem dX5_init_10 : decode cX5_init 10 = .ok (.putfield 9, 3) := by decide +kernel
theorem dX5_init_13 : decode cX5_init 13 = .ok (.aload_n 0, 1) := by decide +kernel
theorem dX5_init_14 : decode cX5_init 14 = .ok (.iconst 3, 1) := by decide +kernel
theorem dX5_init_15 : decode cX5_init 15 = .ok (.newarray .int, 2) := by decide +kernel
theorem dX5_init_17 : decode cX5_init 17 = .ok (.putfield 15, 3) := by decide +kernel
theorem dX5_init_20 : decode cX5_init 20 = .ok (.aload_n 0, 1) := by decide +kernel
theorem dX5_init_21 : decode cX5_init 21 = .ok (.iconst 3, 1) := by decide +kernel
theorem dX5_init_22 : decode cX5_init 22 = .ok (.newarray .int, 2) := by decide +kernel
theorem dX5_init_24 : decode cX5_init 24 = .ok (.putfield 18, 3) := by decide +kernel
theorem dX5_init_27 : decode cX5_init 27 = .ok (.aload_n 0, 1) := by decide +kernel
theorem dX5_init_28 : decode cX5_init 28 = .ok (.bipush 96, 2) := by decide +kernel
theorem dX5_init_30 : decode cX5_init 30 = .ok (.newarray .int, 2) := by decide +kernel
theorem dX5_init_32 : decode cX5_init 32 = .ok (.putfield 21, 3) := by decide +kernel
theorem dX5_init_35 : decode cX5_init 35 = .ok (.return_, 1) := by decide +kernel
set_option maxHeartbeats 4000000 in
set_option maxRecDepth 100000 in
theorem k_X5 (E : mE) (S : mS) (ht : kd0 E.1 = 5) : mCt μX5_init 1 4 402 (nE E 5 0) (nS E S) [.ref E.1] (mQx E S (E.1 + 5)) := by
  obtain ⟨t, kd, ln, rf⟩ := E
  have ht : kd0 t = 5 := ht
  have hk1 : kd0 (t + 1) = 10 := lk5_code ht
  have hl1 : ln0 (t + 1) = 300 := ll5_code ht
  have hk2 : kd0 (t + 2) = 10 := lk5_lawFrom ht
  have hl2 : ln0 (t + 2) = 3 := ll5_lawFrom ht
  have hk3 : kd0 (t + 3) = 10 := lk5_lawTo ht
  have hl3 : ln0 (t + 3) = 3 := ll5_lawTo ht
  have hk4 : kd0 (t + 4) = 10 := lk5_rows ht
  have hl4 : ln0 (t + 4) = 96 := ll5_rows ht
  have hl0 := ln5_0 ht
  refine mCt.of (by decide) (Nat.le_of_ble_eq_true rfl) ?_
  intro x
  refine mG.aload_n 0 dX5_init_0 rfl ?_
  refine mG.objInit dX5_init_1 wk3_11 (by decide) (Nat.le_of_ble_eq_true rfl) ?_
  refine mG.aload_n 0 dX5_init_4 rfl ?_
  refine mG.sipush (v := 300) dX5_init_5 (by decide) ?_
  refine mG.newI (N := 300) dX5_init_8 (by decide) (by decide) (by decide) (by decide) (by decide) ?_
  refine mG.putR dX5_init_10 mfX5_9 rfl rfl rfl (Or.inr ⟨_, rfl⟩) (by simp only [nE, pE, xE]; (repeat' split) <;> first | rfl | omega | (simp_all; done)) ?_
  refine mG.aload_n 0 dX5_init_13 rfl ?_
  refine mG.iconst (v := 3) dX5_init_14 rfl ?_
  refine mG.newI (N := 3) dX5_init_15 (by decide) (by decide) (by decide) (by decide) (by decide) ?_
  refine mG.putR dX5_init_17 mfX5_15 rfl rfl rfl (Or.inr ⟨_, rfl⟩) (by simp only [nE, pE, xE]; (repeat' split) <;> first | rfl | omega | (simp_all; done)) ?_
  refine mG.aload_n 0 dX5_init_20 rfl ?_
  refine mG.iconst (v := 3) dX5_init_21 rfl ?_
  refine mG.newI (N := 3) dX5_init_22 (by decide) (by decide) (by decide) (by decide) (by decide) ?_
  refine mG.putR dX5_init_24 mfX5_18 rfl rfl rfl (Or.inr ⟨_, rfl⟩) (by simp only [nE, pE, xE]; (repeat' split) <;> first | rfl | omega | (simp_all; done)) ?_
  refine mG.aload_n 0 dX5_init_27 rfl ?_
  refine mG.bipush (v := 96) dX5_init_28 (by decide) ?_
  refine mG.newI (N := 96) dX5_init_30 (by decide) (by decide) (by decide) (by decide) (by decide) ?_
  refine mG.putR dX5_init_32 mfX5_21 rfl rfl rfl (Or.inr ⟨_, rfl⟩) (by simp only [nE, pE, xE]; (repeat' split) <;> first | rfl | omega | (simp_all; done)) ?_
  refine mG.vret dX5_init_35 rfl ⟨mE_ext rfl ?_ ?_ ?_, mS_ext ?_ ?_, rfl⟩
  · intro u
    simp only [nE, pE, xE]
    repeat' split
    all_goals first | rfl | omega | (simp_all; done)
  · intro u
    simp only [nE, pE, xE]
    repeat' split
    all_goals first | rfl | omega | (simp_all; done)
  · intro u k
    simp only [nE, pE, xE, rf0]
    repeat' split
    all_goals first | rfl | omega | (simp_all [rfk]; done) | (simp_all [rfk]; omega) | (rename_i h1; simp_all [rfk]; split <;> first | rfl | omega | simp_all)
  · intro u k
    simp only [nE, pE, nS, xS, sI, s0]
    repeat' split
    all_goals first | rfl | omega | (simp_all; done) | (simp_all; omega)
  · intro u k
    simp only [nE, pE, nS, xS, sI]
    repeat' split
    all_goals first | rfl | omega | (simp_all; done)
theorem dX6_init_0 : decode cX6_init 0 = .ok (.aload_n 0, 1) := by decide +kernel
theorem dX6_init_1 : decode cX6_init 1 = .ok (.invokespecial 3, 3) := by decide +kernel
theorem dX6_init_4 : decode cX6_init 4 = .ok (.aload_n 0, 1) := by decide +kernel
theorem dX6_init_5 : decode cX6_init 5 = .ok (.bipush 7, 2) := by decide +kernel
theorem dX6_init_7 : decode cX6_init 7 = .ok (.newarray .int, 2) := by decide +kernel
theorem dX6_init_9 : decode cX6_init 9 = .ok (.putfield 9, 3) := by decide +kernel
theorem dX6_init_12 : decode cX6_init 12 = .ok (.aload_n 0, 1) := by decide +kernel
theorem dX6_init_13 : decode cX6_init 13 = .ok (.bipush 7, 2) := by decide +kernel
theorem dX6_init_15 : decode cX6_init 15 = .ok (.newarray .int, 2) := by decide +kernel
theorem dX6_init_17 : decode cX6_init 17 = .ok (.putfield 15, 3) := by decide +kernel
theorem dX6_init_20 : decode cX6_init 20 = .ok (.aload_n 0, 1) := by decide +kernel
theorem dX6_init_21 : decode cX6_init 21 = .ok (.bipush 7, 2) := by decide +kernel
theorem dX6_init_23 : decode cX6_init 23 = .ok (.newarray .int, 2) := by decide +kernel
theorem dX6_init_25 : decode cX6_init 25 = .ok (.putfield 18, 3) := by decide +kernel
theorem dX6_init_28 : decode cX6_init 28 = .ok (.aload_n 0, 1) := by decide +kernel
theorem dX6_init_29 : decode cX6_init 29 = .ok (.bipush 40, 2) := by decide +kernel
theorem dX6_init_31 : decode cX6_init 31 = .ok (.newarray .int, 2) := by decide +kernel
theorem dX6_init_33 : decode cX6_init 33 = .ok (.putfield 21, 3) := by decide +kernel
theorem dX6_init_36 : decode cX6_init 36 = .ok (.aload_n 0, 1) := by decide +kernel
theorem dX6_init_37 : decode cX6_init 37 = .ok (.sipush 131, 3) := by decide +kernel
theorem dX6_init_40 : decode cX6_init 40 = .ok (.putfield 24, 3) := by decide +kernel
theorem dX6_init_43 : decode cX6_init 43 = .ok (.return_, 1) := by decide +kernel
set_option maxHeartbeats 4000000 in
set_option maxRecDepth 100000 in
theorem k_X6 (E : mE) (S : mS) (ht : kd0 E.1 = 6) : mCt μX6_init 1 4 61 (nE E 6 0) (nS E S) [.ref E.1] (mQx E S (E.1 + 5)) := by
  obtain ⟨t, kd, ln, rf⟩ := E
  have ht : kd0 t = 6 := ht
  have hk1 : kd0 (t + 1) = 10 := lk6_shut ht
  have hl1 : ln0 (t + 1) = 7 := ll6_shut ht
  have hk2 : kd0 (t + 2) = 10 := lk6_purse ht
  have hl2 : ln0 (t + 2) = 7 := ll6_purse ht
  have hk3 : kd0 (t + 3) = 10 := lk6_friends ht
  have hl3 : ln0 (t + 3) = 7 := ll6_friends ht
  have hk4 : kd0 (t + 4) = 10 := lk6_knocked ht
  have hl4 : ln0 (t + 4) = 40 := ll6_knocked ht
  have hl0 := ln6_0 ht
  refine mCt.of (by decide) (Nat.le_of_ble_eq_true rfl) ?_
  intro x
  refine mG.aload_n 0 dX6_init_0 rfl ?_
  refine mG.objInit dX6_init_1 wk4_12 (by decide) (Nat.le_of_ble_eq_true rfl) ?_
  refine mG.aload_n 0 dX6_init_4 rfl ?_
  refine mG.bipush (v := 7) dX6_init_5 (by decide) ?_
  refine mG.newI (N := 7) dX6_init_7 (by decide) (by decide) (by decide) (by decide) (by decide) ?_
  refine mG.putR dX6_init_9 mfX6_9 rfl rfl rfl (Or.inr ⟨_, rfl⟩) (by simp only [nE, pE, xE]; (repeat' split) <;> first | rfl | omega | (simp_all; done)) ?_
  refine mG.aload_n 0 dX6_init_12 rfl ?_
  refine mG.bipush (v := 7) dX6_init_13 (by decide) ?_
  refine mG.newI (N := 7) dX6_init_15 (by decide) (by decide) (by decide) (by decide) (by decide) ?_
  refine mG.putR dX6_init_17 mfX6_15 rfl rfl rfl (Or.inr ⟨_, rfl⟩) (by simp only [nE, pE, xE]; (repeat' split) <;> first | rfl | omega | (simp_all; done)) ?_
  refine mG.aload_n 0 dX6_init_20 rfl ?_
  refine mG.bipush (v := 7) dX6_init_21 (by decide) ?_
  refine mG.newI (N := 7) dX6_init_23 (by decide) (by decide) (by decide) (by decide) (by decide) ?_
  refine mG.putR dX6_init_25 mfX6_18 rfl rfl rfl (Or.inr ⟨_, rfl⟩) (by simp only [nE, pE, xE]; (repeat' split) <;> first | rfl | omega | (simp_all; done)) ?_
  refine mG.aload_n 0 dX6_init_28 rfl ?_
  refine mG.bipush (v := 40) dX6_init_29 (by decide) ?_
  refine mG.newI (N := 40) dX6_init_31 (by decide) (by decide) (by decide) (by decide) (by decide) ?_
  refine mG.putR dX6_init_33 mfX6_21 rfl rfl rfl (Or.inr ⟨_, rfl⟩) (by simp only [nE, pE, xE]; (repeat' split) <;> first | rfl | omega | (simp_all; done)) ?_
  refine mG.aload_n 0 dX6_init_36 rfl ?_
  refine mG.sipush (v := 131) dX6_init_37 (by decide) ?_
  refine mG.putI dX6_init_40 mfX6_24 rfl (Or.inl rfl) (by simp only [nE, pE, xE]; (repeat' split) <;> first | rfl | omega | (simp_all; done)) rfl ?_
  refine mG.vret dX6_init_43 rfl ⟨mE_ext rfl ?_ ?_ ?_, mS_ext ?_ ?_, rfl⟩
  · intro u
    simp only [nE, pE, xE]
    repeat' split
    all_goals first | rfl | omega | (simp_all; done)
  · intro u
    simp only [nE, pE, xE]
    repeat' split
    all_goals first | rfl | omega | (simp_all; done)
  · intro u k
    simp only [nE, pE, xE, rf0]
    repeat' split
    all_goals first | rfl | omega | (simp_all [rfk]; done) | (simp_all [rfk]; omega) | (rename_i h1; simp_all [rfk]; split <;> first | rfl | omega | simp_all)
  · intro u k
    simp only [nE, pE, nS, xS, sI, s0]
    repeat' split
    all_goals first | rfl | omega | (simp_all; done) | (simp_all; omega)
  · intro u k
    simp only [nE, pE, nS, xS, sI]
    repeat' split
    all_goals first | rfl | omega | (simp_all; done)
theorem dX4_init_0 : decode cX4_init 0 = .ok (.aload_n 0, 1) := by decide +kernel
theorem dX4_init_1 : decode cX4_init 1 = .ok (.invokespecial 3, 3) := by decide +kernel
theorem dX4_init_4 : decode cX4_init 4 = .ok (.aload_n 0, 1) := by decide +kernel
theorem dX4_init_5 : decode cX4_init 5 = .ok (.new 9, 3) := by decide +kernel
theorem dX4_init_8 : decode cX4_init 8 = .ok (.dup, 1) := by decide +kernel
theorem dX4_init_9 : decode cX4_init 9 = .ok (.invokespecial 11, 3) := by decide +kernel
theorem dX4_init_12 : decode cX4_init 12 = .ok (.putfield 12, 3) := by decide +kernel
theorem dX4_init_15 : decode cX4_init 15 = .ok (.aload_n 0, 1) := by decide +kernel
theorem dX4_init_16 : decode cX4_init 16 = .ok (.iconst (-1), 1) := by decide +kernel
theorem dX4_init_17 : decode cX4_init 17 = .ok (.putfield 18, 3) := by decide +kernel
theorem dX4_init_20 : decode cX4_init 20 = .ok (.aload_n 0, 1) := by decide +kernel
theorem dX4_init_21 : decode cX4_init 21 = .ok (.sipush 301, 3) := by decide +kernel
theorem dX4_init_24 : decode cX4_init 24 = .ok (.newarray .int, 2) := by decide +kernel
theorem dX4_init_26 : decode cX4_init 26 = .ok (.putfield 22, 3) := by decide +kernel
theorem dX4_init_29 : decode cX4_init 29 = .ok (.aload_n 0, 1) := by decide +kernel
theorem dX4_init_30 : decode cX4_init 30 = .ok (.sipush 301, 3) := by decide +kernel
theorem dX4_init_33 : decode cX4_init 33 = .ok (.newarray .int, 2) := by decide +kernel
theorem dX4_init_35 : decode cX4_init 35 = .ok (.putfield 26, 3) := by decide +kernel
theorem dX4_init_38 : decode cX4_init 38 = .ok (.aload_n 0, 1) := by decide +kernel
theorem dX4_init_39 : decode cX4_init 39 = .ok (.sipush 301, 3) := by decide +kernel
theorem dX4_init_42 : decode cX4_init 42 = .ok (.newarray .int, 2) := by decide +kernel
theorem dX4_init_44 : decode cX4_init 44 = .ok (.putfield 29, 3) := by decide +kernel
theorem dX4_init_47 : decode cX4_init 47 = .ok (.return_, 1) := by decide +kernel
set_option maxHeartbeats 4000000 in
set_option maxRecDepth 100000 in
theorem k_X4 (E : mE) (S : mS) (ht : kd0 E.1 = 4) : mCt μX4_init 2 8 1311 (nE E 4 0) (nS E S) [.ref E.1] (mQx E S (E.1 + 9)) := by
  obtain ⟨t, kd, ln, rf⟩ := E
  have ht : kd0 t = 4 := ht
  have hk1 : kd0 (t + 1) = 5 := lk4_draft ht
  have hl0 := ln4_0 ht
  have hk6 : kd0 (t + 6) = 10 := lk4_kinds ht
  have hl6 : ln0 (t + 6) = 301 := ll4_kinds ht
  have hk7 : kd0 (t + 7) = 10 := lk4_places ht
  have hl7 : ln0 (t + 7) = 301 := ll4_places ht
  have hk8 : kd0 (t + 8) = 10 := lk4_values ht
  have hl8 : ln0 (t + 8) = 301 := ll4_values ht
  refine mCt.of (by decide) (Nat.le_of_ble_eq_true rfl) ?_
  intro x
  refine mG.aload_n 0 dX4_init_0 rfl ?_
  refine mG.objInit dX4_init_1 wk3_2 (by decide) (Nat.le_of_ble_eq_true rfl) ?_
  refine mG.aload_n 0 dX4_init_4 rfl ?_
  refine mG.new (ci := 5) dX4_init_5 (by decide) wk3_3 wk1_20 wk1_21 (by decide) (by decide) ?_
  refine mG.dup dX4_init_8 rfl ?_
  refine mG.callIN (as := []) (st := [.ref (t + 1), .ref t]) dX4_init_9 mbX5_init rfl ⟨rfl, wk3_9⟩ (List.mem_of_getElem? (i := 8) rfl) rfl rfl (by decide) (by decide) (by decide) (Nat.le_of_ble_eq_true rfl) (k_X5 (nE (t, kd, ln, rf) 4 0) _ hk1) (fun E2 S2 r h => by rw [h.1]; simp only [xE, nE, pE] <;> omega) (fun E2 S2 r h => ?_)
  obtain ⟨rfl, rfl, rfl⟩ := h
  refine mG.putR dX4_init_12 mfX4_12 rfl rfl rfl (Or.inl ⟨_, rfl⟩) (by simp only [nE, pE, xE]; (repeat' split) <;> first | rfl | omega | (simp_all; done)) ?_
  refine mG.aload_n 0 dX4_init_15 rfl ?_
  refine mG.iconst (v := (-1)) dX4_init_16 rfl ?_
  refine mG.putI dX4_init_17 mfX4_18 rfl (Or.inl rfl) (by simp only [nE, pE, xE]; (repeat' split) <;> first | rfl | omega | (simp_all; done)) rfl ?_
  refine mG.aload_n 0 dX4_init_20 rfl ?_
  refine mG.sipush (v := 301) dX4_init_21 (by decide) ?_
  refine mG.newI (N := 301) dX4_init_24 (by decide) (by decide) (by decide) (by decide) (by decide) ?_
  refine mG.putR dX4_init_26 mfX4_22 rfl rfl rfl (Or.inr ⟨_, rfl⟩) (by simp only [nE, pE, xE]; (repeat' split) <;> first | rfl | omega | (simp_all; done)) ?_
  refine mG.aload_n 0 dX4_init_29 rfl ?_
  refine mG.sipush (v := 301) dX4_init_30 (by decide) ?_
  refine mG.newI (N := 301) dX4_init_33 (by decide) (by decide) (by decide) (by decide) (by decide) ?_
  refine mG.putR dX4_init_35 mfX4_26 rfl rfl rfl (Or.inr ⟨_, rfl⟩) (by simp only [nE, pE, xE]; (repeat' split) <;> first | rfl | omega | (simp_all; done)) ?_
  refine mG.aload_n 0 dX4_init_38 rfl ?_
  refine mG.sipush (v := 301) dX4_init_39 (by decide) ?_
  refine mG.newI (N := 301) dX4_init_42 (by decide) (by decide) (by decide) (by decide) (by decide) ?_
  refine mG.putR dX4_init_44 mfX4_29 rfl rfl rfl (Or.inr ⟨_, rfl⟩) (by simp only [nE, pE, xE]; (repeat' split) <;> first | rfl | omega | (simp_all; done)) ?_
  refine mG.vret dX4_init_47 rfl ⟨mE_ext rfl ?_ ?_ ?_, mS_ext ?_ ?_, rfl⟩
  · intro u
    simp only [nE, pE, xE]
    repeat' split
    all_goals first | rfl | omega | (simp_all; done)
  · intro u
    simp only [nE, pE, xE]
    repeat' split
    all_goals first | rfl | omega | (simp_all; done)
  · intro u k
    simp only [nE, pE, xE, rf0]
    repeat' split
    all_goals first | rfl | omega | (simp_all [rfk]; done) | (simp_all [rfk]; omega) | (rename_i h1; simp_all [rfk]; split <;> first | rfl | omega | simp_all)
  · intro u k
    simp only [nE, pE, nS, xS, sI, s0, xE]
    repeat' split
    all_goals first | rfl | omega | (simp_all; done) | (simp_all; omega)
  · intro u k
    simp only [nE, pE, nS, xS, sI, xE]
    repeat' split
    all_goals first | rfl | omega | (simp_all; done)
