theorem dX6_returnTo_0 : decode cX6_returnTo 0 = .ok (.bipush 7, 2) := by decide +kernel
theorem dX6_returnTo_2 : decode cX6_returnTo 2 = .ok (.aload_n 1, 1) := by decide +kernel
theorem dX6_returnTo_3 : decode cX6_returnTo 3 = .ok (.getfield 32, 3) := by decide +kernel
theorem dX6_returnTo_6 : decode cX6_returnTo 6 = .ok (.invokestatic 35, 3) := by decide +kernel
theorem dX6_returnTo_9 : decode cX6_returnTo 9 = .ok (.istore_n 2, 1) := by decide +kernel
theorem dX6_returnTo_10 : decode cX6_returnTo 10 = .ok (.aload_n 1, 1) := by decide +kernel
theorem dX6_returnTo_11 : decode cX6_returnTo 11 = .ok (.getfield 9, 3) := by decide +kernel
theorem dX6_returnTo_14 : decode cX6_returnTo 14 = .ok (.iconst 0, 1) := by decide +kernel
theorem dX6_returnTo_15 : decode cX6_returnTo 15 = .ok (.aload_n 0, 1) := by decide +kernel
theorem dX6_returnTo_16 : decode cX6_returnTo 16 = .ok (.getfield 9, 3) := by decide +kernel
theorem dX6_returnTo_19 : decode cX6_returnTo 19 = .ok (.iconst 0, 1) := by decide +kernel
theorem dX6_returnTo_20 : decode cX6_returnTo 20 = .ok (.iload_n 2, 1) := by decide +kernel
theorem dX6_returnTo_21 : decode cX6_returnTo 21 = .ok (.invokestatic 41, 3) := by decide +kernel
theorem dX6_returnTo_24 : decode cX6_returnTo 24 = .ok (.aload_n 1, 1) := by decide +kernel
theorem dX6_returnTo_25 : decode cX6_returnTo 25 = .ok (.getfield 15, 3) := by decide +kernel
theorem dX6_returnTo_28 : decode cX6_returnTo 28 = .ok (.iconst 0, 1) := by decide +kernel
theorem dX6_returnTo_29 : decode cX6_returnTo 29 = .ok (.aload_n 0, 1) := by decide +kernel
theorem dX6_returnTo_30 : decode cX6_returnTo 30 = .ok (.getfield 15, 3) := by decide +kernel
theorem dX6_returnTo_33 : decode cX6_returnTo 33 = .ok (.iconst 0, 1) := by decide +kernel
theorem dX6_returnTo_34 : decode cX6_returnTo 34 = .ok (.iload_n 2, 1) := by decide +kernel
theorem dX6_returnTo_35 : decode cX6_returnTo 35 = .ok (.invokestatic 41, 3) := by decide +kernel
theorem dX6_returnTo_38 : decode cX6_returnTo 38 = .ok (.aload_n 1, 1) := by decide +kernel
theorem dX6_returnTo_39 : decode cX6_returnTo 39 = .ok (.getfield 18, 3) := by decide +kernel
theorem dX6_returnTo_42 : decode cX6_returnTo 42 = .ok (.iconst 0, 1) := by decide +kernel
theorem dX6_returnTo_43 : decode cX6_returnTo 43 = .ok (.aload_n 0, 1) := by decide +kernel
theorem dX6_returnTo_44 : decode cX6_returnTo 44 = .ok (.getfield 18, 3) := by decide +kernel
theorem dX6_returnTo_47 : decode cX6_returnTo 47 = .ok (.iconst 0, 1) := by decide +kernel
theorem dX6_returnTo_48 : decode cX6_returnTo 48 = .ok (.iload_n 2, 1) := by decide +kernel
theorem dX6_returnTo_49 : decode cX6_returnTo 49 = .ok (.invokestatic 41, 3) := by decide +kernel
theorem dX6_returnTo_52 : decode cX6_returnTo 52 = .ok (.aload_n 1, 1) := by decide +kernel
theorem dX6_returnTo_53 : decode cX6_returnTo 53 = .ok (.getfield 21, 3) := by decide +kernel
theorem dX6_returnTo_56 : decode cX6_returnTo 56 = .ok (.iconst 0, 1) := by decide +kernel
theorem dX6_returnTo_57 : decode cX6_returnTo 57 = .ok (.aload_n 0, 1) := by decide +kernel
theorem dX6_returnTo_58 : decode cX6_returnTo 58 = .ok (.getfield 21, 3) := by decide +kernel
theorem dX6_returnTo_61 : decode cX6_returnTo 61 = .ok (.iconst 0, 1) := by decide +kernel
theorem dX6_returnTo_62 : decode cX6_returnTo 62 = .ok (.bipush 40, 2) := by decide +kernel
theorem dX6_returnTo_64 : decode cX6_returnTo 64 = .ok (.invokestatic 41, 3) := by decide +kernel
theorem dX6_returnTo_67 : decode cX6_returnTo 67 = .ok (.aload_n 0, 1) := by decide +kernel
theorem dX6_returnTo_68 : decode cX6_returnTo 68 = .ok (.aload_n 1, 1) := by decide +kernel
theorem dX6_returnTo_69 : decode cX6_returnTo 69 = .ok (.getfield 47, 3) := by decide +kernel
theorem dX6_returnTo_72 : decode cX6_returnTo 72 = .ok (.putfield 47, 3) := by decide +kernel
theorem dX6_returnTo_75 : decode cX6_returnTo 75 = .ok (.aload_n 0, 1) := by decide +kernel
theorem dX6_returnTo_76 : decode cX6_returnTo 76 = .ok (.aload_n 1, 1) := by decide +kernel
theorem dX6_returnTo_77 : decode cX6_returnTo 77 = .ok (.getfield 50, 3) := by decide +kernel
theorem dX6_returnTo_80 : decode cX6_returnTo 80 = .ok (.putfield 50, 3) := by decide +kernel
theorem dX6_returnTo_83 : decode cX6_returnTo 83 = .ok (.aload_n 0, 1) := by decide +kernel
theorem dX6_returnTo_84 : decode cX6_returnTo 84 = .ok (.aload_n 1, 1) := by decide +kernel
theorem dX6_returnTo_85 : decode cX6_returnTo 85 = .ok (.getfield 53, 3) := by decide +kernel
theorem dX6_returnTo_88 : decode cX6_returnTo 88 = .ok (.putfield 53, 3) := by decide +kernel
theorem dX6_returnTo_91 : decode cX6_returnTo 91 = .ok (.aload_n 0, 1) := by decide +kernel
theorem dX6_returnTo_92 : decode cX6_returnTo 92 = .ok (.aload_n 1, 1) := by decide +kernel
theorem dX6_returnTo_93 : decode cX6_returnTo 93 = .ok (.getfield 24, 3) := by decide +kernel
theorem dX6_returnTo_96 : decode cX6_returnTo 96 = .ok (.putfield 24, 3) := by decide +kernel
theorem dX6_returnTo_99 : decode cX6_returnTo 99 = .ok (.return_, 1) := by decide +kernel
def f_X6_returnTo (F : Nat) (S : mS) (t : Nat) (a1 : Nat) : Option mS := ck (cpo (0 : Int32) (0 : Int32) (imin (7 : Int32) (S.1 a1 5)) 7 7) (stp (sC S (a1 + 1) (t + 1) (0 : Int32).toNatClampNeg (0 : Int32).toNatClampNeg (imin (7 : Int32) (S.1 a1 5)).toNatClampNeg) fun S2 => ck (cpo (0 : Int32) (0 : Int32) (imin (7 : Int32) (S.1 a1 5)) 7 7) (stp (sC S2 (a1 + 2) (t + 2) (0 : Int32).toNatClampNeg (0 : Int32).toNatClampNeg (imin (7 : Int32) (S.1 a1 5)).toNatClampNeg) fun S4 => ck (cpo (0 : Int32) (0 : Int32) (imin (7 : Int32) (S.1 a1 5)) 7 7) (stp (sC S4 (a1 + 3) (t + 3) (0 : Int32).toNatClampNeg (0 : Int32).toNatClampNeg (imin (7 : Int32) (S.1 a1 5)).toNatClampNeg) fun S6 => ck (cpo (0 : Int32) (0 : Int32) (40 : Int32) 40 40) (stp (sC S6 (a1 + 4) (t + 4) (0 : Int32).toNatClampNeg (0 : Int32).toNatClampNeg (40 : Int32).toNatClampNeg) fun S8 => stp (sI S8 t 4 (S8.1 a1 4)) fun S9 => stp (sI S9 t 6 (S9.1 a1 6)) fun S10 => stp (sI S10 t 7 (S10.1 a1 7)) fun S11 => stp (sI S11 t 8 (S11.1 a1 8)) fun S12 => some S12))))
set_option maxHeartbeats 4000000 in
set_option maxRecDepth 100000 in
theorem c_X6_returnTo {F : Nat} {S : mS} {t : Nat} {a1 : Nat} {R : mS} (ht : kd0 t = 6) (ha1 : kd0 a1 = 6) (h : f_X6_returnTo F S t a1 = some R) : mCt μX6_returnTo 1 0 0 E0 S [.ref (t), .ref (a1)] (mQe R none) := by
  unfold f_X6_returnTo at h
  refine mCt.of (by decide) (Nat.le_of_ble_eq_true rfl) ?_
  refine mG.bipush (v := 7) dX6_returnTo_0 (by decide) ?_
  refine mG.aload_n 1 dX6_returnTo_2 rfl ?_
  refine mG.get (v := .int (S.1 a1 5)) dX6_returnTo_3 mfX6_32 ha1 rfl ?_
  refine mG.mmin dX6_returnTo_6 wk28_10 (by decide) (Nat.le_of_ble_eq_true rfl) (Nat.le_refl _) (Nat.le_refl _) ?_
  refine mG.istore_n (lv2 := [(2, .int (imin (7 : Int32) (S.1 a1 5))), (0, .ref (t)), (1, .ref (a1))]) dX6_returnTo_9 rfl (by decide) rfl ?_
  refine mG.aload_n 2 dX6_returnTo_10 rfl ?_
  refine mG.get (v := .ref (a1 + 1)) dX6_returnTo_11 mfX6_9 ha1 (lr6_shut ha1) ?_
  refine mG.iconst (v := 0) dX6_returnTo_14 rfl ?_
  refine mG.aload_n 1 dX6_returnTo_15 rfl ?_
  refine mG.get (v := .ref (t + 1)) dX6_returnTo_16 mfX6_9 ht (lr6_shut ht) ?_
  refine mG.iconst (v := 0) dX6_returnTo_19 rfl ?_
  refine mG.iload_n 0 dX6_returnTo_20 rfl ?_
  obtain ⟨b1, h⟩ := ckp h
  obtain ⟨S2, hS2, h⟩ := stpp h
  refine mG.acopy dX6_returnTo_21 wk28_11 (by decide) (Nat.le_of_ble_eq_true rfl) (lk6_shut ha1) (lk6_shut ht) (cpop b1).1 (cpop b1).2.1 (cpop b1).2.2.1 (by rw [show E0.2.2.1 _ = _ from (ll6_shut ha1)]; exact (cpop b1).2.2.2.1) (by rw [show E0.2.2.1 _ = _ from (ll6_shut ht)]; exact (cpop b1).2.2.2.2) hS2 ?_
  refine mG.aload_n 2 dX6_returnTo_24 rfl ?_
  refine mG.get (v := .ref (a1 + 2)) dX6_returnTo_25 mfX6_15 ha1 (lr6_purse ha1) ?_
  refine mG.iconst (v := 0) dX6_returnTo_28 rfl ?_
  refine mG.aload_n 1 dX6_returnTo_29 rfl ?_
  refine mG.get (v := .ref (t + 2)) dX6_returnTo_30 mfX6_15 ht (lr6_purse ht) ?_
  refine mG.iconst (v := 0) dX6_returnTo_33 rfl ?_
  refine mG.iload_n 0 dX6_returnTo_34 rfl ?_
  obtain ⟨b3, h⟩ := ckp h
  obtain ⟨S4, hS4, h⟩ := stpp h
  refine mG.acopy dX6_returnTo_35 wk28_11 (by decide) (Nat.le_of_ble_eq_true rfl) (lk6_purse ha1) (lk6_purse ht) (cpop b3).1 (cpop b3).2.1 (cpop b3).2.2.1 (by rw [show E0.2.2.1 _ = _ from (ll6_purse ha1)]; exact (cpop b3).2.2.2.1) (by rw [show E0.2.2.1 _ = _ from (ll6_purse ht)]; exact (cpop b3).2.2.2.2) hS4 ?_
  refine mG.aload_n 2 dX6_returnTo_38 rfl ?_
  refine mG.get (v := .ref (a1 + 3)) dX6_returnTo_39 mfX6_18 ha1 (lr6_friends ha1) ?_
  refine mG.iconst (v := 0) dX6_returnTo_42 rfl ?_
  refine mG.aload_n 1 dX6_returnTo_43 rfl ?_
  refine mG.get (v := .ref (t + 3)) dX6_returnTo_44 mfX6_18 ht (lr6_friends ht) ?_
  refine mG.iconst (v := 0) dX6_returnTo_47 rfl ?_
  refine mG.iload_n 0 dX6_returnTo_48 rfl ?_
  obtain ⟨b5, h⟩ := ckp h
  obtain ⟨S6, hS6, h⟩ := stpp h
  refine mG.acopy dX6_returnTo_49 wk28_11 (by decide) (Nat.le_of_ble_eq_true rfl) (lk6_friends ha1) (lk6_friends ht) (cpop b5).1 (cpop b5).2.1 (cpop b5).2.2.1 (by rw [show E0.2.2.1 _ = _ from (ll6_friends ha1)]; exact (cpop b5).2.2.2.1) (by rw [show E0.2.2.1 _ = _ from (ll6_friends ht)]; exact (cpop b5).2.2.2.2) hS6 ?_
  refine mG.aload_n 2 dX6_returnTo_52 rfl ?_
  refine mG.get (v := .ref (a1 + 4)) dX6_returnTo_53 mfX6_21 ha1 (lr6_knocked ha1) ?_
  refine mG.iconst (v := 0) dX6_returnTo_56 rfl ?_
  refine mG.aload_n 1 dX6_returnTo_57 rfl ?_
  refine mG.get (v := .ref (t + 4)) dX6_returnTo_58 mfX6_21 ht (lr6_knocked ht) ?_
  refine mG.iconst (v := 0) dX6_returnTo_61 rfl ?_
  refine mG.bipush (v := 40) dX6_returnTo_62 (by decide) ?_
  obtain ⟨b7, h⟩ := ckp h
  obtain ⟨S8, hS8, h⟩ := stpp h
  refine mG.acopy dX6_returnTo_64 wk28_11 (by decide) (Nat.le_of_ble_eq_true rfl) (lk6_knocked ha1) (lk6_knocked ht) (cpop b7).1 (cpop b7).2.1 (cpop b7).2.2.1 (by rw [show E0.2.2.1 _ = _ from (ll6_knocked ha1)]; exact (cpop b7).2.2.2.1) (by rw [show E0.2.2.1 _ = _ from (ll6_knocked ht)]; exact (cpop b7).2.2.2.2) hS8 ?_
  refine mG.aload_n 1 dX6_returnTo_67 rfl ?_
  refine mG.aload_n 2 dX6_returnTo_68 rfl ?_
  refine mG.get (v := .int (S8.1 a1 4)) dX6_returnTo_69 mfX6_47 ha1 rfl ?_
  obtain ⟨S9, hS9, h⟩ := stpp h
  refine mG.putI dX6_returnTo_72 mfX6_47 rfl (Or.inl rfl) ht hS9 ?_
  refine mG.aload_n 1 dX6_returnTo_75 rfl ?_
  refine mG.aload_n 2 dX6_returnTo_76 rfl ?_
  refine mG.get (v := .int (S9.1 a1 6)) dX6_returnTo_77 mfX6_50 ha1 rfl ?_
  obtain ⟨S10, hS10, h⟩ := stpp h
  refine mG.putI dX6_returnTo_80 mfX6_50 rfl (Or.inl rfl) ht hS10 ?_
  refine mG.aload_n 1 dX6_returnTo_83 rfl ?_
  refine mG.aload_n 2 dX6_returnTo_84 rfl ?_
  refine mG.get (v := .int (S10.1 a1 7)) dX6_returnTo_85 mfX6_53 ha1 rfl ?_
  obtain ⟨S11, hS11, h⟩ := stpp h
  refine mG.putI dX6_returnTo_88 mfX6_53 rfl (Or.inl rfl) ht hS11 ?_
  refine mG.aload_n 1 dX6_returnTo_91 rfl ?_
  refine mG.aload_n 2 dX6_returnTo_92 rfl ?_
  refine mG.get (v := .int (S11.1 a1 8)) dX6_returnTo_93 mfX6_24 ha1 rfl ?_
  obtain ⟨S12, hS12, h⟩ := stpp h
  refine mG.putI dX6_returnTo_96 mfX6_24 rfl (Or.inl rfl) ht hS12 ?_
  obtain rfl := Option.some.inj h
  exact mG.vret dX6_returnTo_99 rfl ⟨rfl, rfl, rfl⟩
theorem dX6_copyFrom_0 : decode cX6_copyFrom 0 = .ok (.aload_n 0, 1) := by decide +kernel
theorem dX6_copyFrom_1 : decode cX6_copyFrom 1 = .ok (.aload_n 1, 1) := by decide +kernel
theorem dX6_copyFrom_2 : decode cX6_copyFrom 2 = .ok (.invokevirtual 28, 3) := by decide +kernel
theorem dX6_copyFrom_5 : decode cX6_copyFrom 5 = .ok (.aload_n 0, 1) := by decide +kernel
theorem dX6_copyFrom_6 : decode cX6_copyFrom 6 = .ok (.aload_n 1, 1) := by decide +kernel
theorem dX6_copyFrom_7 : decode cX6_copyFrom 7 = .ok (.getfield 32, 3) := by decide +kernel
theorem dX6_copyFrom_10 : decode cX6_copyFrom 10 = .ok (.putfield 32, 3) := by decide +kernel
theorem dX6_copyFrom_13 : decode cX6_copyFrom 13 = .ok (.return_, 1) := by decide +kernel
def f_X6_copyFrom (F : Nat) (S : mS) (t : Nat) (a1 : Nat) : Option mS := bd (f_X6_returnTo F S t a1) fun q1 => stp (sI q1 t 5 (q1.1 a1 5)) fun S2 => some S2
set_option maxHeartbeats 4000000 in
set_option maxRecDepth 100000 in
theorem c_X6_copyFrom {F : Nat} {S : mS} {t : Nat} {a1 : Nat} {R : mS} (ht : kd0 t = 6) (ha1 : kd0 a1 = 6) (h : f_X6_copyFrom F S t a1 = some R) : mCt μX6_copyFrom 2 0 0 E0 S [.ref (t), .ref (a1)] (mQe R none) := by
  unfold f_X6_copyFrom at h
  refine mCt.of (by decide) (Nat.le_of_ble_eq_true rfl) ?_
  refine mG.aload_n 0 dX6_copyFrom_0 rfl ?_
  refine mG.aload_n 1 dX6_copyFrom_1 rfl ?_
  obtain ⟨q1, hq1, h⟩ := bdp h
  refine mG.callV0 (as := [.ref (a1)]) (st := []) (S2 := q1) (r := none) dX6_copyFrom_2 mvX6_returnTo wk28_6 rfl ht rfl (by decide) (Nat.le_of_ble_eq_true rfl) (c_X6_returnTo ht ha1 hq1) ?_
  refine mG.aload_n 0 dX6_copyFrom_5 rfl ?_
  refine mG.aload_n 1 dX6_copyFrom_6 rfl ?_
  refine mG.get (v := .int (q1.1 a1 5)) dX6_copyFrom_7 mfX6_32 ha1 rfl ?_
  obtain ⟨S2, hS2, h⟩ := stpp h
  refine mG.putI dX6_copyFrom_10 mfX6_32 rfl (Or.inl rfl) ht hS2 ?_
  obtain rfl := Option.some.inj h
  exact mG.vret dX6_copyFrom_13 rfl ⟨rfl, rfl, rfl⟩
theorem dX6_told_0 : decode cX6_told 0 = .ok (.iload_n 1, 1) := by decide +kernel
theorem dX6_told_1 : decode cX6_told 1 = .ok (.ifCond .lt 21, 3) := by decide +kernel
theorem dX6_told_4 : decode cX6_told 4 = .ok (.iload_n 1, 1) := by decide +kernel
theorem dX6_told_5 : decode cX6_told 5 = .ok (.aload_n 0, 1) := by decide +kernel
theorem dX6_told_6 : decode cX6_told 6 = .ok (.getfield 32, 3) := by decide +kernel
theorem dX6_told_9 : decode cX6_told 9 = .ok (.if_icmp .ge 13, 3) := by decide +kernel
theorem dX6_told_12 : decode cX6_told 12 = .ok (.iload_n 1, 1) := by decide +kernel
theorem dX6_told_13 : decode cX6_told 13 = .ok (.bipush 7, 2) := by decide +kernel
theorem dX6_told_15 : decode cX6_told 15 = .ok (.if_icmp .ge 7, 3) := by decide +kernel
theorem dX6_told_18 : decode cX6_told 18 = .ok (.iconst 1, 1) := by decide +kernel
theorem dX6_told_19 : decode cX6_told 19 = .ok (.goto 4, 3) := by decide +kernel
theorem dX6_told_22 : decode cX6_told 22 = .ok (.iconst 0, 1) := by decide +kernel
theorem dX6_told_23 : decode cX6_told 23 = .ok (.ireturn, 1) := by decide +kernel
def f_X6_told (S0 : mS) (t : Nat) (a1 : Int32) : Bool := if a1 < 0 then (false) else (if (S0.1 t 5) ≤ a1 then (false) else (if (7 : Int32) ≤ a1 then (false) else (true)))
set_option maxHeartbeats 4000000 in
set_option maxRecDepth 100000 in
theorem c_X6_told {S0 : mS} {t : Nat} {a1 : Int32} {R : Bool} (ht : kd0 t = 6) (h : f_X6_told S0 t a1 = R) : mCt μX6_told 1 0 0 E0 S0 [.ref (t), .int (a1)] (mQe S0 (some (.int (bI R)))) := by
  unfold f_X6_told at h
  refine mCt.of (by decide) (Nat.le_of_ble_eq_true rfl) ?_
  refine mG.iload_n 1 dX6_told_0 rfl ?_
  refine mG.if_lt 22 dX6_told_1 (by decide) (fun c3 => ?_) (fun c3 => ?_)
  · replace h := itp c3 h
    refine mG.iconst (v := 0) dX6_told_22 rfl ?_
    subst h
    exact mG.zret (b := false) dX6_told_23 rfl rfl ⟨rfl, rfl, rfl⟩
  · replace h := itn c3 h
    refine mG.iload_n 1 dX6_told_4 rfl ?_
    refine mG.aload_n 0 dX6_told_5 rfl ?_
    refine mG.get (v := .int (S0.1 t 5)) dX6_told_6 mfX6_32 ht rfl ?_
    refine mG.icmp_ge 22 dX6_told_9 (by decide) (fun c2 => ?_) (fun c2 => ?_)
    · replace h := itp c2 h
      refine mG.iconst (v := 0) dX6_told_22 rfl ?_
      subst h
      exact mG.zret (b := false) dX6_told_23 rfl rfl ⟨rfl, rfl, rfl⟩
    · replace h := itn c2 h
      refine mG.iload_n 1 dX6_told_12 rfl ?_
      refine mG.bipush (v := 7) dX6_told_13 (by decide) ?_
      refine mG.icmp_ge 22 dX6_told_15 (by decide) (fun c1 => ?_) (fun c1 => ?_)
      · replace h := itp c1 h
        refine mG.iconst (v := 0) dX6_told_22 rfl ?_
        subst h
        exact mG.zret (b := false) dX6_told_23 rfl rfl ⟨rfl, rfl, rfl⟩
      · replace h := itn c1 h
        refine mG.iconst (v := 1) dX6_told_18 rfl ?_
        refine mG.goto 23 dX6_told_19 (by decide) ?_
        subst h
        exact mG.zret (b := true) dX6_told_23 rfl rfl ⟨rfl, rfl, rfl⟩
theorem dX6_isGone_0 : decode cX6_isGone 0 = .ok (.aload_n 0, 1) := by decide +kernel
theorem dX6_isGone_1 : decode cX6_isGone 1 = .ok (.getfield 50, 3) := by decide +kernel
theorem dX6_isGone_4 : decode cX6_isGone 4 = .ok (.iload_n 1, 1) := by decide +kernel
theorem dX6_isGone_5 : decode cX6_isGone 5 = .ok (.ishr, 1) := by decide +kernel
theorem dX6_isGone_6 : decode cX6_isGone 6 = .ok (.iconst 1, 1) := by decide +kernel
theorem dX6_isGone_7 : decode cX6_isGone 7 = .ok (.iand, 1) := by decide +kernel
theorem dX6_isGone_8 : decode cX6_isGone 8 = .ok (.iconst 1, 1) := by decide +kernel
theorem dX6_isGone_9 : decode cX6_isGone 9 = .ok (.if_icmp .ne 7, 3) := by decide +kernel
theorem dX6_isGone_12 : decode cX6_isGone 12 = .ok (.iconst 1, 1) := by decide +kernel
theorem dX6_isGone_13 : decode cX6_isGone 13 = .ok (.goto 4, 3) := by decide +kernel
theorem dX6_isGone_16 : decode cX6_isGone 16 = .ok (.iconst 0, 1) := by decide +kernel
theorem dX6_isGone_17 : decode cX6_isGone 17 = .ok (.ireturn, 1) := by decide +kernel
def f_X6_isGone (S0 : mS) (t : Nat) (a1 : Int32) : Bool := if (((S0.1 t 6) >>> (a1 &&& 31)) &&& (1 : Int32)) = (1 : Int32) then (true) else (false)
set_option maxHeartbeats 4000000 in
set_option maxRecDepth 100000 in
theorem c_X6_isGone {S0 : mS} {t : Nat} {a1 : Int32} {R : Bool} (ht : kd0 t = 6) (h : f_X6_isGone S0 t a1 = R) : mCt μX6_isGone 1 0 0 E0 S0 [.ref (t), .int (a1)] (mQe S0 (some (.int (bI R)))) := by
  unfold f_X6_isGone at h
  refine mCt.of (by decide) (Nat.le_of_ble_eq_true rfl) ?_
  refine mG.aload_n 0 dX6_isGone_0 rfl ?_
  refine mG.get (v := .int (S0.1 t 6)) dX6_isGone_1 mfX6_50 ht rfl ?_
  refine mG.iload_n 1 dX6_isGone_4 rfl ?_
  refine mG.ishr dX6_isGone_5 ?_
  refine mG.iconst (v := 1) dX6_isGone_6 rfl ?_
  refine mG.iand dX6_isGone_7 ?_
  refine mG.iconst (v := 1) dX6_isGone_8 rfl ?_
  refine mG.icmp_ne 16 dX6_isGone_9 (by decide) (fun c1 => ?_) (fun c1 => ?_)
  · replace h := itn c1 h
    refine mG.iconst (v := 0) dX6_isGone_16 rfl ?_
    subst h
    exact mG.zret (b := false) dX6_isGone_17 rfl rfl ⟨rfl, rfl, rfl⟩
  · replace h := itp c1 h
    refine mG.iconst (v := 1) dX6_isGone_12 rfl ?_
    refine mG.goto 17 dX6_isGone_13 (by decide) ?_
    subst h
    exact mG.zret (b := true) dX6_isGone_17 rfl rfl ⟨rfl, rfl, rfl⟩
theorem dX6_lives_0 : decode cX6_lives 0 = .ok (.aload_n 0, 1) := by decide +kernel
theorem dX6_lives_1 : decode cX6_lives 1 = .ok (.iload_n 1, 1) := by decide +kernel
theorem dX6_lives_2 : decode cX6_lives 2 = .ok (.invokevirtual 56, 3) := by decide +kernel
theorem dX6_lives_5 : decode cX6_lives 5 = .ok (.ifCond .eq 15, 3) := by decide +kernel
theorem dX6_lives_8 : decode cX6_lives 8 = .ok (.aload_n 0, 1) := by decide +kernel
theorem dX6_lives_9 : decode cX6_lives 9 = .ok (.iload_n 1, 1) := by decide +kernel
theorem dX6_lives_10 : decode cX6_lives 10 = .ok (.invokevirtual 60, 3) := by decide +kernel
theorem dX6_lives_13 : decode cX6_lives 13 = .ok (.ifCond .ne 7, 3) := by decide +kernel
theorem dX6_lives_16 : decode cX6_lives 16 = .ok (.iconst 1, 1) := by decide +kernel
theorem dX6_lives_17 : decode cX6_lives 17 = .ok (.goto 4, 3) := by decide +kernel
theorem dX6_lives_20 : decode cX6_lives 20 = .ok (.iconst 0, 1) := by decide +kernel
theorem dX6_lives_21 : decode cX6_lives 21 = .ok (.ireturn, 1) := by decide +kernel
def f_X6_lives (S0 : mS) (t : Nat) (a1 : Int32) : Bool := if (f_X6_told S0 t a1) = true then (if (f_X6_isGone S0 t a1) = true then (false) else (true)) else (false)
set_option maxHeartbeats 4000000 in
set_option maxRecDepth 100000 in
theorem c_X6_lives {S0 : mS} {t : Nat} {a1 : Int32} {R : Bool} (ht : kd0 t = 6) (h : f_X6_lives S0 t a1 = R) : mCt μX6_lives 2 0 0 E0 S0 [.ref (t), .int (a1)] (mQe S0 (some (.int (bI R)))) := by
  unfold f_X6_lives at h
  refine mCt.of (by decide) (Nat.le_of_ble_eq_true rfl) ?_
  refine mG.aload_n 0 dX6_lives_0 rfl ?_
  refine mG.iload_n 1 dX6_lives_1 rfl ?_
  refine mG.callV0 (as := [.int (a1)]) (st := []) (S2 := S0) (r := some (.int (bI (f_X6_told S0 t a1)))) dX6_lives_2 mvX6_told wk27_11 rfl ht rfl (by decide) (Nat.le_of_ble_eq_true rfl) (c_X6_told ht rfl) ?_
  refine mG.ifz_eq (b := f_X6_told S0 t a1) 20 dX6_lives_5 (by decide) (fun c2 => ?_) (fun c2 => ?_)
  · replace h := itn c2 h
    refine mG.iconst (v := 0) dX6_lives_20 rfl ?_
    subst h
    exact mG.zret (b := false) dX6_lives_21 rfl rfl ⟨rfl, rfl, rfl⟩
  · replace h := itp c2 h
    refine mG.aload_n 0 dX6_lives_8 rfl ?_
    refine mG.iload_n 1 dX6_lives_9 rfl ?_
    refine mG.callV0 (as := [.int (a1)]) (st := []) (S2 := S0) (r := some (.int (bI (f_X6_isGone S0 t a1)))) dX6_lives_10 mvX6_isGone wk27_15 rfl ht rfl (by decide) (Nat.le_of_ble_eq_true rfl) (c_X6_isGone ht rfl) ?_
    refine mG.ifz_ne (b := f_X6_isGone S0 t a1) 20 dX6_lives_13 (by decide) (fun c1 => ?_) (fun c1 => ?_)
    · replace h := itp c1 h
      refine mG.iconst (v := 0) dX6_lives_20 rfl ?_
      subst h
      exact mG.zret (b := false) dX6_lives_21 rfl rfl ⟨rfl, rfl, rfl⟩
    · replace h := itn c1 h
      refine mG.iconst (v := 1) dX6_lives_16 rfl ?_
      refine mG.goto 21 dX6_lives_17 (by decide) ?_
      subst h
      exact mG.zret (b := true) dX6_lives_21 rfl rfl ⟨rfl, rfl, rfl⟩
theorem dX6_living_0 : decode cX6_living 0 = .ok (.iconst 1, 1) := by decide +kernel
theorem dX6_living_1 : decode cX6_living 1 = .ok (.aload_n 0, 1) := by decide +kernel
theorem dX6_living_2 : decode cX6_living 2 = .ok (.getfield 32, 3) := by decide +kernel
theorem dX6_living_5 : decode cX6_living 5 = .ok (.ishl, 1) := by decide +kernel
theorem dX6_living_6 : decode cX6_living 6 = .ok (.iconst 1, 1) := by decide +kernel
theorem dX6_living_7 : decode cX6_living 7 = .ok (.isub, 1) := by decide +kernel
theorem dX6_living_8 : decode cX6_living 8 = .ok (.aload_n 0, 1) := by decide +kernel
theorem dX6_living_9 : decode cX6_living 9 = .ok (.getfield 50, 3) := by decide +kernel
theorem dX6_living_12 : decode cX6_living 12 = .ok (.iconst (-1), 1) := by decide +kernel
theorem dX6_living_13 : decode cX6_living 13 = .ok (.ixor, 1) := by decide +kernel
theorem dX6_living_14 : decode cX6_living 14 = .ok (.iand, 1) := by decide +kernel
theorem dX6_living_15 : decode cX6_living 15 = .ok (.ireturn, 1) := by decide +kernel
def f_X6_living (S0 : mS) (t : Nat) : Int32 := (((1 : Int32) <<< ((S0.1 t 5) &&& 31)) - (1 : Int32)) &&& ((S0.1 t 6) ^^^ (-1 : Int32))
set_option maxHeartbeats 4000000 in
set_option maxRecDepth 100000 in
theorem c_X6_living {S0 : mS} {t : Nat} {R : Int32} (ht : kd0 t = 6) (h : f_X6_living S0 t = R) : mCt μX6_living 1 0 0 E0 S0 [.ref (t)] (mQe S0 (some (.int R))) := by
  unfold f_X6_living at h
  refine mCt.of (by decide) (Nat.le_of_ble_eq_true rfl) ?_
  refine mG.iconst (v := 1) dX6_living_0 rfl ?_
  refine mG.aload_n 0 dX6_living_1 rfl ?_
  refine mG.get (v := .int (S0.1 t 5)) dX6_living_2 mfX6_32 ht rfl ?_
  refine mG.ishl dX6_living_5 ?_
  refine mG.iconst (v := 1) dX6_living_6 rfl ?_
  refine mG.isub dX6_living_7 ?_
  refine mG.aload_n 0 dX6_living_8 rfl ?_
  refine mG.get (v := .int (S0.1 t 6)) dX6_living_9 mfX6_50 ht rfl ?_
  refine mG.iconst (v := (-1)) dX6_living_12 rfl ?_
  refine mG.ixor dX6_living_13 ?_
  refine mG.iand dX6_living_14 ?_
  subst h
  exact mG.iret dX6_living_15 rfl ⟨rfl, rfl, rfl⟩
theorem dX6_date_0 : decode cX6_date 0 = .ok (.aload_n 0, 1) := by decide +kernel
theorem dX6_date_1 : decode cX6_date 1 = .ok (.getfield 53, 3) := by decide +kernel
theorem dX6_date_4 : decode cX6_date 4 = .ok (.bipush 20, 2) := by decide +kernel
theorem dX6_date_6 : decode cX6_date 6 = .ok (.irem, 1) := by decide +kernel
theorem dX6_date_7 : decode cX6_date 7 = .ok (.ireturn, 1) := by decide +kernel
def f_X6_date (S0 : mS) (t : Nat) : Int32 := (S0.1 t 7) - (S0.1 t 7) / (20 : Int32) * (20 : Int32)
set_option maxHeartbeats 4000000 in
set_option maxRecDepth 100000 in
theorem c_X6_date {S0 : mS} {t : Nat} {R : Int32} (ht : kd0 t = 6) (h : f_X6_date S0 t = R) : mCt μX6_date 1 0 0 E0 S0 [.ref (t)] (mQe S0 (some (.int R))) := by
  unfold f_X6_date at h
  refine mCt.of (by decide) (Nat.le_of_ble_eq_true rfl) ?_
  refine mG.aload_n 0 dX6_date_0 rfl ?_
  refine mG.get (v := .int (S0.1 t 7)) dX6_date_1 mfX6_53 ht rfl ?_
  refine mG.bipush (v := 20) dX6_date_4 (by decide) ?_
  refine mG.irem dX6_date_6 (by decide) ?_
  subst h
  exact mG.iret dX6_date_7 rfl ⟨rfl, rfl, rfl⟩
theorem dX6_isShut_0 : decode cX6_isShut 0 = .ok (.aload_n 0, 1) := by decide +kernel
theorem dX6_isShut_1 : decode cX6_isShut 1 = .ok (.iload_n 1, 1) := by decide +kernel
theorem dX6_isShut_2 : decode cX6_isShut 2 = .ok (.invokevirtual 56, 3) := by decide +kernel
theorem dX6_isShut_5 : decode cX6_isShut 5 = .ok (.ifCond .eq 21, 3) := by decide +kernel
theorem dX6_isShut_8 : decode cX6_isShut 8 = .ok (.aload_n 0, 1) := by decide +kernel
theorem dX6_isShut_9 : decode cX6_isShut 9 = .ok (.getfield 9, 3) := by decide +kernel
theorem dX6_isShut_12 : decode cX6_isShut 12 = .ok (.iload_n 1, 1) := by decide +kernel
theorem dX6_isShut_13 : decode cX6_isShut 13 = .ok (.iaload, 1) := by decide +kernel
theorem dX6_isShut_14 : decode cX6_isShut 14 = .ok (.iload_n 2, 1) := by decide +kernel
theorem dX6_isShut_15 : decode cX6_isShut 15 = .ok (.ishr, 1) := by decide +kernel
theorem dX6_isShut_16 : decode cX6_isShut 16 = .ok (.iconst 1, 1) := by decide +kernel
theorem dX6_isShut_17 : decode cX6_isShut 17 = .ok (.iand, 1) := by decide +kernel
theorem dX6_isShut_18 : decode cX6_isShut 18 = .ok (.iconst 1, 1) := by decide +kernel
theorem dX6_isShut_19 : decode cX6_isShut 19 = .ok (.if_icmp .ne 7, 3) := by decide +kernel
theorem dX6_isShut_22 : decode cX6_isShut 22 = .ok (.iconst 1, 1) := by decide +kernel
theorem dX6_isShut_23 : decode cX6_isShut 23 = .ok (.goto 4, 3) := by decide +kernel
theorem dX6_isShut_26 : decode cX6_isShut 26 = .ok (.iconst 0, 1) := by decide +kernel
theorem dX6_isShut_27 : decode cX6_isShut 27 = .ok (.ireturn, 1) := by decide +kernel
def f_X6_isShut (F : Nat) (S0 : mS) (t : Nat) (a1 : Int32) (a2 : Int32) : Option Bool := if (f_X6_told S0 t a1) = true then (ck (inb a1 7) (if (((S0.1 (t + 1) a1.toNatClampNeg) >>> (a2 &&& 31)) &&& (1 : Int32)) = (1 : Int32) then (some true) else (some false))) else (some false)
set_option maxHeartbeats 4000000 in
set_option maxRecDepth 100000 in
theorem c_X6_isShut {F : Nat} {S0 : mS} {t : Nat} {a1 : Int32} {a2 : Int32} {R : Bool} (ht : kd0 t = 6) (h : f_X6_isShut F S0 t a1 a2 = some R) : mCt μX6_isShut 2 0 0 E0 S0 [.ref (t), .int (a1), .int (a2)] (mQe S0 (some (.int (bI R)))) := by
  unfold f_X6_isShut at h
  refine mCt.of (by decide) (Nat.le_of_ble_eq_true rfl) ?_
  refine mG.aload_n 0 dX6_isShut_0 rfl ?_
  refine mG.iload_n 1 dX6_isShut_1 rfl ?_
  refine mG.callV0 (as := [.int (a1)]) (st := []) (S2 := S0) (r := some (.int (bI (f_X6_told S0 t a1)))) dX6_isShut_2 mvX6_told wk27_11 rfl ht rfl (by decide) (Nat.le_of_ble_eq_true rfl) (c_X6_told ht rfl) ?_
  refine mG.ifz_eq (b := f_X6_told S0 t a1) 26 dX6_isShut_5 (by decide) (fun c3 => ?_) (fun c3 => ?_)
  · replace h := itn c3 h
    refine mG.iconst (v := 0) dX6_isShut_26 rfl ?_
    obtain rfl := Option.some.inj h
    exact mG.zret (b := false) dX6_isShut_27 rfl rfl ⟨rfl, rfl, rfl⟩
  · replace h := itp c3 h
    refine mG.aload_n 0 dX6_isShut_8 rfl ?_
    refine mG.get (v := .ref (t + 1)) dX6_isShut_9 mfX6_9 ht (lr6_shut ht) ?_
    refine mG.iload_n 1 dX6_isShut_12 rfl ?_
    obtain ⟨b1, h⟩ := ckp h
    refine mG.iald dX6_isShut_13 (lk6_shut ht) (ll6_shut ht) (inbp b1) ?_
    refine mG.iload_n 2 dX6_isShut_14 rfl ?_
    refine mG.ishr dX6_isShut_15 ?_
    refine mG.iconst (v := 1) dX6_isShut_16 rfl ?_
    refine mG.iand dX6_isShut_17 ?_
    refine mG.iconst (v := 1) dX6_isShut_18 rfl ?_
    refine mG.icmp_ne 26 dX6_isShut_19 (by decide) (fun c2 => ?_) (fun c2 => ?_)
    · replace h := itn c2 h
      refine mG.iconst (v := 0) dX6_isShut_26 rfl ?_
      obtain rfl := Option.some.inj h
      exact mG.zret (b := false) dX6_isShut_27 rfl rfl ⟨rfl, rfl, rfl⟩
    · replace h := itp c2 h
      refine mG.iconst (v := 1) dX6_isShut_22 rfl ?_
      refine mG.goto 27 dX6_isShut_23 (by decide) ?_
      obtain rfl := Option.some.inj h
      exact mG.zret (b := true) dX6_isShut_27 rfl rfl ⟨rfl, rfl, rfl⟩
theorem dX6_shutOn_0 : decode cX6_shutOn 0 = .ok (.iconst 0, 1) := by decide +kernel
theorem dX6_shutOn_1 : decode cX6_shutOn 1 = .ok (.istore_n 2, 1) := by decide +kernel
theorem dX6_shutOn_2 : decode cX6_shutOn 2 = .ok (.iconst 0, 1) := by decide +kernel
theorem dX6_shutOn_3 : decode cX6_shutOn 3 = .ok (.istore_n 3, 1) := by decide +kernel
theorem dX6_shutOn_4 : decode cX6_shutOn 4 = .ok (.iload_n 3, 1) := by decide +kernel
theorem dX6_shutOn_5 : decode cX6_shutOn 5 = .ok (.aload_n 0, 1) := by decide +kernel
theorem dX6_shutOn_6 : decode cX6_shutOn 6 = .ok (.getfield 32, 3) := by decide +kernel
theorem dX6_shutOn_9 : decode cX6_shutOn 9 = .ok (.if_icmp .ge 24, 3) := by decide +kernel
theorem dX6_shutOn_12 : decode cX6_shutOn 12 = .ok (.iload_n 2, 1) := by decide +kernel
theorem dX6_shutOn_13 : decode cX6_shutOn 13 = .ok (.aload_n 0, 1) := by decide +kernel
theorem dX6_shutOn_14 : decode cX6_shutOn 14 = .ok (.getfield 9, 3) := by decide +kernel
theorem dX6_shutOn_17 : decode cX6_shutOn 17 = .ok (.iload_n 3, 1) := by decide +kernel
theorem dX6_shutOn_18 : decode cX6_shutOn 18 = .ok (.iaload, 1) := by decide +kernel
theorem dX6_shutOn_19 : decode cX6_shutOn 19 = .ok (.iload_n 1, 1) := by decide +kernel
theorem dX6_shutOn_20 : decode cX6_shutOn 20 = .ok (.ishr, 1) := by decide +kernel
theorem dX6_shutOn_21 : decode cX6_shutOn 21 = .ok (.iconst 1, 1) := by decide +kernel
theorem dX6_shutOn_22 : decode cX6_shutOn 22 = .ok (.iand, 1) := by decide +kernel
theorem dX6_shutOn_23 : decode cX6_shutOn 23 = .ok (.iload_n 3, 1) := by decide +kernel
theorem dX6_shutOn_24 : decode cX6_shutOn 24 = .ok (.ishl, 1) := by decide +kernel
theorem dX6_shutOn_25 : decode cX6_shutOn 25 = .ok (.ior, 1) := by decide +kernel
theorem dX6_shutOn_26 : decode cX6_shutOn 26 = .ok (.istore_n 2, 1) := by decide +kernel
theorem dX6_shutOn_27 : decode cX6_shutOn 27 = .ok (.iinc 3 1, 3) := by decide +kernel
theorem dX6_shutOn_30 : decode cX6_shutOn 30 = .ok (.goto (-26), 3) := by decide +kernel
theorem dX6_shutOn_33 : decode cX6_shutOn 33 = .ok (.iload_n 2, 1) := by decide +kernel
theorem dX6_shutOn_34 : decode cX6_shutOn 34 = .ok (.aload_n 0, 1) := by decide +kernel
theorem dX6_shutOn_35 : decode cX6_shutOn 35 = .ok (.invokevirtual 63, 3) := by decide +kernel
theorem dX6_shutOn_38 : decode cX6_shutOn 38 = .ok (.iand, 1) := by decide +kernel
theorem dX6_shutOn_39 : decode cX6_shutOn 39 = .ok (.ireturn, 1) := by decide +kernel
def lX6_shutOn_4 (F : Nat)  (t : Nat) (a1 : Int32) : Nat → mS → Int32 → Int32 → Option Int32
  | 0, _, _, _ => none
  | n + 1, S0, v2, v3 => if (S0.1 t 5) ≤ v3 then (some (v2 &&& (f_X6_living S0 t))) else (ck (inb v3 7) (lX6_shutOn_4 F  t a1 n S0 (v2 ||| ((((S0.1 (t + 1) v3.toNatClampNeg) >>> (a1 &&& 31)) &&& (1 : Int32)) <<< (v3 &&& 31))) (v3 + 1)))
set_option maxHeartbeats 4000000 in
set_option maxRecDepth 100000 in
theorem gX6_shutOn_4 {F : Nat} {t : Nat} {a1 : Int32} {S0 : mS}   {R : Int32} (ht : kd0 t = 6)  : ∀ (n : Nat) (v2 : Int32) (v3 : Int32), lX6_shutOn_4 F  t a1 n S0 v2 v3 = some R → mG μX6_shutOn 2 0 0 (mQe S0 (some (.int R))) 0 0 E0 S0 4 [(0, .ref (t)), (1, .int (a1)), (2, .int (v2)), (3, .int (v3))] [] := by
  intro n
  induction n with
  | zero =>
    intro v2 v3 h
    cases h
  | succ n ih =>
    intro v2 v3 h
    unfold lX6_shutOn_4 at h
    refine mG.iload_n 3 dX6_shutOn_4 rfl ?_
    refine mG.aload_n 0 dX6_shutOn_5 rfl ?_
    refine mG.get (v := .int (S0.1 t 5)) dX6_shutOn_6 mfX6_32 ht rfl ?_
    refine mG.icmp_ge 33 dX6_shutOn_9 (by decide) (fun c2 => ?_) (fun c2 => ?_)
    · replace h := itp c2 h
      refine mG.iload_n 2 dX6_shutOn_33 rfl ?_
      refine mG.aload_n 0 dX6_shutOn_34 rfl ?_
      refine mG.callV0 (as := []) (st := [.int (v2)]) (S2 := S0) (r := some (.int (f_X6_living S0 t))) dX6_shutOn_35 mvX6_living wk29_21 rfl ht rfl (by decide) (Nat.le_of_ble_eq_true rfl) (c_X6_living ht rfl) ?_
      refine mG.iand dX6_shutOn_38 ?_
      obtain rfl := Option.some.inj h
      exact mG.iret dX6_shutOn_39 rfl ⟨rfl, rfl, rfl⟩
    · replace h := itn c2 h
      refine mG.iload_n 2 dX6_shutOn_12 rfl ?_
      refine mG.aload_n 0 dX6_shutOn_13 rfl ?_
      refine mG.get (v := .ref (t + 1)) dX6_shutOn_14 mfX6_9 ht (lr6_shut ht) ?_
      refine mG.iload_n 3 dX6_shutOn_17 rfl ?_
      obtain ⟨b1, h⟩ := ckp h
      refine mG.iald dX6_shutOn_18 (lk6_shut ht) (ll6_shut ht) (inbp b1) ?_
      refine mG.iload_n 1 dX6_shutOn_19 rfl ?_
      refine mG.ishr dX6_shutOn_20 ?_
      refine mG.iconst (v := 1) dX6_shutOn_21 rfl ?_
      refine mG.iand dX6_shutOn_22 ?_
      refine mG.iload_n 3 dX6_shutOn_23 rfl ?_
      refine mG.ishl dX6_shutOn_24 ?_
      refine mG.ior dX6_shutOn_25 ?_
      refine mG.istore_n (lv2 := [(2, .int (v2 ||| ((((S0.1 (t + 1) v3.toNatClampNeg) >>> (a1 &&& 31)) &&& (1 : Int32)) <<< (v3 &&& 31)))), (0, .ref (t)), (1, .int (a1)), (3, .int (v3))]) dX6_shutOn_26 rfl (by decide) rfl ?_
      refine mG.iinc 3 (u := v3 + 1) (lv2 := [(3, .int (v3 + 1)), (2, .int (v2 ||| ((((S0.1 (t + 1) v3.toNatClampNeg) >>> (a1 &&& 31)) &&& (1 : Int32)) <<< (v3 &&& 31)))), (0, .ref (t)), (1, .int (a1))]) dX6_shutOn_27 rfl rfl (by decide) rfl ?_
      refine mG.goto 4 dX6_shutOn_30 (by decide) ?_
      refine mG.sub (lv2 := [(0, .ref (t)), (1, .int (a1)), (2, .int (v2 ||| ((((S0.1 (t + 1) v3.toNatClampNeg) >>> (a1 &&& 31)) &&& (1 : Int32)) <<< (v3 &&& 31)))), (3, .int (v3 + 1))]) [2, 3, 1, 0] rfl ?_
      exact ih  (v2 ||| ((((S0.1 (t + 1) v3.toNatClampNeg) >>> (a1 &&& 31)) &&& (1 : Int32)) <<< (v3 &&& 31))) (v3 + 1)  h
def f_X6_shutOn (F : Nat) (S0 : mS) (t : Nat) (a1 : Int32) : Option Int32 := lX6_shutOn_4 F  t a1 F S0 (0 : Int32) (0 : Int32)
set_option maxHeartbeats 4000000 in
set_option maxRecDepth 100000 in
theorem c_X6_shutOn {F : Nat} {S0 : mS} {t : Nat} {a1 : Int32} {R : Int32} (ht : kd0 t = 6) (h : f_X6_shutOn F S0 t a1 = some R) : mCt μX6_shutOn 2 0 0 E0 S0 [.ref (t), .int (a1)] (mQe S0 (some (.int R))) := by
  unfold f_X6_shutOn at h
  refine mCt.of (by decide) (Nat.le_of_ble_eq_true rfl) ?_
  refine mG.iconst (v := 0) dX6_shutOn_0 rfl ?_
  refine mG.istore_n (lv2 := [(2, .int 0), (0, .ref (t)), (1, .int (a1))]) dX6_shutOn_1 rfl (by decide) rfl ?_
  refine mG.iconst (v := 0) dX6_shutOn_2 rfl ?_
  refine mG.istore_n (lv2 := [(3, .int 0), (2, .int 0), (0, .ref (t)), (1, .int (a1))]) dX6_shutOn_3 rfl (by decide) rfl ?_
  refine mG.sub (lv2 := [(0, .ref (t)), (1, .int (a1)), (2, .int 0), (3, .int 0)]) [2, 3, 1, 0] rfl ?_
  exact gX6_shutOn_4 ht  F  (0 : Int32) (0 : Int32)  h
theorem dX6_openOn_0 : decode cX6_openOn 0 = .ok (.aload_n 0, 1) := by decide +kernel
theorem dX6_openOn_1 : decode cX6_openOn 1 = .ok (.invokevirtual 63, 3) := by decide +kernel
theorem dX6_openOn_4 : decode cX6_openOn 4 = .ok (.aload_n 0, 1) := by decide +kernel
theorem dX6_openOn_5 : decode cX6_openOn 5 = .ok (.iload_n 1, 1) := by decide +kernel
theorem dX6_openOn_6 : decode cX6_openOn 6 = .ok (.invokevirtual 67, 3) := by decide +kernel
theorem dX6_openOn_9 : decode cX6_openOn 9 = .ok (.iconst (-1), 1) := by decide +kernel
theorem dX6_openOn_10 : decode cX6_openOn 10 = .ok (.ixor, 1) := by decide +kernel
theorem dX6_openOn_11 : decode cX6_openOn 11 = .ok (.iand, 1) := by decide +kernel
theorem dX6_openOn_12 : decode cX6_openOn 12 = .ok (.ireturn, 1) := by decide +kernel
def f_X6_openOn (F : Nat) (S0 : mS) (t : Nat) (a1 : Int32) : Option Int32 := bd (f_X6_shutOn F S0 t a1) fun q1 => some ((f_X6_living S0 t) &&& (q1 ^^^ (-1 : Int32)))
set_option maxHeartbeats 4000000 in
set_option maxRecDepth 100000 in
theorem c_X6_openOn {F : Nat} {S0 : mS} {t : Nat} {a1 : Int32} {R : Int32} (ht : kd0 t = 6) (h : f_X6_openOn F S0 t a1 = some R) : mCt μX6_openOn 3 0 0 E0 S0 [.ref (t), .int (a1)] (mQe S0 (some (.int R))) := by
  unfold f_X6_openOn at h
  refine mCt.of (by decide) (Nat.le_of_ble_eq_true rfl) ?_
  refine mG.aload_n 0 dX6_openOn_0 rfl ?_
  refine mG.callV0 (as := []) (st := []) (S2 := S0) (r := some (.int (f_X6_living S0 t))) dX6_openOn_1 mvX6_living wk29_21 rfl ht rfl (by decide) (Nat.le_of_ble_eq_true rfl) (c_X6_living ht rfl) ?_
  refine mG.aload_n 0 dX6_openOn_4 rfl ?_
  refine mG.iload_n 1 dX6_openOn_5 rfl ?_
  obtain ⟨q1, hq1, h⟩ := bdp h
  refine mG.callV0 (as := [.int (a1)]) (st := [.int (f_X6_living S0 t)]) (S2 := S0) (r := some (.int (q1))) dX6_openOn_6 mvX6_shutOn wk30_1 rfl ht rfl (by decide) (Nat.le_of_ble_eq_true rfl) (c_X6_shutOn ht hq1) ?_
  refine mG.iconst (v := (-1)) dX6_openOn_9 rfl ?_
  refine mG.ixor dX6_openOn_10 ?_
  refine mG.iand dX6_openOn_11 ?_
  obtain rfl := Option.some.inj h
  exact mG.iret dX6_openOn_12 rfl ⟨rfl, rfl, rfl⟩
theorem dJ6_bitCount_0f7a4_0 : decode cJ6_bitCount_0f7a4 0 = .ok (.iload_n 0, 1) := by decide +kernel
theorem dJ6_bitCount_0f7a4_1 : decode cJ6_bitCount_0f7a4 1 = .ok (.iload_n 0, 1) := by decide +kernel
theorem dJ6_bitCount_0f7a4_2 : decode cJ6_bitCount_0f7a4 2 = .ok (.iconst 1, 1) := by decide +kernel
theorem dJ6_bitCount_0f7a4_3 : decode cJ6_bitCount_0f7a4 3 = .ok (.iushr, 1) := by decide +kernel
theorem dJ6_bitCount_0f7a4_4 : decode cJ6_bitCount_0f7a4 4 = .ok (.ldc_w 265, 3) := by decide +kernel
theorem dJ6_bitCount_0f7a4_7 : decode cJ6_bitCount_0f7a4 7 = .ok (.iand, 1) := by decide +kernel
theorem dJ6_bitCount_0f7a4_8 : decode cJ6_bitCount_0f7a4 8 = .ok (.isub, 1) := by decide +kernel
theorem dJ6_bitCount_0f7a4_9 : decode cJ6_bitCount_0f7a4 9 = .ok (.istore_n 0, 1) := by decide +kernel
theorem dJ6_bitCount_0f7a4_10 : decode cJ6_bitCount_0f7a4 10 = .ok (.iload_n 0, 1) := by decide +kernel
theorem dJ6_bitCount_0f7a4_11 : decode cJ6_bitCount_0f7a4 11 = .ok (.ldc_w 266, 3) := by decide +kernel
theorem dJ6_bitCount_0f7a4_14 : decode cJ6_bitCount_0f7a4 14 = .ok (.iand, 1) := by decide +kernel
theorem dJ6_bitCount_0f7a4_15 : decode cJ6_bitCount_0f7a4 15 = .ok (.iload_n 0, 1) := by decide +kernel
theorem dJ6_bitCount_0f7a4_16 : decode cJ6_bitCount_0f7a4 16 = .ok (.iconst 2, 1) := by decide +kernel
theorem dJ6_bitCount_0f7a4_17 : decode cJ6_bitCount_0f7a4 17 = .ok (.iushr, 1) := by decide +kernel
theorem dJ6_bitCount_0f7a4_18 : decode cJ6_bitCount_0f7a4 18 = .ok (.ldc_w 266, 3) := by decide +kernel
theorem dJ6_bitCount_0f7a4_21 : decode cJ6_bitCount_0f7a4 21 = .ok (.iand, 1) := by decide +kernel
theorem dJ6_bitCount_0f7a4_22 : decode cJ6_bitCount_0f7a4 22 = .ok (.iadd, 1) := by decide +kernel
theorem dJ6_bitCount_0f7a4_23 : decode cJ6_bitCount_0f7a4 23 = .ok (.istore_n 0, 1) := by decide +kernel
theorem dJ6_bitCount_0f7a4_24 : decode cJ6_bitCount_0f7a4 24 = .ok (.iload_n 0, 1) := by decide +kernel
theorem dJ6_bitCount_0f7a4_25 : decode cJ6_bitCount_0f7a4 25 = .ok (.iload_n 0, 1) := by decide +kernel
theorem dJ6_bitCount_0f7a4_26 : decode cJ6_bitCount_0f7a4 26 = .ok (.iconst 4, 1) := by decide +kernel
theorem dJ6_bitCount_0f7a4_27 : decode cJ6_bitCount_0f7a4 27 = .ok (.iushr, 1) := by decide +kernel
theorem dJ6_bitCount_0f7a4_28 : decode cJ6_bitCount_0f7a4 28 = .ok (.iadd, 1) := by decide +kernel
theorem dJ6_bitCount_0f7a4_29 : decode cJ6_bitCount_0f7a4 29 = .ok (.ldc_w 267, 3) := by decide +kernel
theorem dJ6_bitCount_0f7a4_32 : decode cJ6_bitCount_0f7a4 32 = .ok (.iand, 1) := by decide +kernel
theorem dJ6_bitCount_0f7a4_33 : decode cJ6_bitCount_0f7a4 33 = .ok (.istore_n 0, 1) := by decide +kernel
theorem dJ6_bitCount_0f7a4_34 : decode cJ6_bitCount_0f7a4 34 = .ok (.iload_n 0, 1) := by decide +kernel
theorem dJ6_bitCount_0f7a4_35 : decode cJ6_bitCount_0f7a4 35 = .ok (.iload_n 0, 1) := by decide +kernel
theorem dJ6_bitCount_0f7a4_36 : decode cJ6_bitCount_0f7a4 36 = .ok (.bipush 8, 2) := by decide +kernel
theorem dJ6_bitCount_0f7a4_38 : decode cJ6_bitCount_0f7a4 38 = .ok (.iushr, 1) := by decide +kernel
theorem dJ6_bitCount_0f7a4_39 : decode cJ6_bitCount_0f7a4 39 = .ok (.iadd, 1) := by decide +kernel
theorem dJ6_bitCount_0f7a4_40 : decode cJ6_bitCount_0f7a4 40 = .ok (.istore_n 0, 1) := by decide +kernel
theorem dJ6_bitCount_0f7a4_41 : decode cJ6_bitCount_0f7a4 41 = .ok (.iload_n 0, 1) := by decide +kernel
theorem dJ6_bitCount_0f7a4_42 : decode cJ6_bitCount_0f7a4 42 = .ok (.iload_n 0, 1) := by decide +kernel
theorem dJ6_bitCount_0f7a4_43 : decode cJ6_bitCount_0f7a4 43 = .ok (.bipush 16, 2) := by decide +kernel
theorem dJ6_bitCount_0f7a4_45 : decode cJ6_bitCount_0f7a4 45 = .ok (.iushr, 1) := by decide +kernel
theorem dJ6_bitCount_0f7a4_46 : decode cJ6_bitCount_0f7a4 46 = .ok (.iadd, 1) := by decide +kernel
theorem dJ6_bitCount_0f7a4_47 : decode cJ6_bitCount_0f7a4 47 = .ok (.istore_n 0, 1) := by decide +kernel
theorem dJ6_bitCount_0f7a4_48 : decode cJ6_bitCount_0f7a4 48 = .ok (.iload_n 0, 1) := by decide +kernel
theorem dJ6_bitCount_0f7a4_49 : decode cJ6_bitCount_0f7a4 49 = .ok (.bipush 63, 2) := by decide +kernel
theorem dJ6_bitCount_0f7a4_51 : decode cJ6_bitCount_0f7a4 51 = .ok (.iand, 1) := by decide +kernel
theorem dJ6_bitCount_0f7a4_52 : decode cJ6_bitCount_0f7a4 52 = .ok (.ireturn, 1) := by decide +kernel
def f_J6_bitCount_0f7a4 (S0 : mS) (a1 : Int32) : Int32 := (((((((a1 - ((((a1).toUInt32 >>> (((1 : Int32)).toUInt32 &&& Int32.toUInt32 31)).toInt32) &&& (1431655765 : Int32))) &&& (858993459 : Int32)) + ((((a1 - ((((a1).toUInt32 >>> (((1 : Int32)).toUInt32 &&& Int32.toUInt32 31)).toInt32) &&& (1431655765 : Int32))).toUInt32 >>> (((2 : Int32)).toUInt32 &&& Int32.toUInt32 31)).toInt32) &&& (858993459 : Int32))) + (((((a1 - ((((a1).toUInt32 >>> (((1 : Int32)).toUInt32 &&& Int32.toUInt32 31)).toInt32) &&& (1431655765 : Int32))) &&& (858993459 : Int32)) + ((((a1 - ((((a1).toUInt32 >>> (((1 : Int32)).toUInt32 &&& Int32.toUInt32 31)).toInt32) &&& (1431655765 : Int32))).toUInt32 >>> (((2 : Int32)).toUInt32 &&& Int32.toUInt32 31)).toInt32) &&& (858993459 : Int32))).toUInt32 >>> (((4 : Int32)).toUInt32 &&& Int32.toUInt32 31)).toInt32)) &&& (252645135 : Int32)) + (((((((a1 - ((((a1).toUInt32 >>> (((1 : Int32)).toUInt32 &&& Int32.toUInt32 31)).toInt32) &&& (1431655765 : Int32))) &&& (858993459 : Int32)) + ((((a1 - ((((a1).toUInt32 >>> (((1 : Int32)).toUInt32 &&& Int32.toUInt32 31)).toInt32) &&& (1431655765 : Int32))).toUInt32 >>> (((2 : Int32)).toUInt32 &&& Int32.toUInt32 31)).toInt32) &&& (858993459 : Int32))) + (((((a1 - ((((a1).toUInt32 >>> (((1 : Int32)).toUInt32 &&& Int32.toUInt32 31)).toInt32) &&& (1431655765 : Int32))) &&& (858993459 : Int32)) + ((((a1 - ((((a1).toUInt32 >>> (((1 : Int32)).toUInt32 &&& Int32.toUInt32 31)).toInt32) &&& (1431655765 : Int32))).toUInt32 >>> (((2 : Int32)).toUInt32 &&& Int32.toUInt32 31)).toInt32) &&& (858993459 : Int32))).toUInt32 >>> (((4 : Int32)).toUInt32 &&& Int32.toUInt32 31)).toInt32)) &&& (252645135 : Int32)).toUInt32 >>> (((8 : Int32)).toUInt32 &&& Int32.toUInt32 31)).toInt32)) + ((((((((a1 - ((((a1).toUInt32 >>> (((1 : Int32)).toUInt32 &&& Int32.toUInt32 31)).toInt32) &&& (1431655765 : Int32))) &&& (858993459 : Int32)) + ((((a1 - ((((a1).toUInt32 >>> (((1 : Int32)).toUInt32 &&& Int32.toUInt32 31)).toInt32) &&& (1431655765 : Int32))).toUInt32 >>> (((2 : Int32)).toUInt32 &&& Int32.toUInt32 31)).toInt32) &&& (858993459 : Int32))) + (((((a1 - ((((a1).toUInt32 >>> (((1 : Int32)).toUInt32 &&& Int32.toUInt32 31)).toInt32) &&& (1431655765 : Int32))) &&& (858993459 : Int32)) + ((((a1 - ((((a1).toUInt32 >>> (((1 : Int32)).toUInt32 &&& Int32.toUInt32 31)).toInt32) &&& (1431655765 : Int32))).toUInt32 >>> (((2 : Int32)).toUInt32 &&& Int32.toUInt32 31)).toInt32) &&& (858993459 : Int32))).toUInt32 >>> (((4 : Int32)).toUInt32 &&& Int32.toUInt32 31)).toInt32)) &&& (252645135 : Int32)) + (((((((a1 - ((((a1).toUInt32 >>> (((1 : Int32)).toUInt32 &&& Int32.toUInt32 31)).toInt32) &&& (1431655765 : Int32))) &&& (858993459 : Int32)) + ((((a1 - ((((a1).toUInt32 >>> (((1 : Int32)).toUInt32 &&& Int32.toUInt32 31)).toInt32) &&& (1431655765 : Int32))).toUInt32 >>> (((2 : Int32)).toUInt32 &&& Int32.toUInt32 31)).toInt32) &&& (858993459 : Int32))) + (((((a1 - ((((a1).toUInt32 >>> (((1 : Int32)).toUInt32 &&& Int32.toUInt32 31)).toInt32) &&& (1431655765 : Int32))) &&& (858993459 : Int32)) + ((((a1 - ((((a1).toUInt32 >>> (((1 : Int32)).toUInt32 &&& Int32.toUInt32 31)).toInt32) &&& (1431655765 : Int32))).toUInt32 >>> (((2 : Int32)).toUInt32 &&& Int32.toUInt32 31)).toInt32) &&& (858993459 : Int32))).toUInt32 >>> (((4 : Int32)).toUInt32 &&& Int32.toUInt32 31)).toInt32)) &&& (252645135 : Int32)).toUInt32 >>> (((8 : Int32)).toUInt32 &&& Int32.toUInt32 31)).toInt32)).toUInt32 >>> (((16 : Int32)).toUInt32 &&& Int32.toUInt32 31)).toInt32)) &&& (63 : Int32)
set_option maxHeartbeats 4000000 in
set_option maxRecDepth 100000 in
theorem c_J6_bitCount_0f7a4 {S0 : mS} {a1 : Int32} {R : Int32}  (h : f_J6_bitCount_0f7a4 S0 a1 = R) : mCt μJ6_bitCount_0f7a4 1 0 0 E0 S0 [.int (a1)] (mQe S0 (some (.int R))) := by
  unfold f_J6_bitCount_0f7a4 at h
  refine mCt.of (by decide) (Nat.le_of_ble_eq_true rfl) ?_
  refine mG.iload_n 0 dJ6_bitCount_0f7a4_0 rfl ?_
  refine mG.iload_n 0 dJ6_bitCount_0f7a4_1 rfl ?_
  refine mG.iconst (v := 1) dJ6_bitCount_0f7a4_2 rfl ?_
  refine mG.iushr dJ6_bitCount_0f7a4_3 ?_
  refine mG.ldcw (v := 1431655765) dJ6_bitCount_0f7a4_4 wk30_9 ?_
  refine mG.iand dJ6_bitCount_0f7a4_7 ?_
  refine mG.isub dJ6_bitCount_0f7a4_8 ?_
  refine mG.istore_n (lv2 := [(0, .int (a1 - ((((a1).toUInt32 >>> (((1 : Int32)).toUInt32 &&& Int32.toUInt32 31)).toInt32) &&& (1431655765 : Int32))))]) dJ6_bitCount_0f7a4_9 rfl (by decide) rfl ?_
  refine mG.iload_n 0 dJ6_bitCount_0f7a4_10 rfl ?_
  refine mG.ldcw (v := 858993459) dJ6_bitCount_0f7a4_11 wk30_10 ?_
  refine mG.iand dJ6_bitCount_0f7a4_14 ?_
  refine mG.iload_n 0 dJ6_bitCount_0f7a4_15 rfl ?_
  refine mG.iconst (v := 2) dJ6_bitCount_0f7a4_16 rfl ?_
  refine mG.iushr dJ6_bitCount_0f7a4_17 ?_
  refine mG.ldcw (v := 858993459) dJ6_bitCount_0f7a4_18 wk30_10 ?_
  refine mG.iand dJ6_bitCount_0f7a4_21 ?_
  refine mG.iadd dJ6_bitCount_0f7a4_22 ?_
  refine mG.istore_n (lv2 := [(0, .int (((a1 - ((((a1).toUInt32 >>> (((1 : Int32)).toUInt32 &&& Int32.toUInt32 31)).toInt32) &&& (1431655765 : Int32))) &&& (858993459 : Int32)) + ((((a1 - ((((a1).toUInt32 >>> (((1 : Int32)).toUInt32 &&& Int32.toUInt32 31)).toInt32) &&& (1431655765 : Int32))).toUInt32 >>> (((2 : Int32)).toUInt32 &&& Int32.toUInt32 31)).toInt32) &&& (858993459 : Int32))))]) dJ6_bitCount_0f7a4_23 rfl (by decide) rfl ?_
  refine mG.iload_n 0 dJ6_bitCount_0f7a4_24 rfl ?_
  refine mG.iload_n 0 dJ6_bitCount_0f7a4_25 rfl ?_
  refine mG.iconst (v := 4) dJ6_bitCount_0f7a4_26 rfl ?_
  refine mG.iushr dJ6_bitCount_0f7a4_27 ?_
  refine mG.iadd dJ6_bitCount_0f7a4_28 ?_
  refine mG.ldcw (v := 252645135) dJ6_bitCount_0f7a4_29 wk30_11 ?_
  refine mG.iand dJ6_bitCount_0f7a4_32 ?_
  refine mG.istore_n (lv2 := [(0, .int (((((a1 - ((((a1).toUInt32 >>> (((1 : Int32)).toUInt32 &&& Int32.toUInt32 31)).toInt32) &&& (1431655765 : Int32))) &&& (858993459 : Int32)) + ((((a1 - ((((a1).toUInt32 >>> (((1 : Int32)).toUInt32 &&& Int32.toUInt32 31)).toInt32) &&& (1431655765 : Int32))).toUInt32 >>> (((2 : Int32)).toUInt32 &&& Int32.toUInt32 31)).toInt32) &&& (858993459 : Int32))) + (((((a1 - ((((a1).toUInt32 >>> (((1 : Int32)).toUInt32 &&& Int32.toUInt32 31)).toInt32) &&& (1431655765 : Int32))) &&& (858993459 : Int32)) + ((((a1 - ((((a1).toUInt32 >>> (((1 : Int32)).toUInt32 &&& Int32.toUInt32 31)).toInt32) &&& (1431655765 : Int32))).toUInt32 >>> (((2 : Int32)).toUInt32 &&& Int32.toUInt32 31)).toInt32) &&& (858993459 : Int32))).toUInt32 >>> (((4 : Int32)).toUInt32 &&& Int32.toUInt32 31)).toInt32)) &&& (252645135 : Int32)))]) dJ6_bitCount_0f7a4_33 rfl (by decide) rfl ?_
  refine mG.iload_n 0 dJ6_bitCount_0f7a4_34 rfl ?_
  refine mG.iload_n 0 dJ6_bitCount_0f7a4_35 rfl ?_
  refine mG.bipush (v := 8) dJ6_bitCount_0f7a4_36 (by decide) ?_
  refine mG.iushr dJ6_bitCount_0f7a4_38 ?_
  refine mG.iadd dJ6_bitCount_0f7a4_39 ?_
  refine mG.istore_n (lv2 := [(0, .int ((((((a1 - ((((a1).toUInt32 >>> (((1 : Int32)).toUInt32 &&& Int32.toUInt32 31)).toInt32) &&& (1431655765 : Int32))) &&& (858993459 : Int32)) + ((((a1 - ((((a1).toUInt32 >>> (((1 : Int32)).toUInt32 &&& Int32.toUInt32 31)).toInt32) &&& (1431655765 : Int32))).toUInt32 >>> (((2 : Int32)).toUInt32 &&& Int32.toUInt32 31)).toInt32) &&& (858993459 : Int32))) + (((((a1 - ((((a1).toUInt32 >>> (((1 : Int32)).toUInt32 &&& Int32.toUInt32 31)).toInt32) &&& (1431655765 : Int32))) &&& (858993459 : Int32)) + ((((a1 - ((((a1).toUInt32 >>> (((1 : Int32)).toUInt32 &&& Int32.toUInt32 31)).toInt32) &&& (1431655765 : Int32))).toUInt32 >>> (((2 : Int32)).toUInt32 &&& Int32.toUInt32 31)).toInt32) &&& (858993459 : Int32))).toUInt32 >>> (((4 : Int32)).toUInt32 &&& Int32.toUInt32 31)).toInt32)) &&& (252645135 : Int32)) + (((((((a1 - ((((a1).toUInt32 >>> (((1 : Int32)).toUInt32 &&& Int32.toUInt32 31)).toInt32) &&& (1431655765 : Int32))) &&& (858993459 : Int32)) + ((((a1 - ((((a1).toUInt32 >>> (((1 : Int32)).toUInt32 &&& Int32.toUInt32 31)).toInt32) &&& (1431655765 : Int32))).toUInt32 >>> (((2 : Int32)).toUInt32 &&& Int32.toUInt32 31)).toInt32) &&& (858993459 : Int32))) + (((((a1 - ((((a1).toUInt32 >>> (((1 : Int32)).toUInt32 &&& Int32.toUInt32 31)).toInt32) &&& (1431655765 : Int32))) &&& (858993459 : Int32)) + ((((a1 - ((((a1).toUInt32 >>> (((1 : Int32)).toUInt32 &&& Int32.toUInt32 31)).toInt32) &&& (1431655765 : Int32))).toUInt32 >>> (((2 : Int32)).toUInt32 &&& Int32.toUInt32 31)).toInt32) &&& (858993459 : Int32))).toUInt32 >>> (((4 : Int32)).toUInt32 &&& Int32.toUInt32 31)).toInt32)) &&& (252645135 : Int32)).toUInt32 >>> (((8 : Int32)).toUInt32 &&& Int32.toUInt32 31)).toInt32)))]) dJ6_bitCount_0f7a4_40 rfl (by decide) rfl ?_
  refine mG.iload_n 0 dJ6_bitCount_0f7a4_41 rfl ?_
  refine mG.iload_n 0 dJ6_bitCount_0f7a4_42 rfl ?_
  refine mG.bipush (v := 16) dJ6_bitCount_0f7a4_43 (by decide) ?_
  refine mG.iushr dJ6_bitCount_0f7a4_45 ?_
  refine mG.iadd dJ6_bitCount_0f7a4_46 ?_
  refine mG.istore_n (lv2 := [(0, .int (((((((a1 - ((((a1).toUInt32 >>> (((1 : Int32)).toUInt32 &&& Int32.toUInt32 31)).toInt32) &&& (1431655765 : Int32))) &&& (858993459 : Int32)) + ((((a1 - ((((a1).toUInt32 >>> (((1 : Int32)).toUInt32 &&& Int32.toUInt32 31)).toInt32) &&& (1431655765 : Int32))).toUInt32 >>> (((2 : Int32)).toUInt32 &&& Int32.toUInt32 31)).toInt32) &&& (858993459 : Int32))) + (((((a1 - ((((a1).toUInt32 >>> (((1 : Int32)).toUInt32 &&& Int32.toUInt32 31)).toInt32) &&& (1431655765 : Int32))) &&& (858993459 : Int32)) + ((((a1 - ((((a1).toUInt32 >>> (((1 : Int32)).toUInt32 &&& Int32.toUInt32 31)).toInt32) &&& (1431655765 : Int32))).toUInt32 >>> (((2 : Int32)).toUInt32 &&& Int32.toUInt32 31)).toInt32) &&& (858993459 : Int32))).toUInt32 >>> (((4 : Int32)).toUInt32 &&& Int32.toUInt32 31)).toInt32)) &&& (252645135 : Int32)) + (((((((a1 - ((((a1).toUInt32 >>> (((1 : Int32)).toUInt32 &&& Int32.toUInt32 31)).toInt32) &&& (1431655765 : Int32))) &&& (858993459 : Int32)) + ((((a1 - ((((a1).toUInt32 >>> (((1 : Int32)).toUInt32 &&& Int32.toUInt32 31)).toInt32) &&& (1431655765 : Int32))).toUInt32 >>> (((2 : Int32)).toUInt32 &&& Int32.toUInt32 31)).toInt32) &&& (858993459 : Int32))) + (((((a1 - ((((a1).toUInt32 >>> (((1 : Int32)).toUInt32 &&& Int32.toUInt32 31)).toInt32) &&& (1431655765 : Int32))) &&& (858993459 : Int32)) + ((((a1 - ((((a1).toUInt32 >>> (((1 : Int32)).toUInt32 &&& Int32.toUInt32 31)).toInt32) &&& (1431655765 : Int32))).toUInt32 >>> (((2 : Int32)).toUInt32 &&& Int32.toUInt32 31)).toInt32) &&& (858993459 : Int32))).toUInt32 >>> (((4 : Int32)).toUInt32 &&& Int32.toUInt32 31)).toInt32)) &&& (252645135 : Int32)).toUInt32 >>> (((8 : Int32)).toUInt32 &&& Int32.toUInt32 31)).toInt32)) + ((((((((a1 - ((((a1).toUInt32 >>> (((1 : Int32)).toUInt32 &&& Int32.toUInt32 31)).toInt32) &&& (1431655765 : Int32))) &&& (858993459 : Int32)) + ((((a1 - ((((a1).toUInt32 >>> (((1 : Int32)).toUInt32 &&& Int32.toUInt32 31)).toInt32) &&& (1431655765 : Int32))).toUInt32 >>> (((2 : Int32)).toUInt32 &&& Int32.toUInt32 31)).toInt32) &&& (858993459 : Int32))) + (((((a1 - ((((a1).toUInt32 >>> (((1 : Int32)).toUInt32 &&& Int32.toUInt32 31)).toInt32) &&& (1431655765 : Int32))) &&& (858993459 : Int32)) + ((((a1 - ((((a1).toUInt32 >>> (((1 : Int32)).toUInt32 &&& Int32.toUInt32 31)).toInt32) &&& (1431655765 : Int32))).toUInt32 >>> (((2 : Int32)).toUInt32 &&& Int32.toUInt32 31)).toInt32) &&& (858993459 : Int32))).toUInt32 >>> (((4 : Int32)).toUInt32 &&& Int32.toUInt32 31)).toInt32)) &&& (252645135 : Int32)) + (((((((a1 - ((((a1).toUInt32 >>> (((1 : Int32)).toUInt32 &&& Int32.toUInt32 31)).toInt32) &&& (1431655765 : Int32))) &&& (858993459 : Int32)) + ((((a1 - ((((a1).toUInt32 >>> (((1 : Int32)).toUInt32 &&& Int32.toUInt32 31)).toInt32) &&& (1431655765 : Int32))).toUInt32 >>> (((2 : Int32)).toUInt32 &&& Int32.toUInt32 31)).toInt32) &&& (858993459 : Int32))) + (((((a1 - ((((a1).toUInt32 >>> (((1 : Int32)).toUInt32 &&& Int32.toUInt32 31)).toInt32) &&& (1431655765 : Int32))) &&& (858993459 : Int32)) + ((((a1 - ((((a1).toUInt32 >>> (((1 : Int32)).toUInt32 &&& Int32.toUInt32 31)).toInt32) &&& (1431655765 : Int32))).toUInt32 >>> (((2 : Int32)).toUInt32 &&& Int32.toUInt32 31)).toInt32) &&& (858993459 : Int32))).toUInt32 >>> (((4 : Int32)).toUInt32 &&& Int32.toUInt32 31)).toInt32)) &&& (252645135 : Int32)).toUInt32 >>> (((8 : Int32)).toUInt32 &&& Int32.toUInt32 31)).toInt32)).toUInt32 >>> (((16 : Int32)).toUInt32 &&& Int32.toUInt32 31)).toInt32)))]) dJ6_bitCount_0f7a4_47 rfl (by decide) rfl ?_
  refine mG.iload_n 0 dJ6_bitCount_0f7a4_48 rfl ?_
  refine mG.bipush (v := 63) dJ6_bitCount_0f7a4_49 (by decide) ?_
  refine mG.iand dJ6_bitCount_0f7a4_51 ?_
  subst h
  exact mG.iret dJ6_bitCount_0f7a4_52 rfl ⟨rfl, rfl, rfl⟩
theorem dX6_howManyShut_0 : decode cX6_howManyShut 0 = .ok (.aload_n 0, 1) := by decide +kernel
theorem dX6_howManyShut_1 : decode cX6_howManyShut 1 = .ok (.iload_n 1, 1) := by decide +kernel
theorem dX6_howManyShut_2 : decode cX6_howManyShut 2 = .ok (.invokevirtual 67, 3) := by decide +kernel
theorem dX6_howManyShut_5 : decode cX6_howManyShut 5 = .ok (.invokestatic 71, 3) := by decide +kernel
theorem dX6_howManyShut_8 : decode cX6_howManyShut 8 = .ok (.ireturn, 1) := by decide +kernel
def f_X6_howManyShut (F : Nat) (S0 : mS) (t : Nat) (a1 : Int32) : Option Int32 := bd (f_X6_shutOn F S0 t a1) fun q1 => some (f_J6_bitCount_0f7a4 S0 q1)
set_option maxHeartbeats 4000000 in
set_option maxRecDepth 100000 in
theorem c_X6_howManyShut {F : Nat} {S0 : mS} {t : Nat} {a1 : Int32} {R : Int32} (ht : kd0 t = 6) (h : f_X6_howManyShut F S0 t a1 = some R) : mCt μX6_howManyShut 3 0 0 E0 S0 [.ref (t), .int (a1)] (mQe S0 (some (.int R))) := by
  unfold f_X6_howManyShut at h
  refine mCt.of (by decide) (Nat.le_of_ble_eq_true rfl) ?_
  refine mG.aload_n 0 dX6_howManyShut_0 rfl ?_
  refine mG.iload_n 1 dX6_howManyShut_1 rfl ?_
  obtain ⟨q1, hq1, h⟩ := bdp h
  refine mG.callV0 (as := [.int (a1)]) (st := []) (S2 := S0) (r := some (.int (q1))) dX6_howManyShut_2 mvX6_shutOn wk30_1 rfl ht rfl (by decide) (Nat.le_of_ble_eq_true rfl) (c_X6_shutOn ht hq1) ?_
  refine mG.callS0 (as := [.int (q1)]) (st := []) (S2 := S0) (r := some (.int (f_J6_bitCount_0f7a4 S0 q1))) dX6_howManyShut_5 mbJ6_bitCount_0f7a4 wk30_6 wk36_13 rfl rfl (by decide) (Nat.le_of_ble_eq_true rfl) (c_J6_bitCount_0f7a4  rfl) ?_
  obtain rfl := Option.some.inj h
  exact mG.iret dX6_howManyShut_8 rfl ⟨rfl, rfl, rfl⟩
theorem dX6_settle_0 : decode cX6_settle 0 = .ok (.aload_n 0, 1) := by decide +kernel
theorem dX6_settle_1 : decode cX6_settle 1 = .ok (.getfield 32, 3) := by decide +kernel
theorem dX6_settle_4 : decode cX6_settle 4 = .ok (.bipush 7, 2) := by decide +kernel
theorem dX6_settle_6 : decode cX6_settle 6 = .ok (.if_icmp .lt 5, 3) := by decide +kernel
theorem dX6_settle_9 : decode cX6_settle 9 = .ok (.iconst (-1), 1) := by decide +kernel
theorem dX6_settle_10 : decode cX6_settle 10 = .ok (.ireturn, 1) := by decide +kernel
theorem dX6_settle_11 : decode cX6_settle 11 = .ok (.aload_n 0, 1) := by decide +kernel
theorem dX6_settle_12 : decode cX6_settle 12 = .ok (.getfield 9, 3) := by decide +kernel
theorem dX6_settle_15 : decode cX6_settle 15 = .ok (.aload_n 0, 1) := by decide +kernel
theorem dX6_settle_16 : decode cX6_settle 16 = .ok (.getfield 32, 3) := by decide +kernel
theorem dX6_settle_19 : decode cX6_settle 19 = .ok (.iload_n 1, 1) := by decide +kernel
theorem dX6_settle_20 : decode cX6_settle 20 = .ok (.iastore, 1) := by decide +kernel
theorem dX6_settle_21 : decode cX6_settle 21 = .ok (.aload_n 0, 1) := by decide +kernel
theorem dX6_settle_22 : decode cX6_settle 22 = .ok (.getfield 15, 3) := by decide +kernel
theorem dX6_settle_25 : decode cX6_settle 25 = .ok (.aload_n 0, 1) := by decide +kernel
theorem dX6_settle_26 : decode cX6_settle 26 = .ok (.getfield 32, 3) := by decide +kernel
theorem dX6_settle_29 : decode cX6_settle 29 = .ok (.iload_n 2, 1) := by decide +kernel
theorem dX6_settle_30 : decode cX6_settle 30 = .ok (.iastore, 1) := by decide +kernel
theorem dX6_settle_31 : decode cX6_settle 31 = .ok (.aload_n 0, 1) := by decide +kernel
theorem dX6_settle_32 : decode cX6_settle 32 = .ok (.getfield 18, 3) := by decide +kernel
theorem dX6_settle_35 : decode cX6_settle 35 = .ok (.aload_n 0, 1) := by decide +kernel
theorem dX6_settle_36 : decode cX6_settle 36 = .ok (.getfield 32, 3) := by decide +kernel
theorem dX6_settle_39 : decode cX6_settle 39 = .ok (.iload_n 3, 1) := by decide +kernel
theorem dX6_settle_40 : decode cX6_settle 40 = .ok (.iastore, 1) := by decide +kernel
theorem dX6_settle_41 : decode cX6_settle 41 = .ok (.aload_n 0, 1) := by decide +kernel
theorem dX6_settle_42 : decode cX6_settle 42 = .ok (.dup, 1) := by decide +kernel
theorem dX6_settle_43 : decode cX6_settle 43 = .ok (.getfield 32, 3) := by decide +kernel
theorem dX6_settle_46 : decode cX6_settle 46 = .ok (.iconst 1, 1) := by decide +kernel
theorem dX6_settle_47 : decode cX6_settle 47 = .ok (.iadd, 1) := by decide +kernel
theorem dX6_settle_48 : decode cX6_settle 48 = .ok (.putfield 32, 3) := by decide +kernel
theorem dX6_settle_51 : decode cX6_settle 51 = .ok (.aload_n 0, 1) := by decide +kernel
theorem dX6_settle_52 : decode cX6_settle 52 = .ok (.getfield 32, 3) := by decide +kernel
theorem dX6_settle_55 : decode cX6_settle 55 = .ok (.iconst 1, 1) := by decide +kernel
theorem dX6_settle_56 : decode cX6_settle 56 = .ok (.isub, 1) := by decide +kernel
theorem dX6_settle_57 : decode cX6_settle 57 = .ok (.ireturn, 1) := by decide +kernel
def f_X6_settle (F : Nat) (S : mS) (t : Nat) (a1 : Int32) (a2 : Int32) (a3 : Int32) : Option (mS × Int32) := if (S.1 t 5) < (7 : Int32) then (ck (inb (S.1 t 5) 7) (stp (sI S (t + 1) (S.1 t 5).toNatClampNeg a1) fun S2 => ck (inb (S2.1 t 5) 7) (stp (sI S2 (t + 2) (S2.1 t 5).toNatClampNeg a2) fun S4 => ck (inb (S4.1 t 5) 7) (stp (sI S4 (t + 3) (S4.1 t 5).toNatClampNeg a3) fun S6 => stp (sI S6 t 5 ((S6.1 t 5) + (1 : Int32))) fun S7 => some (S7, (S7.1 t 5) - (1 : Int32)))))) else (some (S, (-1 : Int32)))
set_option maxHeartbeats 4000000 in
set_option maxRecDepth 100000 in
theorem c_X6_settle {F : Nat} {S : mS} {t : Nat} {a1 : Int32} {a2 : Int32} {a3 : Int32} {R : mS × Int32} (ht : kd0 t = 6) (h : f_X6_settle F S t a1 a2 a3 = some R) : mCt μX6_settle 1 0 0 E0 S [.ref (t), .int (a1), .int (a2), .int (a3)] (mQe R.1 (some (.int R.2))) := by
  unfold f_X6_settle at h
  refine mCt.of (by decide) (Nat.le_of_ble_eq_true rfl) ?_
  refine mG.aload_n 0 dX6_settle_0 rfl ?_
  refine mG.get (v := .int (S.1 t 5)) dX6_settle_1 mfX6_32 ht rfl ?_
  refine mG.bipush (v := 7) dX6_settle_4 (by decide) ?_
  refine mG.icmp_lt 11 dX6_settle_6 (by decide) (fun c8 => ?_) (fun c8 => ?_)
  · replace h := itp c8 h
    refine mG.aload_n 0 dX6_settle_11 rfl ?_
    refine mG.get (v := .ref (t + 1)) dX6_settle_12 mfX6_9 ht (lr6_shut ht) ?_
    refine mG.aload_n 0 dX6_settle_15 rfl ?_
    refine mG.get (v := .int (S.1 t 5)) dX6_settle_16 mfX6_32 ht rfl ?_
    refine mG.iload_n 1 dX6_settle_19 rfl ?_
    obtain ⟨b1, h⟩ := ckp h
    obtain ⟨S2, hS2, h⟩ := stpp h
    refine mG.iast dX6_settle_20 (lk6_shut ht) (ll6_shut ht) (inbp b1) hS2 ?_
    refine mG.aload_n 0 dX6_settle_21 rfl ?_
    refine mG.get (v := .ref (t + 2)) dX6_settle_22 mfX6_15 ht (lr6_purse ht) ?_
    refine mG.aload_n 0 dX6_settle_25 rfl ?_
    refine mG.get (v := .int (S2.1 t 5)) dX6_settle_26 mfX6_32 ht rfl ?_
    refine mG.iload_n 2 dX6_settle_29 rfl ?_
    obtain ⟨b3, h⟩ := ckp h
    obtain ⟨S4, hS4, h⟩ := stpp h
    refine mG.iast dX6_settle_30 (lk6_purse ht) (ll6_purse ht) (inbp b3) hS4 ?_
    refine mG.aload_n 0 dX6_settle_31 rfl ?_
    refine mG.get (v := .ref (t + 3)) dX6_settle_32 mfX6_18 ht (lr6_friends ht) ?_
    refine mG.aload_n 0 dX6_settle_35 rfl ?_
    refine mG.get (v := .int (S4.1 t 5)) dX6_settle_36 mfX6_32 ht rfl ?_
    refine mG.iload_n 3 dX6_settle_39 rfl ?_
    obtain ⟨b5, h⟩ := ckp h
    obtain ⟨S6, hS6, h⟩ := stpp h
    refine mG.iast dX6_settle_40 (lk6_friends ht) (ll6_friends ht) (inbp b5) hS6 ?_
    refine mG.aload_n 0 dX6_settle_41 rfl ?_
    refine mG.dup dX6_settle_42 rfl ?_
    refine mG.get (v := .int (S6.1 t 5)) dX6_settle_43 mfX6_32 ht rfl ?_
    refine mG.iconst (v := 1) dX6_settle_46 rfl ?_
    refine mG.iadd dX6_settle_47 ?_
    obtain ⟨S7, hS7, h⟩ := stpp h
    refine mG.putI dX6_settle_48 mfX6_32 rfl (Or.inl rfl) ht hS7 ?_
    refine mG.aload_n 0 dX6_settle_51 rfl ?_
    refine mG.get (v := .int (S7.1 t 5)) dX6_settle_52 mfX6_32 ht rfl ?_
    refine mG.iconst (v := 1) dX6_settle_55 rfl ?_
    refine mG.isub dX6_settle_56 ?_
    obtain rfl := Option.some.inj h
    exact mG.iret dX6_settle_57 rfl ⟨rfl, rfl, rfl⟩
  · replace h := itn c8 h
    refine mG.iconst (v := (-1)) dX6_settle_9 rfl ?_
    obtain rfl := Option.some.inj h
    exact mG.iret dX6_settle_10 rfl ⟨rfl, rfl, rfl⟩
theorem dX6_befriend_0 : decode cX6_befriend 0 = .ok (.aload_n 0, 1) := by decide +kernel
theorem dX6_befriend_1 : decode cX6_befriend 1 = .ok (.iload_n 1, 1) := by decide +kernel
theorem dX6_befriend_2 : decode cX6_befriend 2 = .ok (.invokevirtual 56, 3) := by decide +kernel
theorem dX6_befriend_5 : decode cX6_befriend 5 = .ok (.ifCond .eq 26, 3) := by decide +kernel
theorem dX6_befriend_8 : decode cX6_befriend 8 = .ok (.aload_n 0, 1) := by decide +kernel
theorem dX6_befriend_9 : decode cX6_befriend 9 = .ok (.getfield 18, 3) := by decide +kernel
theorem dX6_befriend_12 : decode cX6_befriend 12 = .ok (.iload_n 1, 1) := by decide +kernel
theorem dX6_befriend_13 : decode cX6_befriend 13 = .ok (.iconst 0, 1) := by decide +kernel
theorem dX6_befriend_14 : decode cX6_befriend 14 = .ok (.bipush 99, 2) := by decide +kernel
theorem dX6_befriend_16 : decode cX6_befriend 16 = .ok (.aload_n 0, 1) := by decide +kernel
theorem dX6_befriend_17 : decode cX6_befriend 17 = .ok (.getfield 18, 3) := by decide +kernel
theorem dX6_befriend_20 : decode cX6_befriend 20 = .ok (.iload_n 1, 1) := by decide +kernel
theorem dX6_befriend_21 : decode cX6_befriend 21 = .ok (.iaload, 1) := by decide +kernel
theorem dX6_befriend_22 : decode cX6_befriend 22 = .ok (.iload_n 2, 1) := by decide +kernel
theorem dX6_befriend_23 : decode cX6_befriend 23 = .ok (.iadd, 1) := by decide +kernel
theorem dX6_befriend_24 : decode cX6_befriend 24 = .ok (.invokestatic 35, 3) := by decide +kernel
theorem dX6_befriend_27 : decode cX6_befriend 27 = .ok (.invokestatic 76, 3) := by decide +kernel
theorem dX6_befriend_30 : decode cX6_befriend 30 = .ok (.iastore, 1) := by decide +kernel
theorem dX6_befriend_31 : decode cX6_befriend 31 = .ok (.return_, 1) := by decide +kernel
def f_X6_befriend (F : Nat) (S : mS) (t : Nat) (a1 : Int32) (a2 : Int32) : Option mS := if (f_X6_told S t a1) = true then (ck (inb a1 7) (ck (inb a1 7) (stp (sI S (t + 3) a1.toNatClampNeg (imax (0 : Int32) (imin (99 : Int32) ((S.1 (t + 3) a1.toNatClampNeg) + a2)))) fun S3 => some S3))) else (some S)
set_option maxHeartbeats 4000000 in
set_option maxRecDepth 100000 in
theorem c_X6_befriend {F : Nat} {S : mS} {t : Nat} {a1 : Int32} {a2 : Int32} {R : mS} (ht : kd0 t = 6) (h : f_X6_befriend F S t a1 a2 = some R) : mCt μX6_befriend 2 0 0 E0 S [.ref (t), .int (a1), .int (a2)] (mQe R none) := by
  unfold f_X6_befriend at h
  refine mCt.of (by decide) (Nat.le_of_ble_eq_true rfl) ?_
  refine mG.aload_n 0 dX6_befriend_0 rfl ?_
  refine mG.iload_n 1 dX6_befriend_1 rfl ?_
  refine mG.callV0 (as := [.int (a1)]) (st := []) (S2 := S) (r := some (.int (bI (f_X6_told S t a1)))) dX6_befriend_2 mvX6_told wk27_11 rfl ht rfl (by decide) (Nat.le_of_ble_eq_true rfl) (c_X6_told ht rfl) ?_
  refine mG.ifz_eq (b := f_X6_told S t a1) 31 dX6_befriend_5 (by decide) (fun c4 => ?_) (fun c4 => ?_)
  · replace h := itn c4 h
    obtain rfl := Option.some.inj h
    exact mG.vret dX6_befriend_31 rfl ⟨rfl, rfl, rfl⟩
  · replace h := itp c4 h
    refine mG.aload_n 0 dX6_befriend_8 rfl ?_
    refine mG.get (v := .ref (t + 3)) dX6_befriend_9 mfX6_18 ht (lr6_friends ht) ?_
    refine mG.iload_n 1 dX6_befriend_12 rfl ?_
    refine mG.iconst (v := 0) dX6_befriend_13 rfl ?_
    refine mG.bipush (v := 99) dX6_befriend_14 (by decide) ?_
    refine mG.aload_n 0 dX6_befriend_16 rfl ?_
    refine mG.get (v := .ref (t + 3)) dX6_befriend_17 mfX6_18 ht (lr6_friends ht) ?_
    refine mG.iload_n 1 dX6_befriend_20 rfl ?_
    obtain ⟨b1, h⟩ := ckp h
    refine mG.iald dX6_befriend_21 (lk6_friends ht) (ll6_friends ht) (inbp b1) ?_
    refine mG.iload_n 2 dX6_befriend_22 rfl ?_
    refine mG.iadd dX6_befriend_23 ?_
    refine mG.mmin dX6_befriend_24 wk28_10 (by decide) (Nat.le_of_ble_eq_true rfl) (Nat.le_refl _) (Nat.le_refl _) ?_
    refine mG.mmax dX6_befriend_27 wk29_11 (by decide) (Nat.le_of_ble_eq_true rfl) (Nat.le_refl _) (Nat.le_refl _) ?_
    obtain ⟨b2, h⟩ := ckp h
    obtain ⟨S3, hS3, h⟩ := stpp h
    refine mG.iast dX6_befriend_30 (lk6_friends ht) (ll6_friends ht) (inbp b2) hS3 ?_
    obtain rfl := Option.some.inj h
    exact mG.vret dX6_befriend_31 rfl ⟨rfl, rfl, rfl⟩
theorem dX6_join_0 : decode cX6_join 0 = .ok (.aload_n 0, 1) := by decide +kernel
theorem dX6_join_1 : decode cX6_join 1 = .ok (.iload_n 1, 1) := by decide +kernel
theorem dX6_join_2 : decode cX6_join 2 = .ok (.invokevirtual 89, 3) := by decide +kernel
theorem dX6_join_5 : decode cX6_join 5 = .ok (.ifCond .eq 79, 3) := by decide +kernel
theorem dX6_join_8 : decode cX6_join 8 = .ok (.aload_n 0, 1) := by decide +kernel
theorem dX6_join_9 : decode cX6_join 9 = .ok (.iload_n 2, 1) := by decide +kernel
theorem dX6_join_10 : decode cX6_join 10 = .ok (.invokevirtual 89, 3) := by decide +kernel
theorem dX6_join_13 : decode cX6_join 13 = .ok (.ifCond .eq 71, 3) := by decide +kernel
theorem dX6_join_16 : decode cX6_join 16 = .ok (.aload_n 0, 1) := by decide +kernel
theorem dX6_join_17 : decode cX6_join 17 = .ok (.getfield 9, 3) := by decide +kernel
theorem dX6_join_20 : decode cX6_join 20 = .ok (.iload_n 2, 1) := by decide +kernel
theorem dX6_join_21 : decode cX6_join 21 = .ok (.iload_n 3, 1) := by decide +kernel
theorem dX6_join_22 : decode cX6_join 22 = .ok (.iastore, 1) := by decide +kernel
theorem dX6_join_23 : decode cX6_join 23 = .ok (.aload_n 0, 1) := by decide +kernel
theorem dX6_join_24 : decode cX6_join 24 = .ok (.getfield 15, 3) := by decide +kernel
theorem dX6_join_27 : decode cX6_join 27 = .ok (.iload_n 2, 1) := by decide +kernel
theorem dX6_join_28 : decode cX6_join 28 = .ok (.sipush 9999, 3) := by decide +kernel
theorem dX6_join_31 : decode cX6_join 31 = .ok (.aload_n 0, 1) := by decide +kernel
theorem dX6_join_32 : decode cX6_join 32 = .ok (.getfield 15, 3) := by decide +kernel
theorem dX6_join_35 : decode cX6_join 35 = .ok (.iload_n 1, 1) := by decide +kernel
theorem dX6_join_36 : decode cX6_join 36 = .ok (.iaload, 1) := by decide +kernel
theorem dX6_join_37 : decode cX6_join 37 = .ok (.aload_n 0, 1) := by decide +kernel
theorem dX6_join_38 : decode cX6_join 38 = .ok (.getfield 15, 3) := by decide +kernel
theorem dX6_join_41 : decode cX6_join 41 = .ok (.iload_n 2, 1) := by decide +kernel
theorem dX6_join_42 : decode cX6_join 42 = .ok (.iaload, 1) := by decide +kernel
theorem dX6_join_43 : decode cX6_join 43 = .ok (.iadd, 1) := by decide +kernel
theorem dX6_join_44 : decode cX6_join 44 = .ok (.invokestatic 35, 3) := by decide +kernel
theorem dX6_join_47 : decode cX6_join 47 = .ok (.iastore, 1) := by decide +kernel
theorem dX6_join_48 : decode cX6_join 48 = .ok (.aload_n 0, 1) := by decide +kernel
theorem dX6_join_49 : decode cX6_join 49 = .ok (.getfield 18, 3) := by decide +kernel
theorem dX6_join_52 : decode cX6_join 52 = .ok (.iload_n 2, 1) := by decide +kernel
theorem dX6_join_53 : decode cX6_join 53 = .ok (.bipush 99, 2) := by decide +kernel
theorem dX6_join_55 : decode cX6_join 55 = .ok (.aload_n 0, 1) := by decide +kernel
theorem dX6_join_56 : decode cX6_join 56 = .ok (.getfield 18, 3) := by decide +kernel
theorem dX6_join_59 : decode cX6_join 59 = .ok (.iload_n 1, 1) := by decide +kernel
theorem dX6_join_60 : decode cX6_join 60 = .ok (.iaload, 1) := by decide +kernel
theorem dX6_join_61 : decode cX6_join 61 = .ok (.aload_n 0, 1) := by decide +kernel
theorem dX6_join_62 : decode cX6_join 62 = .ok (.getfield 18, 3) := by decide +kernel
theorem dX6_join_65 : decode cX6_join 65 = .ok (.iload_n 2, 1) := by decide +kernel
theorem dX6_join_66 : decode cX6_join 66 = .ok (.iaload, 1) := by decide +kernel
theorem dX6_join_67 : decode cX6_join 67 = .ok (.iadd, 1) := by decide +kernel
theorem dX6_join_68 : decode cX6_join 68 = .ok (.invokestatic 35, 3) := by decide +kernel
theorem dX6_join_71 : decode cX6_join 71 = .ok (.iastore, 1) := by decide +kernel
theorem dX6_join_72 : decode cX6_join 72 = .ok (.aload_n 0, 1) := by decide +kernel
theorem dX6_join_73 : decode cX6_join 73 = .ok (.dup, 1) := by decide +kernel
theorem dX6_join_74 : decode cX6_join 74 = .ok (.getfield 50, 3) := by decide +kernel
theorem dX6_join_77 : decode cX6_join 77 = .ok (.iconst 1, 1) := by decide +kernel
theorem dX6_join_78 : decode cX6_join 78 = .ok (.iload_n 1, 1) := by decide +kernel
theorem dX6_join_79 : decode cX6_join 79 = .ok (.ishl, 1) := by decide +kernel
theorem dX6_join_80 : decode cX6_join 80 = .ok (.ior, 1) := by decide +kernel
theorem dX6_join_81 : decode cX6_join 81 = .ok (.putfield 50, 3) := by decide +kernel
theorem dX6_join_84 : decode cX6_join 84 = .ok (.return_, 1) := by decide +kernel
def f_X6_join (F : Nat) (S : mS) (t : Nat) (a1 : Int32) (a2 : Int32) (a3 : Int32) : Option mS := if (f_X6_lives S t a1) = true then (if (f_X6_lives S t a2) = true then (ck (inb a2 7) (stp (sI S (t + 1) a2.toNatClampNeg a3) fun S2 => ck (inb a1 7) (ck (inb a2 7) (ck (inb a2 7) (stp (sI S2 (t + 2) a2.toNatClampNeg (imin (9999 : Int32) ((S2.1 (t + 2) a1.toNatClampNeg) + (S2.1 (t + 2) a2.toNatClampNeg)))) fun S6 => ck (inb a1 7) (ck (inb a2 7) (ck (inb a2 7) (stp (sI S6 (t + 3) a2.toNatClampNeg (imin (99 : Int32) ((S6.1 (t + 3) a1.toNatClampNeg) + (S6.1 (t + 3) a2.toNatClampNeg)))) fun S10 => stp (sI S10 t 6 ((S10.1 t 6) ||| ((1 : Int32) <<< (a1 &&& 31)))) fun S11 => some S11)))))))) else (some S)) else (some S)
set_option maxHeartbeats 4000000 in
set_option maxRecDepth 100000 in
theorem c_X6_join {F : Nat} {S : mS} {t : Nat} {a1 : Int32} {a2 : Int32} {a3 : Int32} {R : mS} (ht : kd0 t = 6) (h : f_X6_join F S t a1 a2 a3 = some R) : mCt μX6_join 3 0 0 E0 S [.ref (t), .int (a1), .int (a2), .int (a3)] (mQe R none) := by
  unfold f_X6_join at h
  refine mCt.of (by decide) (Nat.le_of_ble_eq_true rfl) ?_
  refine mG.aload_n 0 dX6_join_0 rfl ?_
  refine mG.iload_n 1 dX6_join_1 rfl ?_
  refine mG.callV0 (as := [.int (a1)]) (st := []) (S2 := S) (r := some (.int (bI (f_X6_lives S t a1)))) dX6_join_2 mvX6_lives wk36_12 rfl ht rfl (by decide) (Nat.le_of_ble_eq_true rfl) (c_X6_lives ht rfl) ?_
  refine mG.ifz_eq (b := f_X6_lives S t a1) 84 dX6_join_5 (by decide) (fun c13 => ?_) (fun c13 => ?_)
  · replace h := itn c13 h
    obtain rfl := Option.some.inj h
    exact mG.vret dX6_join_84 rfl ⟨rfl, rfl, rfl⟩
  · replace h := itp c13 h
    refine mG.aload_n 0 dX6_join_8 rfl ?_
    refine mG.iload_n 2 dX6_join_9 rfl ?_
    refine mG.callV0 (as := [.int (a2)]) (st := []) (S2 := S) (r := some (.int (bI (f_X6_lives S t a2)))) dX6_join_10 mvX6_lives wk36_12 rfl ht rfl (by decide) (Nat.le_of_ble_eq_true rfl) (c_X6_lives ht rfl) ?_
    refine mG.ifz_eq (b := f_X6_lives S t a2) 84 dX6_join_13 (by decide) (fun c12 => ?_) (fun c12 => ?_)
    · replace h := itn c12 h
      obtain rfl := Option.some.inj h
      exact mG.vret dX6_join_84 rfl ⟨rfl, rfl, rfl⟩
    · replace h := itp c12 h
      refine mG.aload_n 0 dX6_join_16 rfl ?_
      refine mG.get (v := .ref (t + 1)) dX6_join_17 mfX6_9 ht (lr6_shut ht) ?_
      refine mG.iload_n 2 dX6_join_20 rfl ?_
      refine mG.iload_n 3 dX6_join_21 rfl ?_
      obtain ⟨b1, h⟩ := ckp h
      obtain ⟨S2, hS2, h⟩ := stpp h
      refine mG.iast dX6_join_22 (lk6_shut ht) (ll6_shut ht) (inbp b1) hS2 ?_
      refine mG.aload_n 0 dX6_join_23 rfl ?_
      refine mG.get (v := .ref (t + 2)) dX6_join_24 mfX6_15 ht (lr6_purse ht) ?_
      refine mG.iload_n 2 dX6_join_27 rfl ?_
      refine mG.sipush (v := 9999) dX6_join_28 (by decide) ?_
      refine mG.aload_n 0 dX6_join_31 rfl ?_
      refine mG.get (v := .ref (t + 2)) dX6_join_32 mfX6_15 ht (lr6_purse ht) ?_
      refine mG.iload_n 1 dX6_join_35 rfl ?_
      obtain ⟨b3, h⟩ := ckp h
      refine mG.iald dX6_join_36 (lk6_purse ht) (ll6_purse ht) (inbp b3) ?_
      refine mG.aload_n 0 dX6_join_37 rfl ?_
      refine mG.get (v := .ref (t + 2)) dX6_join_38 mfX6_15 ht (lr6_purse ht) ?_
      refine mG.iload_n 2 dX6_join_41 rfl ?_
      obtain ⟨b4, h⟩ := ckp h
      refine mG.iald dX6_join_42 (lk6_purse ht) (ll6_purse ht) (inbp b4) ?_
      refine mG.iadd dX6_join_43 ?_
      refine mG.mmin dX6_join_44 wk28_10 (by decide) (Nat.le_of_ble_eq_true rfl) (Nat.le_refl _) (Nat.le_refl _) ?_
      obtain ⟨b5, h⟩ := ckp h
      obtain ⟨S6, hS6, h⟩ := stpp h
      refine mG.iast dX6_join_47 (lk6_purse ht) (ll6_purse ht) (inbp b5) hS6 ?_
      refine mG.aload_n 0 dX6_join_48 rfl ?_
      refine mG.get (v := .ref (t + 3)) dX6_join_49 mfX6_18 ht (lr6_friends ht) ?_
      refine mG.iload_n 2 dX6_join_52 rfl ?_
      refine mG.bipush (v := 99) dX6_join_53 (by decide) ?_
      refine mG.aload_n 0 dX6_join_55 rfl ?_
      refine mG.get (v := .ref (t + 3)) dX6_join_56 mfX6_18 ht (lr6_friends ht) ?_
      refine mG.iload_n 1 dX6_join_59 rfl ?_
      obtain ⟨b7, h⟩ := ckp h
      refine mG.iald dX6_join_60 (lk6_friends ht) (ll6_friends ht) (inbp b7) ?_
      refine mG.aload_n 0 dX6_join_61 rfl ?_
      refine mG.get (v := .ref (t + 3)) dX6_join_62 mfX6_18 ht (lr6_friends ht) ?_
      refine mG.iload_n 2 dX6_join_65 rfl ?_
      obtain ⟨b8, h⟩ := ckp h
      refine mG.iald dX6_join_66 (lk6_friends ht) (ll6_friends ht) (inbp b8) ?_
      refine mG.iadd dX6_join_67 ?_
      refine mG.mmin dX6_join_68 wk28_10 (by decide) (Nat.le_of_ble_eq_true rfl) (Nat.le_refl _) (Nat.le_refl _) ?_
      obtain ⟨b9, h⟩ := ckp h
      obtain ⟨S10, hS10, h⟩ := stpp h
      refine mG.iast dX6_join_71 (lk6_friends ht) (ll6_friends ht) (inbp b9) hS10 ?_
      refine mG.aload_n 0 dX6_join_72 rfl ?_
      refine mG.dup dX6_join_73 rfl ?_
      refine mG.get (v := .int (S10.1 t 6)) dX6_join_74 mfX6_50 ht rfl ?_
      refine mG.iconst (v := 1) dX6_join_77 rfl ?_
      refine mG.iload_n 1 dX6_join_78 rfl ?_
      refine mG.ishl dX6_join_79 ?_
      refine mG.ior dX6_join_80 ?_
      obtain ⟨S11, hS11, h⟩ := stpp h
      refine mG.putI dX6_join_81 mfX6_50 rfl (Or.inl rfl) ht hS11 ?_
      obtain rfl := Option.some.inj h
      exact mG.vret dX6_join_84 rfl ⟨rfl, rfl, rfl⟩
theorem dX6_loot_0 : decode cX6_loot 0 = .ok (.aload_n 0, 1) := by decide +kernel
theorem dX6_loot_1 : decode cX6_loot 1 = .ok (.iload_n 1, 1) := by decide +kernel
theorem dX6_loot_2 : decode cX6_loot 2 = .ok (.invokevirtual 56, 3) := by decide +kernel
theorem dX6_loot_5 : decode cX6_loot 5 = .ok (.ifCond .ne 5, 3) := by decide +kernel
theorem dX6_loot_8 : decode cX6_loot 8 = .ok (.iconst 0, 1) := by decide +kernel
theorem dX6_loot_9 : decode cX6_loot 9 = .ok (.ireturn, 1) := by decide +kernel
theorem dX6_loot_10 : decode cX6_loot 10 = .ok (.iconst 0, 1) := by decide +kernel
theorem dX6_loot_11 : decode cX6_loot 11 = .ok (.istore 4, 2) := by decide +kernel
theorem dX6_loot_13 : decode cX6_loot 13 = .ok (.iconst 0, 1) := by decide +kernel
theorem dX6_loot_14 : decode cX6_loot 14 = .ok (.istore 5, 2) := by decide +kernel
theorem dX6_loot_16 : decode cX6_loot 16 = .ok (.iload_n 1, 1) := by decide +kernel
theorem dX6_loot_17 : decode cX6_loot 17 = .ok (.istore 6, 2) := by decide +kernel
theorem dX6_loot_19 : decode cX6_loot 19 = .ok (.iload 6, 2) := by decide +kernel
theorem dX6_loot_21 : decode cX6_loot 21 = .ok (.aload_n 0, 1) := by decide +kernel
theorem dX6_loot_22 : decode cX6_loot 22 = .ok (.getfield 32, 3) := by decide +kernel
theorem dX6_loot_25 : decode cX6_loot 25 = .ok (.if_icmp .ge 55, 3) := by decide +kernel
theorem dX6_loot_28 : decode cX6_loot 28 = .ok (.iload 5, 2) := by decide +kernel
theorem dX6_loot_30 : decode cX6_loot 30 = .ok (.iload_n 3, 1) := by decide +kernel
theorem dX6_loot_31 : decode cX6_loot 31 = .ok (.if_icmp .ge 49, 3) := by decide +kernel
theorem dX6_loot_34 : decode cX6_loot 34 = .ok (.aload_n 0, 1) := by decide +kernel
theorem dX6_loot_35 : decode cX6_loot 35 = .ok (.iload 6, 2) := by decide +kernel
theorem dX6_loot_37 : decode cX6_loot 37 = .ok (.invokevirtual 60, 3) := by decide +kernel
theorem dX6_loot_40 : decode cX6_loot 40 = .ok (.ifCond .eq 6, 3) := by decide +kernel
theorem dX6_loot_43 : decode cX6_loot 43 = .ok (.goto 31, 3) := by decide +kernel
theorem dX6_loot_46 : decode cX6_loot 46 = .ok (.aload_n 0, 1) := by decide +kernel
theorem dX6_loot_47 : decode cX6_loot 47 = .ok (.iload 6, 2) := by decide +kernel
theorem dX6_loot_49 : decode cX6_loot 49 = .ok (.iload_n 2, 1) := by decide +kernel
theorem dX6_loot_50 : decode cX6_loot 50 = .ok (.invokevirtual 98, 3) := by decide +kernel
theorem dX6_loot_53 : decode cX6_loot 53 = .ok (.ifCond .ne 6, 3) := by decide +kernel
theorem dX6_loot_56 : decode cX6_loot 56 = .ok (.iload 4, 2) := by decide +kernel
theorem dX6_loot_58 : decode cX6_loot 58 = .ok (.ireturn, 1) := by decide +kernel
theorem dX6_loot_59 : decode cX6_loot 59 = .ok (.iload 4, 2) := by decide +kernel
theorem dX6_loot_61 : decode cX6_loot 61 = .ok (.aload_n 0, 1) := by decide +kernel
theorem dX6_loot_62 : decode cX6_loot 62 = .ok (.getfield 15, 3) := by decide +kernel
theorem dX6_loot_65 : decode cX6_loot 65 = .ok (.iload 6, 2) := by decide +kernel
theorem dX6_loot_67 : decode cX6_loot 67 = .ok (.iaload, 1) := by decide +kernel
theorem dX6_loot_68 : decode cX6_loot 68 = .ok (.iadd, 1) := by decide +kernel
theorem dX6_loot_69 : decode cX6_loot 69 = .ok (.istore 4, 2) := by decide +kernel
theorem dX6_loot_71 : decode cX6_loot 71 = .ok (.iinc 5 1, 3) := by decide +kernel
theorem dX6_loot_74 : decode cX6_loot 74 = .ok (.iinc 6 1, 3) := by decide +kernel
theorem dX6_loot_77 : decode cX6_loot 77 = .ok (.goto (-58), 3) := by decide +kernel
theorem dX6_loot_80 : decode cX6_loot 80 = .ok (.iload 4, 2) := by decide +kernel
theorem dX6_loot_82 : decode cX6_loot 82 = .ok (.ireturn, 1) := by decide +kernel
def lX6_loot_19 (F : Nat)  (t : Nat) (a1 : Int32) (a2 : Int32) (a3 : Int32) : Nat → mS → Int32 → Int32 → Int32 → Option Int32
  | 0, _, _, _, _ => none
  | n + 1, S0, v4, v5, v6 => if (S0.1 t 5) ≤ v6 then (some v4) else (if a3 ≤ v5 then (some v4) else (if (f_X6_isGone S0 t v6) = true then (lX6_loot_19 F  t a1 a2 a3 n S0 v4 v5 (v6 + 1)) else (bd (f_X6_isShut F S0 t v6 a2) fun q1 => if q1 = true then (ck (inb v6 7) (lX6_loot_19 F  t a1 a2 a3 n S0 (v4 + (S0.1 (t + 2) v6.toNatClampNeg)) (v5 + 1) (v6 + 1))) else (some v4))))
set_option maxHeartbeats 4000000 in
set_option maxRecDepth 100000 in
theorem gX6_loot_19 {F : Nat} {t : Nat} {a1 : Int32} {a2 : Int32} {a3 : Int32} {S0 : mS}   {R : Int32} (ht : kd0 t = 6)  : ∀ (n : Nat) (v4 : Int32) (v5 : Int32) (v6 : Int32), lX6_loot_19 F  t a1 a2 a3 n S0 v4 v5 v6 = some R → mG μX6_loot 3 0 0 (mQe S0 (some (.int R))) 0 0 E0 S0 19 [(0, .ref (t)), (2, .int (a2)), (3, .int (a3)), (4, .int (v4)), (5, .int (v5)), (6, .int (v6))] [] := by
  intro n
  induction n with
  | zero =>
    intro v4 v5 v6 h
    cases h
  | succ n ih =>
    intro v4 v5 v6 h
    unfold lX6_loot_19 at h
    refine mG.iload 5 dX6_loot_19 rfl ?_
    refine mG.aload_n 0 dX6_loot_21 rfl ?_
    refine mG.get (v := .int (S0.1 t 5)) dX6_loot_22 mfX6_32 ht rfl ?_
    refine mG.icmp_ge 80 dX6_loot_25 (by decide) (fun c6 => ?_) (fun c6 => ?_)
    · replace h := itp c6 h
      refine mG.iload 3 dX6_loot_80 rfl ?_
      obtain rfl := Option.some.inj h
      exact mG.iret dX6_loot_82 rfl ⟨rfl, rfl, rfl⟩
    · replace h := itn c6 h
      refine mG.iload 4 dX6_loot_28 rfl ?_
      refine mG.iload_n 2 dX6_loot_30 rfl ?_
      refine mG.icmp_ge 80 dX6_loot_31 (by decide) (fun c5 => ?_) (fun c5 => ?_)
      · replace h := itp c5 h
        refine mG.iload 3 dX6_loot_80 rfl ?_
        obtain rfl := Option.some.inj h
        exact mG.iret dX6_loot_82 rfl ⟨rfl, rfl, rfl⟩
      · replace h := itn c5 h
        refine mG.aload_n 0 dX6_loot_34 rfl ?_
        refine mG.iload 5 dX6_loot_35 rfl ?_
        refine mG.callV0 (as := [.int (v6)]) (st := []) (S2 := S0) (r := some (.int (bI (f_X6_isGone S0 t v6)))) dX6_loot_37 mvX6_isGone wk27_15 rfl ht rfl (by decide) (Nat.le_of_ble_eq_true rfl) (c_X6_isGone ht rfl) ?_
        refine mG.ifz_eq (b := f_X6_isGone S0 t v6) 46 dX6_loot_40 (by decide) (fun c4 => ?_) (fun c4 => ?_)
        · replace h := itn c4 h
          refine mG.aload_n 0 dX6_loot_46 rfl ?_
          refine mG.iload 5 dX6_loot_47 rfl ?_
          refine mG.iload_n 1 dX6_loot_49 rfl ?_
          obtain ⟨q1, hq1, h⟩ := bdp h
          refine mG.callV0 (as := [.int (v6), .int (a2)]) (st := []) (S2 := S0) (r := some (.int (bI (q1)))) dX6_loot_50 mvX6_isShut wk37_15 rfl ht rfl (by decide) (Nat.le_of_ble_eq_true rfl) (c_X6_isShut ht hq1) ?_
          refine mG.ifz_ne (b := q1) 59 dX6_loot_53 (by decide) (fun c3 => ?_) (fun c3 => ?_)
          · replace h := itp c3 h
            refine mG.iload 3 dX6_loot_59 rfl ?_
            refine mG.aload_n 0 dX6_loot_61 rfl ?_
            refine mG.get (v := .ref (t + 2)) dX6_loot_62 mfX6_15 ht (lr6_purse ht) ?_
            refine mG.iload 5 dX6_loot_65 rfl ?_
            obtain ⟨b2, h⟩ := ckp h
            refine mG.iald dX6_loot_67 (lk6_purse ht) (ll6_purse ht) (inbp b2) ?_
            refine mG.iadd dX6_loot_68 ?_
            refine mG.istore (lv2 := [(4, .int (v4 + (S0.1 (t + 2) v6.toNatClampNeg))), (0, .ref (t)), (2, .int (a2)), (3, .int (a3)), (5, .int (v5)), (6, .int (v6))]) dX6_loot_69 (by decide) rfl ?_
            refine mG.iinc 4 (u := v5 + 1) (lv2 := [(5, .int (v5 + 1)), (4, .int (v4 + (S0.1 (t + 2) v6.toNatClampNeg))), (0, .ref (t)), (2, .int (a2)), (3, .int (a3)), (6, .int (v6))]) dX6_loot_71 rfl rfl (by decide) rfl ?_
            refine mG.iinc 5 (u := v6 + 1) (lv2 := [(6, .int (v6 + 1)), (5, .int (v5 + 1)), (4, .int (v4 + (S0.1 (t + 2) v6.toNatClampNeg))), (0, .ref (t)), (2, .int (a2)), (3, .int (a3))]) dX6_loot_74 rfl rfl (by decide) rfl ?_
            refine mG.goto 19 dX6_loot_77 (by decide) ?_
            refine mG.sub (lv2 := [(0, .ref (t)), (2, .int (a2)), (3, .int (a3)), (4, .int (v4 + (S0.1 (t + 2) v6.toNatClampNeg))), (5, .int (v5 + 1)), (6, .int (v6 + 1))]) [3, 4, 5, 2, 1, 0] rfl ?_
            exact ih  (v4 + (S0.1 (t + 2) v6.toNatClampNeg)) (v5 + 1) (v6 + 1)  h
          · replace h := itn c3 h
            refine mG.iload 3 dX6_loot_56 rfl ?_
            obtain rfl := Option.some.inj h
            exact mG.iret dX6_loot_58 rfl ⟨rfl, rfl, rfl⟩
        · replace h := itp c4 h
          refine mG.goto 74 dX6_loot_43 (by decide) ?_
          refine mG.iinc 5 (u := v6 + 1) (lv2 := [(6, .int (v6 + 1)), (0, .ref (t)), (2, .int (a2)), (3, .int (a3)), (4, .int (v4)), (5, .int (v5))]) dX6_loot_74 rfl rfl (by decide) rfl ?_
          refine mG.goto 19 dX6_loot_77 (by decide) ?_
          refine mG.sub (lv2 := [(0, .ref (t)), (2, .int (a2)), (3, .int (a3)), (4, .int (v4)), (5, .int (v5)), (6, .int (v6 + 1))]) [1, 2, 3, 4, 5, 0] rfl ?_
          exact ih  v4 v5 (v6 + 1)  h
def f_X6_loot (F : Nat) (S0 : mS) (t : Nat) (a1 : Int32) (a2 : Int32) (a3 : Int32) : Option Int32 := if (f_X6_told S0 t a1) = true then (lX6_loot_19 F  t a1 a2 a3 F S0 (0 : Int32) (0 : Int32) a1) else (some (0 : Int32))
set_option maxHeartbeats 4000000 in
set_option maxRecDepth 100000 in
theorem c_X6_loot {F : Nat} {S0 : mS} {t : Nat} {a1 : Int32} {a2 : Int32} {a3 : Int32} {R : Int32} (ht : kd0 t = 6) (h : f_X6_loot F S0 t a1 a2 a3 = some R) : mCt μX6_loot 3 0 0 E0 S0 [.ref (t), .int (a1), .int (a2), .int (a3)] (mQe S0 (some (.int R))) := by
  unfold f_X6_loot at h
  refine mCt.of (by decide) (Nat.le_of_ble_eq_true rfl) ?_
  refine mG.aload_n 0 dX6_loot_0 rfl ?_
  refine mG.iload_n 1 dX6_loot_1 rfl ?_
  refine mG.callV0 (as := [.int (a1)]) (st := []) (S2 := S0) (r := some (.int (bI (f_X6_told S0 t a1)))) dX6_loot_2 mvX6_told wk27_11 rfl ht rfl (by decide) (Nat.le_of_ble_eq_true rfl) (c_X6_told ht rfl) ?_
  refine mG.ifz_ne (b := f_X6_told S0 t a1) 10 dX6_loot_5 (by decide) (fun c1 => ?_) (fun c1 => ?_)
  · replace h := itp c1 h
    refine mG.iconst (v := 0) dX6_loot_10 rfl ?_
    refine mG.istore (lv2 := [(4, .int 0), (0, .ref (t)), (1, .int (a1)), (2, .int (a2)), (3, .int (a3))]) dX6_loot_11 (by decide) rfl ?_
    refine mG.iconst (v := 0) dX6_loot_13 rfl ?_
    refine mG.istore (lv2 := [(5, .int 0), (4, .int 0), (0, .ref (t)), (1, .int (a1)), (2, .int (a2)), (3, .int (a3))]) dX6_loot_14 (by decide) rfl ?_
    refine mG.iload_n 3 dX6_loot_16 rfl ?_
    refine mG.istore (lv2 := [(6, .int (a1)), (5, .int 0), (4, .int 0), (0, .ref (t)), (1, .int (a1)), (2, .int (a2)), (3, .int (a3))]) dX6_loot_17 (by decide) rfl ?_
    refine mG.sub (lv2 := [(0, .ref (t)), (2, .int (a2)), (3, .int (a3)), (4, .int 0), (5, .int 0), (6, .int (a1))]) [3, 5, 6, 2, 1, 0] rfl ?_
    exact gX6_loot_19 ht  F  (0 : Int32) (0 : Int32) a1  h
  · replace h := itn c1 h
    refine mG.iconst (v := 0) dX6_loot_8 rfl ?_
    obtain rfl := Option.some.inj h
    exact mG.iret dX6_loot_9 rfl ⟨rfl, rfl, rfl⟩
theorem dX8_isWithin_0 : decode cX8_isWithin 0 = .ok (.iload_n 0, 1) := by decide +kernel
theorem dX8_isWithin_1 : decode cX8_isWithin 1 = .ok (.iload_n 1, 1) := by decide +kernel
theorem dX8_isWithin_2 : decode cX8_isWithin 2 = .ok (.if_icmp .lt 12, 3) := by decide +kernel
theorem dX8_isWithin_5 : decode cX8_isWithin 5 = .ok (.iload_n 0, 1) := by decide +kernel
theorem dX8_isWithin_6 : decode cX8_isWithin 6 = .ok (.iload_n 2, 1) := by decide +kernel
theorem dX8_isWithin_7 : decode cX8_isWithin 7 = .ok (.if_icmp .gt 7, 3) := by decide +kernel
theorem dX8_isWithin_10 : decode cX8_isWithin 10 = .ok (.iconst 1, 1) := by decide +kernel
theorem dX8_isWithin_11 : decode cX8_isWithin 11 = .ok (.goto 4, 3) := by decide +kernel
theorem dX8_isWithin_14 : decode cX8_isWithin 14 = .ok (.iconst 0, 1) := by decide +kernel
theorem dX8_isWithin_15 : decode cX8_isWithin 15 = .ok (.ireturn, 1) := by decide +kernel
def f_X8_isWithin (S0 : mS) (a1 : Int32) (a2 : Int32) (a3 : Int32) : Bool := if a1 < a2 then (false) else (if a3 < a1 then (false) else (true))
set_option maxHeartbeats 4000000 in
set_option maxRecDepth 100000 in
theorem c_X8_isWithin {S0 : mS} {a1 : Int32} {a2 : Int32} {a3 : Int32} {R : Bool}  (h : f_X8_isWithin S0 a1 a2 a3 = R) : mCt μX8_isWithin 1 0 0 E0 S0 [.int (a1), .int (a2), .int (a3)] (mQe S0 (some (.int (bI R)))) := by
  unfold f_X8_isWithin at h
  refine mCt.of (by decide) (Nat.le_of_ble_eq_true rfl) ?_
  refine mG.iload_n 0 dX8_isWithin_0 rfl ?_
  refine mG.iload_n 1 dX8_isWithin_1 rfl ?_
  refine mG.icmp_lt 14 dX8_isWithin_2 (by decide) (fun c2 => ?_) (fun c2 => ?_)
  · replace h := itp c2 h
    refine mG.iconst (v := 0) dX8_isWithin_14 rfl ?_
    subst h
    exact mG.zret (b := false) dX8_isWithin_15 rfl rfl ⟨rfl, rfl, rfl⟩
  · replace h := itn c2 h
    refine mG.iload_n 0 dX8_isWithin_5 rfl ?_
    refine mG.iload_n 2 dX8_isWithin_6 rfl ?_
    refine mG.icmp_gt 14 dX8_isWithin_7 (by decide) (fun c1 => ?_) (fun c1 => ?_)
    · replace h := itp c1 h
      refine mG.iconst (v := 0) dX8_isWithin_14 rfl ?_
      subst h
      exact mG.zret (b := false) dX8_isWithin_15 rfl rfl ⟨rfl, rfl, rfl⟩
    · replace h := itn c1 h
      refine mG.iconst (v := 1) dX8_isWithin_10 rfl ?_
      refine mG.goto 15 dX8_isWithin_11 (by decide) ?_
      subst h
      exact mG.zret (b := true) dX8_isWithin_15 rfl rfl ⟨rfl, rfl, rfl⟩
theorem dX8_isDate_0 : decode cX8_isDate 0 = .ok (.iload_n 0, 1) := by decide +kernel
theorem dX8_isDate_1 : decode cX8_isDate 1 = .ok (.iconst 0, 1) := by decide +kernel
theorem dX8_isDate_2 : decode cX8_isDate 2 = .ok (.bipush 19, 2) := by decide +kernel
theorem dX8_isDate_4 : decode cX8_isDate 4 = .ok (.invokestatic 84, 3) := by decide +kernel
theorem dX8_isDate_7 : decode cX8_isDate 7 = .ok (.ireturn, 1) := by decide +kernel
def f_X8_isDate (S0 : mS) (a1 : Int32) : Bool := f_X8_isWithin S0 a1 (0 : Int32) (19 : Int32)
set_option maxHeartbeats 4000000 in
set_option maxRecDepth 100000 in
theorem c_X8_isDate {S0 : mS} {a1 : Int32} {R : Bool}  (h : f_X8_isDate S0 a1 = R) : mCt μX8_isDate 2 0 0 E0 S0 [.int (a1)] (mQe S0 (some (.int (bI R)))) := by
  unfold f_X8_isDate at h
  refine mCt.of (by decide) (Nat.le_of_ble_eq_true rfl) ?_
  refine mG.iload_n 0 dX8_isDate_0 rfl ?_
  refine mG.iconst (v := 0) dX8_isDate_1 rfl ?_
  refine mG.bipush (v := 19) dX8_isDate_2 (by decide) ?_
  refine mG.callS0 (as := [.int (a1), .int 0, .int 19]) (st := []) (S2 := S0) (r := some (.int (bI (f_X8_isWithin S0 a1 (0 : Int32) (19 : Int32))))) dX8_isDate_4 mbX8_isWithin wk6_19 wk6_18 rfl rfl (by decide) (Nat.le_of_ble_eq_true rfl) (c_X8_isWithin  rfl) ?_
  subst h
  exact mG.zret (b := f_X8_isWithin S0 a1 (0 : Int32) (19 : Int32)) dX8_isDate_7 rfl rfl ⟨rfl, rfl, rfl⟩
