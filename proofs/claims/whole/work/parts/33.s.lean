theorem dJ0_isLatin1_aae02_0 : decode cJ0_isLatin1_aae02 0 = .ok (.getstatic 38, 3) := by decide +kernel
theorem dJ0_isLatin1_aae02_3 : decode cJ0_isLatin1_aae02 3 = .ok (.ifCond .eq 14, 3) := by decide +kernel
theorem dJ0_isLatin1_aae02_6 : decode cJ0_isLatin1_aae02 6 = .ok (.aload_n 0, 1) := by decide +kernel
theorem dJ0_isLatin1_aae02_7 : decode cJ0_isLatin1_aae02 7 = .ok (.getfield 15, 3) := by decide +kernel
theorem dJ0_isLatin1_aae02_10 : decode cJ0_isLatin1_aae02 10 = .ok (.ifCond .ne 7, 3) := by decide +kernel
theorem dJ0_isLatin1_aae02_13 : decode cJ0_isLatin1_aae02 13 = .ok (.iconst 1, 1) := by decide +kernel
theorem dJ0_isLatin1_aae02_14 : decode cJ0_isLatin1_aae02 14 = .ok (.goto 4, 3) := by decide +kernel
theorem dJ0_isLatin1_aae02_17 : decode cJ0_isLatin1_aae02 17 = .ok (.iconst 0, 1) := by decide +kernel
theorem dJ0_isLatin1_aae02_18 : decode cJ0_isLatin1_aae02 18 = .ok (.ireturn, 1) := by decide +kernel
def f_J0_isLatin1_aae02 (S0 : mS) (t : Nat) : Bool := if (1 : Int32) = 0 then (false) else (if (0 : Int32) = 0 then (true) else (false))
set_option maxHeartbeats 4000000 in
set_option maxRecDepth 100000 in
theorem c_J0_isLatin1_aae02 {S0 : mS} {t : Nat} {R : Bool} (ht : t < 2) (h : f_J0_isLatin1_aae02 S0 t = R) : mCt μJ0_isLatin1_aae02 1 0 0 E0 S0 [.float (UInt32.ofNat (t))] (mQe S0 (some (.int (bI R)))) := by
  unfold f_J0_isLatin1_aae02 at h
  refine mCt.of (by decide) (Nat.le_of_ble_eq_true rfl) ?_
  intro x
  refine mG.getsC dJ0_isLatin1_aae02_0 wk11_14 ?_
  refine mG.if_eq 17 dJ0_isLatin1_aae02_3 (by decide) (fun c2 => ?_) (fun c2 => ?_)
  · replace h := itp c2 h
    refine mG.iconst (v := 0) dJ0_isLatin1_aae02_17 rfl ?_
    subst h
    exact mG.zret (b := false) dJ0_isLatin1_aae02_18 rfl rfl ⟨rfl, rfl, rfl⟩
  · replace h := itn c2 h
    refine mG.sload_n 0 dJ0_isLatin1_aae02_6 rfl ?_
    refine mG.getCoder t ht dJ0_isLatin1_aae02_7 wk11_15 ?_
    refine mG.if_ne 17 dJ0_isLatin1_aae02_10 (by decide) (fun c1 => ?_) (fun c1 => ?_)
    · replace h := itn c1 h
      refine mG.iconst (v := 0) dJ0_isLatin1_aae02_17 rfl ?_
      subst h
      exact mG.zret (b := false) dJ0_isLatin1_aae02_18 rfl rfl ⟨rfl, rfl, rfl⟩
    · replace h := itp c1 h
      refine mG.iconst (v := 1) dJ0_isLatin1_aae02_13 rfl ?_
      refine mG.goto 18 dJ0_isLatin1_aae02_14 (by decide) ?_
      subst h
      exact mG.zret (b := true) dJ0_isLatin1_aae02_18 rfl rfl ⟨rfl, rfl, rfl⟩
theorem dJ3_checkIndex_8e157_0 : decode cJ3_checkIndex_8e157 0 = .ok (.iload_n 0, 1) := by decide +kernel
theorem dJ3_checkIndex_8e157_1 : decode cJ3_checkIndex_8e157 1 = .ok (.ifCond .lt 8, 3) := by decide +kernel
theorem dJ3_checkIndex_8e157_4 : decode cJ3_checkIndex_8e157 4 = .ok (.iload_n 0, 1) := by decide +kernel
theorem dJ3_checkIndex_8e157_5 : decode cJ3_checkIndex_8e157 5 = .ok (.iload_n 1, 1) := by decide +kernel
theorem dJ3_checkIndex_8e157_6 : decode cJ3_checkIndex_8e157 6 = .ok (.if_icmp .lt 10, 3) := by decide +kernel
theorem dJ3_checkIndex_8e157_9 : decode cJ3_checkIndex_8e157 9 = .ok (.aload_n 2, 1) := by decide +kernel
theorem dJ3_checkIndex_8e157_10 : decode cJ3_checkIndex_8e157 10 = .ok (.iload_n 0, 1) := by decide +kernel
theorem dJ3_checkIndex_8e157_11 : decode cJ3_checkIndex_8e157 11 = .ok (.iload_n 1, 1) := by decide +kernel
theorem dJ3_checkIndex_8e157_12 : decode cJ3_checkIndex_8e157 12 = .ok (.invokestatic 95, 3) := by decide +kernel
theorem dJ3_checkIndex_8e157_15 : decode cJ3_checkIndex_8e157 15 = .ok (.athrow, 1) := by decide +kernel
theorem dJ3_checkIndex_8e157_16 : decode cJ3_checkIndex_8e157 16 = .ok (.iload_n 0, 1) := by decide +kernel
theorem dJ3_checkIndex_8e157_17 : decode cJ3_checkIndex_8e157 17 = .ok (.ireturn, 1) := by decide +kernel
def f_J3_checkIndex_8e157 (F : Nat) (S0 : mS) (a1 : Int32) (a2 : Int32) : Option Int32 := if a1 < 0 then (none) else (if a1 < a2 then (some a1) else (none))
set_option maxHeartbeats 4000000 in
set_option maxRecDepth 100000 in
theorem c_J3_checkIndex_8e157 {F : Nat} {S0 : mS} {a1 : Int32} {a2 : Int32} {R : Int32}  (h : f_J3_checkIndex_8e157 F S0 a1 a2 = some R) : mCt μJ3_checkIndex_8e157 1 0 0 E0 S0 [.int (a1), .int (a2), .float 4] (mQe S0 (some (.int R))) := by
  unfold f_J3_checkIndex_8e157 at h
  refine mCt.of (by decide) (Nat.le_of_ble_eq_true rfl) ?_
  intro x
  refine mG.iload_n 0 dJ3_checkIndex_8e157_0 rfl ?_
  refine mG.if_lt 9 dJ3_checkIndex_8e157_1 (by decide) (fun c2 => ?_) (fun c2 => ?_)
  · replace h := itp c2 h
    refine mG.sload_n 2 dJ3_checkIndex_8e157_9 rfl ?_
    refine mG.iload_n 0 dJ3_checkIndex_8e157_10 rfl ?_
    refine mG.iload_n 1 dJ3_checkIndex_8e157_11 rfl ?_
    cases h
  · replace h := itn c2 h
    refine mG.iload_n 0 dJ3_checkIndex_8e157_4 rfl ?_
    refine mG.iload_n 1 dJ3_checkIndex_8e157_5 rfl ?_
    refine mG.icmp_lt 16 dJ3_checkIndex_8e157_6 (by decide) (fun c1 => ?_) (fun c1 => ?_)
    · replace h := itp c1 h
      refine mG.iload_n 0 dJ3_checkIndex_8e157_16 rfl ?_
      obtain rfl := Option.some.inj h
      exact mG.iret dJ3_checkIndex_8e157_17 rfl ⟨rfl, rfl, rfl⟩
    · replace h := itn c1 h
      refine mG.sload_n 2 dJ3_checkIndex_8e157_9 rfl ?_
      refine mG.iload_n 0 dJ3_checkIndex_8e157_10 rfl ?_
      refine mG.iload_n 1 dJ3_checkIndex_8e157_11 rfl ?_
      cases h
theorem dJ0_checkIndex_df160_0 : decode cJ0_checkIndex_df160 0 = .ok (.iload_n 0, 1) := by decide +kernel
theorem dJ0_checkIndex_df160_1 : decode cJ0_checkIndex_df160 1 = .ok (.iload_n 1, 1) := by decide +kernel
theorem dJ0_checkIndex_df160_2 : decode cJ0_checkIndex_df160 2 = .ok (.getstatic 1053, 3) := by decide +kernel
theorem dJ0_checkIndex_df160_5 : decode cJ0_checkIndex_df160 5 = .ok (.invokestatic 1059, 3) := by decide +kernel
theorem dJ0_checkIndex_df160_8 : decode cJ0_checkIndex_df160 8 = .ok (.pop, 1) := by decide +kernel
theorem dJ0_checkIndex_df160_9 : decode cJ0_checkIndex_df160 9 = .ok (.return_, 1) := by decide +kernel
def f_J0_checkIndex_df160 (F : Nat) (S0 : mS) (a1 : Int32) (a2 : Int32) : Option Unit := bd (f_J3_checkIndex_8e157 F S0 a1 a2) fun q1 => some ()
set_option maxHeartbeats 4000000 in
set_option maxRecDepth 100000 in
theorem c_J0_checkIndex_df160 {F : Nat} {S0 : mS} {a1 : Int32} {a2 : Int32} {R : Unit}  (h : f_J0_checkIndex_df160 F S0 a1 a2 = some R) : mCt μJ0_checkIndex_df160 2 0 0 E0 S0 [.int (a1), .int (a2)] (mQe S0 none) := by
  unfold f_J0_checkIndex_df160 at h
  refine mCt.of (by decide) (Nat.le_of_ble_eq_true rfl) ?_
  intro x
  refine mG.iload_n 0 dJ0_checkIndex_df160_0 rfl ?_
  refine mG.iload_n 1 dJ0_checkIndex_df160_1 rfl ?_
  refine mG.getsF dJ0_checkIndex_df160_2 wk11_23 ?_
  obtain ⟨q1, hq1, h⟩ := bdp h
  refine mG.callS0 (as := [.int (a1), .int (a2), .float 4]) (st := []) (S2 := S0) (r := some (.int (q1))) dJ0_checkIndex_df160_5 mbJ3_checkIndex_8e157 wk12_1 wk12_0 rfl rfl (by decide) (Nat.le_of_ble_eq_true rfl) (c_J3_checkIndex_8e157  hq1) ?_
  refine mG.pop dJ0_checkIndex_df160_8 rfl ?_
  obtain rfl := Option.some.inj h
  exact mG.vret dJ0_checkIndex_df160_9 rfl ⟨rfl, rfl, rfl⟩
theorem dJ1_charAt_3b067_0 : decode cJ1_charAt_3b067 0 = .ok (.iload_n 1, 1) := by decide +kernel
theorem dJ1_charAt_3b067_1 : decode cJ1_charAt_3b067 1 = .ok (.aload_n 0, 1) := by decide +kernel
theorem dJ1_charAt_3b067_2 : decode cJ1_charAt_3b067 2 = .ok (.arraylength, 1) := by decide +kernel
theorem dJ1_charAt_3b067_3 : decode cJ1_charAt_3b067 3 = .ok (.invokestatic 9, 3) := by decide +kernel
theorem dJ1_charAt_3b067_6 : decode cJ1_charAt_3b067 6 = .ok (.aload_n 0, 1) := by decide +kernel
theorem dJ1_charAt_3b067_7 : decode cJ1_charAt_3b067 7 = .ok (.iload_n 1, 1) := by decide +kernel
theorem dJ1_charAt_3b067_8 : decode cJ1_charAt_3b067 8 = .ok (.baload, 1) := by decide +kernel
theorem dJ1_charAt_3b067_9 : decode cJ1_charAt_3b067 9 = .ok (.sipush 255, 3) := by decide +kernel
theorem dJ1_charAt_3b067_12 : decode cJ1_charAt_3b067 12 = .ok (.iand, 1) := by decide +kernel
theorem dJ1_charAt_3b067_13 : decode cJ1_charAt_3b067 13 = .ok (.i2c, 1) := by decide +kernel
theorem dJ1_charAt_3b067_14 : decode cJ1_charAt_3b067 14 = .ok (.ireturn, 1) := by decide +kernel
def f_J1_charAt_3b067 (F : Nat) (S0 : mS) (a1 : Nat) (a2 : Int32) : Option Int32 := bd (f_J0_checkIndex_df160 F S0 a2 (Int32.ofNat (strL.getD a1 0))) fun q1 => ck (inb a2 (strL.getD a1 0)) (ck (inb ((Int32.toUInt32 (((strB.getD a1 []).getD a2.toNatClampNeg 0) &&& (255 : Int32)) % 65536).toInt32) 65536) (some ((Int32.toUInt32 (((strB.getD a1 []).getD a2.toNatClampNeg 0) &&& (255 : Int32)) % 65536).toInt32)))
set_option maxHeartbeats 4000000 in
set_option maxRecDepth 100000 in
theorem c_J1_charAt_3b067 {F : Nat} {S0 : mS} {a1 : Nat} {a2 : Int32} {R : Int32} (ha1 : a1 < 2) (h : f_J1_charAt_3b067 F S0 a1 a2 = some R) : mCt μJ1_charAt_3b067 3 0 0 E0 S0 [.float (UInt32.ofNat (a1 + 2)), .int (a2)] (mQe S0 (some (.int R))) := by
  unfold f_J1_charAt_3b067 at h
  refine mCt.of (by decide) (Nat.le_of_ble_eq_true rfl) ?_
  intro x
  refine mG.iload_n 1 dJ1_charAt_3b067_0 rfl ?_
  refine mG.sload_n 0 dJ1_charAt_3b067_1 rfl ?_
  refine mG.balen a1 ha1 dJ1_charAt_3b067_2 rfl ?_
  obtain ⟨q1, hq1, h⟩ := bdp h
  refine mG.callS0 (as := [.int (a2), .int (Int32.ofNat (strL.getD a1 0))]) (st := []) (S2 := S0) (r := none) dJ1_charAt_3b067_3 mbJ0_checkIndex_df160 wk11_21 wk11_20 rfl rfl (by decide) (Nat.le_of_ble_eq_true rfl) (c_J0_checkIndex_df160  hq1) ?_
  refine mG.sload_n 0 dJ1_charAt_3b067_6 rfl ?_
  refine mG.iload_n 1 dJ1_charAt_3b067_7 rfl ?_
  obtain ⟨b2, h⟩ := ckp h
  refine mG.bald a1 ha1 dJ1_charAt_3b067_8 (inbp b2) ?_
  refine mG.sipush (v := 255) dJ1_charAt_3b067_9 (by decide) ?_
  refine mG.iand dJ1_charAt_3b067_12 ?_
  refine mG.i2c dJ1_charAt_3b067_13 ?_
  obtain ⟨b3, h⟩ := ckp h
  obtain rfl := Option.some.inj h
  exact mG.nret dJ1_charAt_3b067_14 rfl (nchar b3) ⟨rfl, rfl, rfl⟩
theorem dJ0_charAt_5068e_0 : decode cJ0_charAt_5068e 0 = .ok (.aload_n 0, 1) := by decide +kernel
theorem dJ0_charAt_5068e_1 : decode cJ0_charAt_5068e 1 = .ok (.invokevirtual 492, 3) := by decide +kernel
theorem dJ0_charAt_5068e_4 : decode cJ0_charAt_5068e 4 = .ok (.ifCond .eq 12, 3) := by decide +kernel
theorem dJ0_charAt_5068e_7 : decode cJ0_charAt_5068e 7 = .ok (.aload_n 0, 1) := by decide +kernel
theorem dJ0_charAt_5068e_8 : decode cJ0_charAt_5068e 8 = .ok (.getfield 9, 3) := by decide +kernel
theorem dJ0_charAt_5068e_11 : decode cJ0_charAt_5068e 11 = .ok (.iload_n 1, 1) := by decide +kernel
theorem dJ0_charAt_5068e_12 : decode cJ0_charAt_5068e 12 = .ok (.invokestatic 495, 3) := by decide +kernel
theorem dJ0_charAt_5068e_15 : decode cJ0_charAt_5068e 15 = .ok (.ireturn, 1) := by decide +kernel
theorem dJ0_charAt_5068e_16 : decode cJ0_charAt_5068e 16 = .ok (.aload_n 0, 1) := by decide +kernel
theorem dJ0_charAt_5068e_17 : decode cJ0_charAt_5068e 17 = .ok (.getfield 9, 3) := by decide +kernel
theorem dJ0_charAt_5068e_20 : decode cJ0_charAt_5068e 20 = .ok (.iload_n 1, 1) := by decide +kernel
theorem dJ0_charAt_5068e_21 : decode cJ0_charAt_5068e 21 = .ok (.invokestatic 498, 3) := by decide +kernel
theorem dJ0_charAt_5068e_24 : decode cJ0_charAt_5068e 24 = .ok (.ireturn, 1) := by decide +kernel
def f_J0_charAt_5068e (F : Nat) (S0 : mS) (t : Nat) (a1 : Int32) : Option Int32 := if (f_J0_isLatin1_aae02 S0 t) = true then (bd (f_J1_charAt_3b067 F S0 t a1) fun q1 => ck (inb q1 65536) (some q1)) else (none)
set_option maxHeartbeats 4000000 in
set_option maxRecDepth 100000 in
theorem c_J0_charAt_5068e {F : Nat} {S0 : mS} {t : Nat} {a1 : Int32} {R : Int32} (ht : t < 2) (h : f_J0_charAt_5068e F S0 t a1 = some R) : mCt μJ0_charAt_5068e 4 0 0 E0 S0 [.float (UInt32.ofNat (t)), .int (a1)] (mQe S0 (some (.int R))) := by
  unfold f_J0_charAt_5068e at h
  refine mCt.of (by decide) (Nat.le_of_ble_eq_true rfl) ?_
  intro x
  refine mG.sload_n 0 dJ0_charAt_5068e_0 rfl ?_
  refine mG.callVs0 (as := []) (st := []) (S2 := S0) (r := some (.int (bI (f_J0_isLatin1_aae02 S0 t)))) t ht dJ0_charAt_5068e_1 mbJ0_isLatin1_aae02 rfl wk11_11 wk11_12 wk11_10 rfl rfl (by decide) (Nat.le_of_ble_eq_true rfl) (c_J0_isLatin1_aae02 ht rfl) ?_
  refine mG.ifz_eq (b := f_J0_isLatin1_aae02 S0 t) 16 dJ0_charAt_5068e_4 (by decide) (fun c3 => ?_) (fun c3 => ?_)
  · replace h := itn c3 h
    refine mG.sload_n 0 dJ0_charAt_5068e_16 rfl ?_
    refine mG.getValue t ht dJ0_charAt_5068e_17 wk11_9 ?_
    refine mG.iload_n 1 dJ0_charAt_5068e_20 rfl ?_
    cases h
  · replace h := itp c3 h
    refine mG.sload_n 0 dJ0_charAt_5068e_7 rfl ?_
    refine mG.getValue t ht dJ0_charAt_5068e_8 wk11_9 ?_
    refine mG.iload_n 1 dJ0_charAt_5068e_11 rfl ?_
    obtain ⟨q1, hq1, h⟩ := bdp h
    refine mG.callS0 (as := [.float (UInt32.ofNat (t + 2)), .int (a1)]) (st := []) (S2 := S0) (r := some (.int (q1))) dJ0_charAt_5068e_12 mbJ1_charAt_3b067 wk11_17 wk11_16 rfl rfl (by decide) (Nat.le_of_ble_eq_true rfl) (c_J1_charAt_3b067 ht hq1) ?_
    obtain ⟨b2, h⟩ := ckp h
    obtain rfl := Option.some.inj h
    exact mG.nret dJ0_charAt_5068e_15 rfl (nchar b2) ⟨rfl, rfl, rfl⟩
theorem dX4_isWord_0 : decode cX4_isWord 0 = .ok (.iload_n 3, 1) := by decide +kernel
theorem dX4_isWord_1 : decode cX4_isWord 1 = .ok (.iload_n 2, 1) := by decide +kernel
theorem dX4_isWord_2 : decode cX4_isWord 2 = .ok (.isub, 1) := by decide +kernel
theorem dX4_isWord_3 : decode cX4_isWord 3 = .ok (.istore 4, 2) := by decide +kernel
theorem dX4_isWord_5 : decode cX4_isWord 5 = .ok (.iload_n 0, 1) := by decide +kernel
theorem dX4_isWord_6 : decode cX4_isWord 6 = .ok (.bipush 8, 2) := by decide +kernel
theorem dX4_isWord_8 : decode cX4_isWord 8 = .ok (.imul, 1) := by decide +kernel
theorem dX4_isWord_9 : decode cX4_isWord 9 = .ok (.istore 5, 2) := by decide +kernel
theorem dX4_isWord_11 : decode cX4_isWord 11 = .ok (.iload 4, 2) := by decide +kernel
theorem dX4_isWord_13 : decode cX4_isWord 13 = .ok (.bipush 8, 2) := by decide +kernel
theorem dX4_isWord_15 : decode cX4_isWord 15 = .ok (.if_icmp .ge 18, 3) := by decide +kernel
theorem dX4_isWord_18 : decode cX4_isWord 18 = .ok (.ldc 109, 2) := by decide +kernel
theorem dX4_isWord_20 : decode cX4_isWord 20 = .ok (.iload 5, 2) := by decide +kernel
theorem dX4_isWord_22 : decode cX4_isWord 22 = .ok (.iload 4, 2) := by decide +kernel
theorem dX4_isWord_24 : decode cX4_isWord 24 = .ok (.iadd, 1) := by decide +kernel
theorem dX4_isWord_25 : decode cX4_isWord 25 = .ok (.invokevirtual 111, 3) := by decide +kernel
theorem dX4_isWord_28 : decode cX4_isWord 28 = .ok (.bipush 32, 2) := by decide +kernel
theorem dX4_isWord_30 : decode cX4_isWord 30 = .ok (.if_icmp .eq 5, 3) := by decide +kernel
theorem dX4_isWord_33 : decode cX4_isWord 33 = .ok (.iconst 0, 1) := by decide +kernel
theorem dX4_isWord_34 : decode cX4_isWord 34 = .ok (.ireturn, 1) := by decide +kernel
theorem dX4_isWord_35 : decode cX4_isWord 35 = .ok (.iconst 0, 1) := by decide +kernel
theorem dX4_isWord_36 : decode cX4_isWord 36 = .ok (.istore 6, 2) := by decide +kernel
theorem dX4_isWord_38 : decode cX4_isWord 38 = .ok (.iload 6, 2) := by decide +kernel
theorem dX4_isWord_40 : decode cX4_isWord 40 = .ok (.iload 4, 2) := by decide +kernel
theorem dX4_isWord_42 : decode cX4_isWord 42 = .ok (.if_icmp .ge 30, 3) := by decide +kernel
theorem dX4_isWord_45 : decode cX4_isWord 45 = .ok (.ldc 109, 2) := by decide +kernel
theorem dX4_isWord_47 : decode cX4_isWord 47 = .ok (.iload 5, 2) := by decide +kernel
theorem dX4_isWord_49 : decode cX4_isWord 49 = .ok (.iload 6, 2) := by decide +kernel
theorem dX4_isWord_51 : decode cX4_isWord 51 = .ok (.iadd, 1) := by decide +kernel
theorem dX4_isWord_52 : decode cX4_isWord 52 = .ok (.invokevirtual 111, 3) := by decide +kernel
theorem dX4_isWord_55 : decode cX4_isWord 55 = .ok (.aload_n 1, 1) := by decide +kernel
theorem dX4_isWord_56 : decode cX4_isWord 56 = .ok (.iload_n 2, 1) := by decide +kernel
theorem dX4_isWord_57 : decode cX4_isWord 57 = .ok (.iload 6, 2) := by decide +kernel
theorem dX4_isWord_59 : decode cX4_isWord 59 = .ok (.iadd, 1) := by decide +kernel
theorem dX4_isWord_60 : decode cX4_isWord 60 = .ok (.iaload, 1) := by decide +kernel
theorem dX4_isWord_61 : decode cX4_isWord 61 = .ok (.if_icmp .eq 5, 3) := by decide +kernel
theorem dX4_isWord_64 : decode cX4_isWord 64 = .ok (.iconst 0, 1) := by decide +kernel
theorem dX4_isWord_65 : decode cX4_isWord 65 = .ok (.ireturn, 1) := by decide +kernel
theorem dX4_isWord_66 : decode cX4_isWord 66 = .ok (.iinc 6 1, 3) := by decide +kernel
theorem dX4_isWord_69 : decode cX4_isWord 69 = .ok (.goto (-31), 3) := by decide +kernel
theorem dX4_isWord_72 : decode cX4_isWord 72 = .ok (.iconst 1, 1) := by decide +kernel
theorem dX4_isWord_73 : decode cX4_isWord 73 = .ok (.ireturn, 1) := by decide +kernel
def lX4_isWord_38 (F : Nat)  (a1 : Int32) (a2 : Nat) (a3 : Int32) (a4 : Int32) : Nat → mS → Int32 → Int32 → Int32 → Option Bool
  | 0, _, _, _, _ => none
  | n + 1, S0, v4, v5, v6 => if v4 ≤ v6 then (some true) else (bd (f_J0_charAt_5068e F S0 0 (v5 + v6)) fun q1 => ck (inb (a3 + v6) 300) (if q1 = (S0.1 a2 (a3 + v6).toNatClampNeg) then (lX4_isWord_38 F  a1 a2 a3 a4 n S0 v4 v5 (v6 + 1)) else (some false)))
set_option maxHeartbeats 4000000 in
set_option maxRecDepth 100000 in
theorem gX4_isWord_38 {x : mX} {F : Nat} {a1 : Int32} {a2 : Nat} {a3 : Int32} {a4 : Int32} {S0 : mS}   {R : Bool} (ha2 : kd0 a2 = 10) (ga2 : ln0 a2 = 300)  : ∀ (n : Nat) (v4 : Int32) (v5 : Int32) (v6 : Int32), lX4_isWord_38 F  a1 a2 a3 a4 n S0 v4 v5 v6 = some R → mG x μX4_isWord 5 0 0 (mQe S0 (some (.int (bI R)))) 0 0 E0 S0 38 [(1, .ref (a2)), (2, .int (a3)), (4, .int (v4)), (5, .int (v5)), (6, .int (v6))] [] := by
  intro n
  induction n with
  | zero =>
    intro v4 v5 v6 h
    cases h
  | succ n ih =>
    intro v4 v5 v6 h
    unfold lX4_isWord_38 at h
    refine mG.iload 4 dX4_isWord_38 rfl ?_
    refine mG.iload 2 dX4_isWord_40 rfl ?_
    refine mG.icmp_ge 72 dX4_isWord_42 (by decide) (fun c4 => ?_) (fun c4 => ?_)
    · replace h := itp c4 h
      refine mG.iconst (v := 1) dX4_isWord_72 rfl ?_
      obtain rfl := Option.some.inj h
      exact mG.zret (b := true) dX4_isWord_73 rfl rfl ⟨rfl, rfl, rfl⟩
    · replace h := itn c4 h
      refine mG.ldcS 0 (by decide) dX4_isWord_45 rfl (Or.inl ⟨rfl, rfl⟩) ?_
      refine mG.iload 3 dX4_isWord_47 rfl ?_
      refine mG.iload 4 dX4_isWord_49 rfl ?_
      refine mG.iadd dX4_isWord_51 ?_
      obtain ⟨q1, hq1, h⟩ := bdp h
      refine mG.callVs0 (as := [.int (v5 + v6)]) (st := []) (S2 := S0) (r := some (.int (q1))) 0 (show 0 < 2 by decide) dX4_isWord_52 mbJ0_charAt_5068e rfl wk11_5 wk11_6 wk11_4 rfl rfl (by decide) (Nat.le_of_ble_eq_true rfl) (c_J0_charAt_5068e (show 0 < 2 by decide) hq1) ?_
      refine mG.aload_n 0 dX4_isWord_55 rfl ?_
      refine mG.iload_n 1 dX4_isWord_56 rfl ?_
      refine mG.iload 4 dX4_isWord_57 rfl ?_
      refine mG.iadd dX4_isWord_59 ?_
      obtain ⟨b2, h⟩ := ckp h
      refine mG.iald dX4_isWord_60 ha2 ga2 (inbp b2) ?_
      refine mG.icmp_eq 66 dX4_isWord_61 (by decide) (fun c3 => ?_) (fun c3 => ?_)
      · replace h := itp c3 h
        refine mG.iinc 4 (u := v6 + 1) (lv2 := [(6, .int (v6 + 1)), (1, .ref (a2)), (2, .int (a3)), (4, .int (v4)), (5, .int (v5))]) dX4_isWord_66 rfl rfl (by decide) rfl ?_
        refine mG.goto 38 dX4_isWord_69 (by decide) ?_
        refine mG.sub (lv2 := [(1, .ref (a2)), (2, .int (a3)), (4, .int (v4)), (5, .int (v5)), (6, .int (v6 + 1))]) [1, 2, 3, 4, 0] rfl ?_
        exact ih  v4 v5 (v6 + 1)  h
      · replace h := itn c3 h
        refine mG.iconst (v := 0) dX4_isWord_64 rfl ?_
        obtain rfl := Option.some.inj h
        exact mG.zret (b := false) dX4_isWord_65 rfl rfl ⟨rfl, rfl, rfl⟩
def f_X4_isWord (F : Nat) (S0 : mS) (a1 : Int32) (a2 : Nat) (a3 : Int32) (a4 : Int32) : Option Bool := if (8 : Int32) ≤ (a4 - a3) then (some false) else (bd (f_J0_charAt_5068e F S0 0 ((a1 * (8 : Int32)) + (a4 - a3))) fun q1 => if q1 = (32 : Int32) then (lX4_isWord_38 F  a1 a2 a3 a4 F S0 (a4 - a3) (a1 * (8 : Int32)) (0 : Int32)) else (some false))
set_option maxHeartbeats 4000000 in
set_option maxRecDepth 100000 in
theorem c_X4_isWord {F : Nat} {S0 : mS} {a1 : Int32} {a2 : Nat} {a3 : Int32} {a4 : Int32} {R : Bool} (ha2 : kd0 a2 = 10) (ga2 : ln0 a2 = 300) (h : f_X4_isWord F S0 a1 a2 a3 a4 = some R) : mCt μX4_isWord 5 0 0 E0 S0 [.int (a1), .ref (a2), .int (a3), .int (a4)] (mQe S0 (some (.int (bI R)))) := by
  unfold f_X4_isWord at h
  refine mCt.of (by decide) (Nat.le_of_ble_eq_true rfl) ?_
  intro x
  refine mG.iload_n 3 dX4_isWord_0 rfl ?_
  refine mG.iload_n 2 dX4_isWord_1 rfl ?_
  refine mG.isub dX4_isWord_2 ?_
  refine mG.istore (lv2 := [(4, .int (a4 - a3)), (0, .int (a1)), (1, .ref (a2)), (2, .int (a3)), (3, .int (a4))]) dX4_isWord_3 (by decide) rfl ?_
  refine mG.iload_n 1 dX4_isWord_5 rfl ?_
  refine mG.bipush (v := 8) dX4_isWord_6 (by decide) ?_
  refine mG.imul dX4_isWord_8 ?_
  refine mG.istore (lv2 := [(5, .int (a1 * (8 : Int32))), (4, .int (a4 - a3)), (0, .int (a1)), (1, .ref (a2)), (2, .int (a3)), (3, .int (a4))]) dX4_isWord_9 (by decide) rfl ?_
  refine mG.iload 1 dX4_isWord_11 rfl ?_
  refine mG.bipush (v := 8) dX4_isWord_13 (by decide) ?_
  refine mG.icmp_ge 33 dX4_isWord_15 (by decide) (fun c3 => ?_) (fun c3 => ?_)
  · replace h := itp c3 h
    refine mG.iconst (v := 0) dX4_isWord_33 rfl ?_
    obtain rfl := Option.some.inj h
    exact mG.zret (b := false) dX4_isWord_34 rfl rfl ⟨rfl, rfl, rfl⟩
  · replace h := itn c3 h
    refine mG.ldcS 0 (by decide) dX4_isWord_18 rfl (Or.inl ⟨rfl, rfl⟩) ?_
    refine mG.iload 0 dX4_isWord_20 rfl ?_
    refine mG.iload 1 dX4_isWord_22 rfl ?_
    refine mG.iadd dX4_isWord_24 ?_
    obtain ⟨q1, hq1, h⟩ := bdp h
    refine mG.callVs0 (as := [.int ((a1 * (8 : Int32)) + (a4 - a3))]) (st := []) (S2 := S0) (r := some (.int (q1))) 0 (show 0 < 2 by decide) dX4_isWord_25 mbJ0_charAt_5068e rfl wk11_5 wk11_6 wk11_4 rfl rfl (by decide) (Nat.le_of_ble_eq_true rfl) (c_J0_charAt_5068e (show 0 < 2 by decide) hq1) ?_
    refine mG.bipush (v := 32) dX4_isWord_28 (by decide) ?_
    refine mG.icmp_eq 35 dX4_isWord_30 (by decide) (fun c2 => ?_) (fun c2 => ?_)
    · replace h := itp c2 h
      refine mG.iconst (v := 0) dX4_isWord_35 rfl ?_
      refine mG.istore (lv2 := [(6, .int 0), (5, .int (a1 * (8 : Int32))), (4, .int (a4 - a3)), (0, .int (a1)), (1, .ref (a2)), (2, .int (a3)), (3, .int (a4))]) dX4_isWord_36 (by decide) rfl ?_
      refine mG.sub (lv2 := [(1, .ref (a2)), (2, .int (a3)), (4, .int (a4 - a3)), (5, .int (a1 * (8 : Int32))), (6, .int 0)]) [4, 5, 2, 1, 0] rfl ?_
      exact gX4_isWord_38 ha2 ga2  F  (a4 - a3) (a1 * (8 : Int32)) (0 : Int32)  h
    · replace h := itn c2 h
      refine mG.iconst (v := 0) dX4_isWord_33 rfl ?_
      obtain rfl := Option.some.inj h
      exact mG.zret (b := false) dX4_isWord_34 rfl rfl ⟨rfl, rfl, rfl⟩
theorem dX4_kindOfWord_0 : decode cX4_kindOfWord 0 = .ok (.iconst 0, 1) := by decide +kernel
theorem dX4_kindOfWord_1 : decode cX4_kindOfWord 1 = .ok (.istore_n 3, 1) := by decide +kernel
theorem dX4_kindOfWord_2 : decode cX4_kindOfWord 2 = .ok (.iload_n 3, 1) := by decide +kernel
theorem dX4_kindOfWord_3 : decode cX4_kindOfWord 3 = .ok (.bipush 22, 2) := by decide +kernel
theorem dX4_kindOfWord_5 : decode cX4_kindOfWord 5 = .ok (.if_icmp .ge 24, 3) := by decide +kernel
theorem dX4_kindOfWord_8 : decode cX4_kindOfWord 8 = .ok (.iload_n 3, 1) := by decide +kernel
theorem dX4_kindOfWord_9 : decode cX4_kindOfWord 9 = .ok (.aload_n 0, 1) := by decide +kernel
theorem dX4_kindOfWord_10 : decode cX4_kindOfWord 10 = .ok (.iload_n 1, 1) := by decide +kernel
theorem dX4_kindOfWord_11 : decode cX4_kindOfWord 11 = .ok (.iload_n 2, 1) := by decide +kernel
theorem dX4_kindOfWord_12 : decode cX4_kindOfWord 12 = .ok (.invokestatic 105, 3) := by decide +kernel
theorem dX4_kindOfWord_15 : decode cX4_kindOfWord 15 = .ok (.ifCond .eq 8, 3) := by decide +kernel
theorem dX4_kindOfWord_18 : decode cX4_kindOfWord 18 = .ok (.bipush 16, 2) := by decide +kernel
theorem dX4_kindOfWord_20 : decode cX4_kindOfWord 20 = .ok (.iload_n 3, 1) := by decide +kernel
theorem dX4_kindOfWord_21 : decode cX4_kindOfWord 21 = .ok (.iadd, 1) := by decide +kernel
theorem dX4_kindOfWord_22 : decode cX4_kindOfWord 22 = .ok (.ireturn, 1) := by decide +kernel
theorem dX4_kindOfWord_23 : decode cX4_kindOfWord 23 = .ok (.iinc 3 1, 3) := by decide +kernel
theorem dX4_kindOfWord_26 : decode cX4_kindOfWord 26 = .ok (.goto (-24), 3) := by decide +kernel
theorem dX4_kindOfWord_29 : decode cX4_kindOfWord 29 = .ok (.iconst 1, 1) := by decide +kernel
theorem dX4_kindOfWord_30 : decode cX4_kindOfWord 30 = .ok (.ireturn, 1) := by decide +kernel
def lX4_kindOfWord_2 (F : Nat)  (a1 : Nat) (a2 : Int32) (a3 : Int32) : Nat → mS → Int32 → Option Int32
  | 0, _, _ => none
  | n + 1, S0, v3 => if (22 : Int32) ≤ v3 then (some (1 : Int32)) else (bd (f_X4_isWord F S0 v3 a1 a2 a3) fun q1 => if q1 = true then (some ((16 : Int32) + v3)) else (lX4_kindOfWord_2 F  a1 a2 a3 n S0 (v3 + 1)))
set_option maxHeartbeats 4000000 in
set_option maxRecDepth 100000 in
theorem gX4_kindOfWord_2 {x : mX} {F : Nat} {a1 : Nat} {a2 : Int32} {a3 : Int32} {S0 : mS}   {R : Int32} (ha1 : kd0 a1 = 10) (ga1 : ln0 a1 = 300)  : ∀ (n : Nat) (v3 : Int32), lX4_kindOfWord_2 F  a1 a2 a3 n S0 v3 = some R → mG x μX4_kindOfWord 6 0 0 (mQe S0 (some (.int R))) 0 0 E0 S0 2 [(0, .ref (a1)), (1, .int (a2)), (2, .int (a3)), (3, .int (v3))] [] := by
  intro n
  induction n with
  | zero =>
    intro v3 h
    cases h
  | succ n ih =>
    intro v3 h
    unfold lX4_kindOfWord_2 at h
    refine mG.iload_n 3 dX4_kindOfWord_2 rfl ?_
    refine mG.bipush (v := 22) dX4_kindOfWord_3 (by decide) ?_
    refine mG.icmp_ge 29 dX4_kindOfWord_5 (by decide) (fun c3 => ?_) (fun c3 => ?_)
    · replace h := itp c3 h
      refine mG.iconst (v := 1) dX4_kindOfWord_29 rfl ?_
      obtain rfl := Option.some.inj h
      exact mG.iret dX4_kindOfWord_30 rfl ⟨rfl, rfl, rfl⟩
    · replace h := itn c3 h
      refine mG.iload_n 3 dX4_kindOfWord_8 rfl ?_
      refine mG.aload_n 0 dX4_kindOfWord_9 rfl ?_
      refine mG.iload_n 1 dX4_kindOfWord_10 rfl ?_
      refine mG.iload_n 2 dX4_kindOfWord_11 rfl ?_
      obtain ⟨q1, hq1, h⟩ := bdp h
      refine mG.callS0 (as := [.int (v3), .ref (a1), .int (a2), .int (a3)]) (st := []) (S2 := S0) (r := some (.int (bI (q1)))) dX4_kindOfWord_12 mbX4_isWord wk11_2 wk11_1 rfl rfl (by decide) (Nat.le_of_ble_eq_true rfl) (c_X4_isWord ha1 ga1 hq1) ?_
      refine mG.ifz_eq (b := q1) 23 dX4_kindOfWord_15 (by decide) (fun c2 => ?_) (fun c2 => ?_)
      · replace h := itn c2 h
        refine mG.iinc 3 (u := v3 + 1) (lv2 := [(3, .int (v3 + 1)), (0, .ref (a1)), (1, .int (a2)), (2, .int (a3))]) dX4_kindOfWord_23 rfl rfl (by decide) rfl ?_
        refine mG.goto 2 dX4_kindOfWord_26 (by decide) ?_
        refine mG.sub (lv2 := [(0, .ref (a1)), (1, .int (a2)), (2, .int (a3)), (3, .int (v3 + 1))]) [1, 2, 3, 0] rfl ?_
        exact ih  (v3 + 1)  h
      · replace h := itp c2 h
        refine mG.bipush (v := 16) dX4_kindOfWord_18 (by decide) ?_
        refine mG.iload_n 3 dX4_kindOfWord_20 rfl ?_
        refine mG.iadd dX4_kindOfWord_21 ?_
        obtain rfl := Option.some.inj h
        exact mG.iret dX4_kindOfWord_22 rfl ⟨rfl, rfl, rfl⟩
def f_X4_kindOfWord (F : Nat) (S0 : mS) (a1 : Nat) (a2 : Int32) (a3 : Int32) : Option Int32 := lX4_kindOfWord_2 F  a1 a2 a3 F S0 (0 : Int32)
set_option maxHeartbeats 4000000 in
set_option maxRecDepth 100000 in
theorem c_X4_kindOfWord {F : Nat} {S0 : mS} {a1 : Nat} {a2 : Int32} {a3 : Int32} {R : Int32} (ha1 : kd0 a1 = 10) (ga1 : ln0 a1 = 300) (h : f_X4_kindOfWord F S0 a1 a2 a3 = some R) : mCt μX4_kindOfWord 6 0 0 E0 S0 [.ref (a1), .int (a2), .int (a3)] (mQe S0 (some (.int R))) := by
  unfold f_X4_kindOfWord at h
  refine mCt.of (by decide) (Nat.le_of_ble_eq_true rfl) ?_
  intro x
  refine mG.iconst (v := 0) dX4_kindOfWord_0 rfl ?_
  refine mG.istore_n (lv2 := [(3, .int 0), (0, .ref (a1)), (1, .int (a2)), (2, .int (a3))]) dX4_kindOfWord_1 rfl (by decide) rfl ?_
  refine mG.sub (lv2 := [(0, .ref (a1)), (1, .int (a2)), (2, .int (a3)), (3, .int 0)]) [1, 2, 3, 0] rfl ?_
  exact gX4_kindOfWord_2 ha1 ga1  F  (0 : Int32)  h
theorem dJ0_coder_7d493_0 : decode cJ0_coder_7d493 0 = .ok (.getstatic 38, 3) := by decide +kernel
theorem dJ0_coder_7d493_3 : decode cJ0_coder_7d493 3 = .ok (.ifCond .eq 10, 3) := by decide +kernel
theorem dJ0_coder_7d493_6 : decode cJ0_coder_7d493 6 = .ok (.aload_n 0, 1) := by decide +kernel
theorem dJ0_coder_7d493_7 : decode cJ0_coder_7d493 7 = .ok (.getfield 15, 3) := by decide +kernel
theorem dJ0_coder_7d493_10 : decode cJ0_coder_7d493 10 = .ok (.goto 4, 3) := by decide +kernel
theorem dJ0_coder_7d493_13 : decode cJ0_coder_7d493 13 = .ok (.iconst 1, 1) := by decide +kernel
theorem dJ0_coder_7d493_14 : decode cJ0_coder_7d493 14 = .ok (.ireturn, 1) := by decide +kernel
def f_J0_coder_7d493 (F : Nat) (S0 : mS) (t : Nat) : Option Int32 := if (1 : Int32) = 0 then (ck (inb (1 : Int32) 2) (some (1 : Int32))) else (ck (inb (0 : Int32) 2) (some (0 : Int32)))
set_option maxHeartbeats 4000000 in
set_option maxRecDepth 100000 in
theorem c_J0_coder_7d493 {F : Nat} {S0 : mS} {t : Nat} {R : Int32} (ht : t < 2) (h : f_J0_coder_7d493 F S0 t = some R) : mCt μJ0_coder_7d493 1 0 0 E0 S0 [.float (UInt32.ofNat (t))] (mQe S0 (some (.int R))) := by
  unfold f_J0_coder_7d493 at h
  refine mCt.of (by decide) (Nat.le_of_ble_eq_true rfl) ?_
  intro x
  refine mG.getsC dJ0_coder_7d493_0 wk11_14 ?_
  refine mG.if_eq 13 dJ0_coder_7d493_3 (by decide) (fun c3 => ?_) (fun c3 => ?_)
  · replace h := itp c3 h
    refine mG.iconst (v := 1) dJ0_coder_7d493_13 rfl ?_
    obtain ⟨b1, h⟩ := ckp h
    obtain rfl := Option.some.inj h
    exact mG.nret dJ0_coder_7d493_14 rfl (nbyte b1) ⟨rfl, rfl, rfl⟩
  · replace h := itn c3 h
    refine mG.sload_n 0 dJ0_coder_7d493_6 rfl ?_
    refine mG.getCoder t ht dJ0_coder_7d493_7 wk11_15 ?_
    refine mG.goto 14 dJ0_coder_7d493_10 (by decide) ?_
    obtain ⟨b2, h⟩ := ckp h
    obtain rfl := Option.some.inj h
    exact mG.nret dJ0_coder_7d493_14 rfl (nbyte b2) ⟨rfl, rfl, rfl⟩
theorem dJ0_length_8abf5_0 : decode cJ0_length_8abf5 0 = .ok (.aload_n 0, 1) := by decide +kernel
theorem dJ0_length_8abf5_1 : decode cJ0_length_8abf5 1 = .ok (.getfield 9, 3) := by decide +kernel
theorem dJ0_length_8abf5_4 : decode cJ0_length_8abf5 4 = .ok (.arraylength, 1) := by decide +kernel
theorem dJ0_length_8abf5_5 : decode cJ0_length_8abf5 5 = .ok (.aload_n 0, 1) := by decide +kernel
theorem dJ0_length_8abf5_6 : decode cJ0_length_8abf5 6 = .ok (.invokevirtual 335, 3) := by decide +kernel
theorem dJ0_length_8abf5_9 : decode cJ0_length_8abf5 9 = .ok (.ishr, 1) := by decide +kernel
theorem dJ0_length_8abf5_10 : decode cJ0_length_8abf5 10 = .ok (.ireturn, 1) := by decide +kernel
def f_J0_length_8abf5 (F : Nat) (S0 : mS) (t : Nat) : Option Int32 := bd (f_J0_coder_7d493 F S0 t) fun q1 => some ((Int32.ofNat (strL.getD t 0)) >>> (q1 &&& 31))
set_option maxHeartbeats 4000000 in
set_option maxRecDepth 100000 in
theorem c_J0_length_8abf5 {F : Nat} {S0 : mS} {t : Nat} {R : Int32} (ht : t < 2) (h : f_J0_length_8abf5 F S0 t = some R) : mCt μJ0_length_8abf5 2 0 0 E0 S0 [.float (UInt32.ofNat (t))] (mQe S0 (some (.int R))) := by
  unfold f_J0_length_8abf5 at h
  refine mCt.of (by decide) (Nat.le_of_ble_eq_true rfl) ?_
  intro x
  refine mG.sload_n 0 dJ0_length_8abf5_0 rfl ?_
  refine mG.getValue t ht dJ0_length_8abf5_1 wk11_9 ?_
  refine mG.balen t ht dJ0_length_8abf5_4 rfl ?_
  refine mG.sload_n 0 dJ0_length_8abf5_5 rfl ?_
  obtain ⟨q1, hq1, h⟩ := bdp h
  refine mG.callVs0 (as := []) (st := [.int (Int32.ofNat (strL.getD t 0))]) (S2 := S0) (r := some (.int (q1))) t ht dJ0_length_8abf5_6 mbJ0_coder_7d493 rfl wk13_10 wk13_11 wk13_9 rfl rfl (by decide) (Nat.le_of_ble_eq_true rfl) (c_J0_coder_7d493 ht hq1) ?_
  refine mG.ishr dJ0_length_8abf5_9 ?_
  obtain rfl := Option.some.inj h
  exact mG.iret dJ0_length_8abf5_10 rfl ⟨rfl, rfl, rfl⟩
theorem dJ1_canEncode_9a6ad_0 : decode cJ1_canEncode_9a6ad 0 = .ok (.iload_n 0, 1) := by decide +kernel
theorem dJ1_canEncode_9a6ad_1 : decode cJ1_canEncode_9a6ad 1 = .ok (.ifCond .lt 14, 3) := by decide +kernel
theorem dJ1_canEncode_9a6ad_4 : decode cJ1_canEncode_9a6ad 4 = .ok (.iload_n 0, 1) := by decide +kernel
theorem dJ1_canEncode_9a6ad_5 : decode cJ1_canEncode_9a6ad 5 = .ok (.sipush 255, 3) := by decide +kernel
theorem dJ1_canEncode_9a6ad_8 : decode cJ1_canEncode_9a6ad 8 = .ok (.if_icmp .gt 7, 3) := by decide +kernel
theorem dJ1_canEncode_9a6ad_11 : decode cJ1_canEncode_9a6ad 11 = .ok (.iconst 1, 1) := by decide +kernel
theorem dJ1_canEncode_9a6ad_12 : decode cJ1_canEncode_9a6ad 12 = .ok (.goto 4, 3) := by decide +kernel
theorem dJ1_canEncode_9a6ad_15 : decode cJ1_canEncode_9a6ad 15 = .ok (.iconst 0, 1) := by decide +kernel
theorem dJ1_canEncode_9a6ad_16 : decode cJ1_canEncode_9a6ad 16 = .ok (.ireturn, 1) := by decide +kernel
def f_J1_canEncode_9a6ad (S0 : mS) (a1 : Int32) : Bool := if a1 < 0 then (false) else (if (255 : Int32) < a1 then (false) else (true))
set_option maxHeartbeats 4000000 in
set_option maxRecDepth 100000 in
theorem c_J1_canEncode_9a6ad {S0 : mS} {a1 : Int32} {R : Bool}  (h : f_J1_canEncode_9a6ad S0 a1 = R) : mCt μJ1_canEncode_9a6ad 1 0 0 E0 S0 [.int (a1)] (mQe S0 (some (.int (bI R)))) := by
  unfold f_J1_canEncode_9a6ad at h
  refine mCt.of (by decide) (Nat.le_of_ble_eq_true rfl) ?_
  intro x
  refine mG.iload_n 0 dJ1_canEncode_9a6ad_0 rfl ?_
  refine mG.if_lt 15 dJ1_canEncode_9a6ad_1 (by decide) (fun c2 => ?_) (fun c2 => ?_)
  · replace h := itp c2 h
    refine mG.iconst (v := 0) dJ1_canEncode_9a6ad_15 rfl ?_
    subst h
    exact mG.zret (b := false) dJ1_canEncode_9a6ad_16 rfl rfl ⟨rfl, rfl, rfl⟩
  · replace h := itn c2 h
    refine mG.iload_n 0 dJ1_canEncode_9a6ad_4 rfl ?_
    refine mG.sipush (v := 255) dJ1_canEncode_9a6ad_5 (by decide) ?_
    refine mG.icmp_gt 15 dJ1_canEncode_9a6ad_8 (by decide) (fun c1 => ?_) (fun c1 => ?_)
    · replace h := itp c1 h
      refine mG.iconst (v := 0) dJ1_canEncode_9a6ad_15 rfl ?_
      subst h
      exact mG.zret (b := false) dJ1_canEncode_9a6ad_16 rfl rfl ⟨rfl, rfl, rfl⟩
    · replace h := itn c1 h
      refine mG.iconst (v := 1) dJ1_canEncode_9a6ad_11 rfl ?_
      refine mG.goto 16 dJ1_canEncode_9a6ad_12 (by decide) ?_
      subst h
      exact mG.zret (b := true) dJ1_canEncode_9a6ad_16 rfl rfl ⟨rfl, rfl, rfl⟩
theorem dJ1_indexOfChar_4cfef_0 : decode cJ1_indexOfChar_4cfef 0 = .ok (.iload_n 1, 1) := by decide +kernel
theorem dJ1_indexOfChar_4cfef_1 : decode cJ1_indexOfChar_4cfef 1 = .ok (.i2b, 1) := by decide +kernel
theorem dJ1_indexOfChar_4cfef_2 : decode cJ1_indexOfChar_4cfef 2 = .ok (.istore 4, 2) := by decide +kernel
theorem dJ1_indexOfChar_4cfef_4 : decode cJ1_indexOfChar_4cfef 4 = .ok (.iload_n 2, 1) := by decide +kernel
theorem dJ1_indexOfChar_4cfef_5 : decode cJ1_indexOfChar_4cfef 5 = .ok (.istore 5, 2) := by decide +kernel
theorem dJ1_indexOfChar_4cfef_7 : decode cJ1_indexOfChar_4cfef 7 = .ok (.iload 5, 2) := by decide +kernel
theorem dJ1_indexOfChar_4cfef_9 : decode cJ1_indexOfChar_4cfef 9 = .ok (.iload_n 3, 1) := by decide +kernel
theorem dJ1_indexOfChar_4cfef_10 : decode cJ1_indexOfChar_4cfef 10 = .ok (.if_icmp .ge 21, 3) := by decide +kernel
theorem dJ1_indexOfChar_4cfef_13 : decode cJ1_indexOfChar_4cfef 13 = .ok (.aload_n 0, 1) := by decide +kernel
theorem dJ1_indexOfChar_4cfef_14 : decode cJ1_indexOfChar_4cfef 14 = .ok (.iload 5, 2) := by decide +kernel
theorem dJ1_indexOfChar_4cfef_16 : decode cJ1_indexOfChar_4cfef 16 = .ok (.baload, 1) := by decide +kernel
theorem dJ1_indexOfChar_4cfef_17 : decode cJ1_indexOfChar_4cfef 17 = .ok (.iload 4, 2) := by decide +kernel
theorem dJ1_indexOfChar_4cfef_19 : decode cJ1_indexOfChar_4cfef 19 = .ok (.if_icmp .ne 6, 3) := by decide +kernel
theorem dJ1_indexOfChar_4cfef_22 : decode cJ1_indexOfChar_4cfef 22 = .ok (.iload 5, 2) := by decide +kernel
theorem dJ1_indexOfChar_4cfef_24 : decode cJ1_indexOfChar_4cfef 24 = .ok (.ireturn, 1) := by decide +kernel
theorem dJ1_indexOfChar_4cfef_25 : decode cJ1_indexOfChar_4cfef 25 = .ok (.iinc 5 1, 3) := by decide +kernel
theorem dJ1_indexOfChar_4cfef_28 : decode cJ1_indexOfChar_4cfef 28 = .ok (.goto (-21), 3) := by decide +kernel
theorem dJ1_indexOfChar_4cfef_31 : decode cJ1_indexOfChar_4cfef 31 = .ok (.iconst (-1), 1) := by decide +kernel
theorem dJ1_indexOfChar_4cfef_32 : decode cJ1_indexOfChar_4cfef 32 = .ok (.ireturn, 1) := by decide +kernel
def lJ1_indexOfChar_4cfef_7 (F : Nat)  (a1 : Nat) (a2 : Int32) (a3 : Int32) (a4 : Int32) : Nat → mS → Int32 → Int32 → Option Int32
  | 0, _, _, _ => none
  | n + 1, S0, v4, v5 => if a4 ≤ v5 then (some (-1 : Int32)) else (ck (inb v5 (strL.getD a1 0)) (if ((strB.getD a1 []).getD v5.toNatClampNeg 0) = v4 then (some v5) else (lJ1_indexOfChar_4cfef_7 F  a1 a2 a3 a4 n S0 v4 (v5 + 1))))
set_option maxHeartbeats 4000000 in
set_option maxRecDepth 100000 in
theorem gJ1_indexOfChar_4cfef_7 {x : mX} {F : Nat} {a1 : Nat} {a2 : Int32} {a3 : Int32} {a4 : Int32} {S0 : mS}   {R : Int32} (ha1 : a1 < 2)  : ∀ (n : Nat) (v4 : Int32) (v5 : Int32), lJ1_indexOfChar_4cfef_7 F  a1 a2 a3 a4 n S0 v4 v5 = some R → mG x μJ1_indexOfChar_4cfef 1 0 0 (mQe S0 (some (.int R))) 0 0 E0 S0 7 [(0, .float (UInt32.ofNat (a1 + 2))), (3, .int (a4)), (4, .int (v4)), (5, .int (v5))] [] := by
  intro n
  induction n with
  | zero =>
    intro v4 v5 h
    cases h
  | succ n ih =>
    intro v4 v5 h
    unfold lJ1_indexOfChar_4cfef_7 at h
    refine mG.iload 3 dJ1_indexOfChar_4cfef_7 rfl ?_
    refine mG.iload_n 1 dJ1_indexOfChar_4cfef_9 rfl ?_
    refine mG.icmp_ge 31 dJ1_indexOfChar_4cfef_10 (by decide) (fun c3 => ?_) (fun c3 => ?_)
    · replace h := itp c3 h
      refine mG.iconst (v := (-1)) dJ1_indexOfChar_4cfef_31 rfl ?_
      obtain rfl := Option.some.inj h
      exact mG.iret dJ1_indexOfChar_4cfef_32 rfl ⟨rfl, rfl, rfl⟩
    · replace h := itn c3 h
      refine mG.sload_n 0 dJ1_indexOfChar_4cfef_13 rfl ?_
      refine mG.iload 3 dJ1_indexOfChar_4cfef_14 rfl ?_
      obtain ⟨b1, h⟩ := ckp h
      refine mG.bald a1 ha1 dJ1_indexOfChar_4cfef_16 (inbp b1) ?_
      refine mG.iload 2 dJ1_indexOfChar_4cfef_17 rfl ?_
      refine mG.icmp_ne 25 dJ1_indexOfChar_4cfef_19 (by decide) (fun c2 => ?_) (fun c2 => ?_)
      · replace h := itn c2 h
        refine mG.iinc 3 (u := v5 + 1) (lv2 := [(5, .int (v5 + 1)), (0, .float (UInt32.ofNat (a1 + 2))), (3, .int (a4)), (4, .int (v4))]) dJ1_indexOfChar_4cfef_25 rfl rfl (by decide) rfl ?_
        refine mG.goto 7 dJ1_indexOfChar_4cfef_28 (by decide) ?_
        refine mG.sub (lv2 := [(0, .float (UInt32.ofNat (a1 + 2))), (3, .int (a4)), (4, .int (v4)), (5, .int (v5 + 1))]) [1, 2, 3, 0] rfl ?_
        exact ih  v4 (v5 + 1)  h
      · replace h := itp c2 h
        refine mG.iload 3 dJ1_indexOfChar_4cfef_22 rfl ?_
        obtain rfl := Option.some.inj h
        exact mG.iret dJ1_indexOfChar_4cfef_24 rfl ⟨rfl, rfl, rfl⟩
def f_J1_indexOfChar_4cfef (F : Nat) (S0 : mS) (a1 : Nat) (a2 : Int32) (a3 : Int32) (a4 : Int32) : Option Int32 := lJ1_indexOfChar_4cfef_7 F  a1 a2 a3 a4 F S0 a2.toInt8.toInt32 a3
set_option maxHeartbeats 4000000 in
set_option maxRecDepth 100000 in
theorem c_J1_indexOfChar_4cfef {F : Nat} {S0 : mS} {a1 : Nat} {a2 : Int32} {a3 : Int32} {a4 : Int32} {R : Int32} (ha1 : a1 < 2) (h : f_J1_indexOfChar_4cfef F S0 a1 a2 a3 a4 = some R) : mCt μJ1_indexOfChar_4cfef 1 0 0 E0 S0 [.float (UInt32.ofNat (a1 + 2)), .int (a2), .int (a3), .int (a4)] (mQe S0 (some (.int R))) := by
  unfold f_J1_indexOfChar_4cfef at h
  refine mCt.of (by decide) (Nat.le_of_ble_eq_true rfl) ?_
  intro x
  refine mG.iload_n 1 dJ1_indexOfChar_4cfef_0 rfl ?_
  refine mG.i2b dJ1_indexOfChar_4cfef_1 ?_
  refine mG.istore (lv2 := [(4, .int (a2.toInt8.toInt32)), (0, .float (UInt32.ofNat (a1 + 2))), (1, .int (a2)), (2, .int (a3)), (3, .int (a4))]) dJ1_indexOfChar_4cfef_2 (by decide) rfl ?_
  refine mG.iload_n 3 dJ1_indexOfChar_4cfef_4 rfl ?_
  refine mG.istore (lv2 := [(5, .int (a3)), (4, .int (a2.toInt8.toInt32)), (0, .float (UInt32.ofNat (a1 + 2))), (1, .int (a2)), (2, .int (a3)), (3, .int (a4))]) dJ1_indexOfChar_4cfef_5 (by decide) rfl ?_
  refine mG.sub (lv2 := [(0, .float (UInt32.ofNat (a1 + 2))), (3, .int (a4)), (4, .int (a2.toInt8.toInt32)), (5, .int (a3))]) [2, 5, 1, 0] rfl ?_
  exact gJ1_indexOfChar_4cfef_7 ha1  F  a2.toInt8.toInt32 a3  h
theorem dJ1_indexOf_4cfef_0 : decode cJ1_indexOf_4cfef 0 = .ok (.iload_n 1, 1) := by decide +kernel
theorem dJ1_indexOf_4cfef_1 : decode cJ1_indexOf_4cfef 1 = .ok (.invokestatic 88, 3) := by decide +kernel
theorem dJ1_indexOf_4cfef_4 : decode cJ1_indexOf_4cfef 4 = .ok (.ifCond .ne 5, 3) := by decide +kernel
theorem dJ1_indexOf_4cfef_7 : decode cJ1_indexOf_4cfef 7 = .ok (.iconst (-1), 1) := by decide +kernel
theorem dJ1_indexOf_4cfef_8 : decode cJ1_indexOf_4cfef 8 = .ok (.ireturn, 1) := by decide +kernel
theorem dJ1_indexOf_4cfef_9 : decode cJ1_indexOf_4cfef 9 = .ok (.iload_n 2, 1) := by decide +kernel
theorem dJ1_indexOf_4cfef_10 : decode cJ1_indexOf_4cfef 10 = .ok (.iconst 0, 1) := by decide +kernel
theorem dJ1_indexOf_4cfef_11 : decode cJ1_indexOf_4cfef 11 = .ok (.invokestatic 92, 3) := by decide +kernel
theorem dJ1_indexOf_4cfef_14 : decode cJ1_indexOf_4cfef 14 = .ok (.istore_n 2, 1) := by decide +kernel
theorem dJ1_indexOf_4cfef_15 : decode cJ1_indexOf_4cfef 15 = .ok (.iload_n 3, 1) := by decide +kernel
theorem dJ1_indexOf_4cfef_16 : decode cJ1_indexOf_4cfef 16 = .ok (.aload_n 0, 1) := by decide +kernel
theorem dJ1_indexOf_4cfef_17 : decode cJ1_indexOf_4cfef 17 = .ok (.arraylength, 1) := by decide +kernel
theorem dJ1_indexOf_4cfef_18 : decode cJ1_indexOf_4cfef 18 = .ok (.invokestatic 38, 3) := by decide +kernel
theorem dJ1_indexOf_4cfef_21 : decode cJ1_indexOf_4cfef 21 = .ok (.istore_n 3, 1) := by decide +kernel
theorem dJ1_indexOf_4cfef_22 : decode cJ1_indexOf_4cfef 22 = .ok (.iload_n 2, 1) := by decide +kernel
theorem dJ1_indexOf_4cfef_23 : decode cJ1_indexOf_4cfef 23 = .ok (.iload_n 3, 1) := by decide +kernel
theorem dJ1_indexOf_4cfef_24 : decode cJ1_indexOf_4cfef 24 = .ok (.if_icmp .lt 5, 3) := by decide +kernel
theorem dJ1_indexOf_4cfef_27 : decode cJ1_indexOf_4cfef 27 = .ok (.iconst (-1), 1) := by decide +kernel
theorem dJ1_indexOf_4cfef_28 : decode cJ1_indexOf_4cfef 28 = .ok (.ireturn, 1) := by decide +kernel
theorem dJ1_indexOf_4cfef_29 : decode cJ1_indexOf_4cfef 29 = .ok (.aload_n 0, 1) := by decide +kernel
theorem dJ1_indexOf_4cfef_30 : decode cJ1_indexOf_4cfef 30 = .ok (.iload_n 1, 1) := by decide +kernel
theorem dJ1_indexOf_4cfef_31 : decode cJ1_indexOf_4cfef 31 = .ok (.iload_n 2, 1) := by decide +kernel
theorem dJ1_indexOf_4cfef_32 : decode cJ1_indexOf_4cfef 32 = .ok (.iload_n 3, 1) := by decide +kernel
theorem dJ1_indexOf_4cfef_33 : decode cJ1_indexOf_4cfef 33 = .ok (.invokestatic 95, 3) := by decide +kernel
theorem dJ1_indexOf_4cfef_36 : decode cJ1_indexOf_4cfef 36 = .ok (.ireturn, 1) := by decide +kernel
def f_J1_indexOf_4cfef (F : Nat) (S0 : mS) (a1 : Nat) (a2 : Int32) (a3 : Int32) (a4 : Int32) : Option Int32 := if (f_J1_canEncode_9a6ad S0 a2) = true then (if (imax a3 (0 : Int32)) < (imin a4 (Int32.ofNat (strL.getD a1 0))) then (bd (f_J1_indexOfChar_4cfef F S0 a1 a2 (imax a3 (0 : Int32)) (imin a4 (Int32.ofNat (strL.getD a1 0)))) fun q1 => some q1) else (some (-1 : Int32))) else (some (-1 : Int32))
set_option maxHeartbeats 4000000 in
set_option maxRecDepth 100000 in
theorem c_J1_indexOf_4cfef {F : Nat} {S0 : mS} {a1 : Nat} {a2 : Int32} {a3 : Int32} {a4 : Int32} {R : Int32} (ha1 : a1 < 2) (h : f_J1_indexOf_4cfef F S0 a1 a2 a3 a4 = some R) : mCt μJ1_indexOf_4cfef 2 0 0 E0 S0 [.float (UInt32.ofNat (a1 + 2)), .int (a2), .int (a3), .int (a4)] (mQe S0 (some (.int R))) := by
  unfold f_J1_indexOf_4cfef at h
  refine mCt.of (by decide) (Nat.le_of_ble_eq_true rfl) ?_
  intro x
  refine mG.iload_n 1 dJ1_indexOf_4cfef_0 rfl ?_
  refine mG.callS0 (as := [.int (a2)]) (st := []) (S2 := S0) (r := some (.int (bI (f_J1_canEncode_9a6ad S0 a2)))) dJ1_indexOf_4cfef_1 mbJ1_canEncode_9a6ad wk13_21 wk13_20 rfl rfl (by decide) (Nat.le_of_ble_eq_true rfl) (c_J1_canEncode_9a6ad  rfl) ?_
  refine mG.ifz_ne (b := f_J1_canEncode_9a6ad S0 a2) 9 dJ1_indexOf_4cfef_4 (by decide) (fun c3 => ?_) (fun c3 => ?_)
  · replace h := itp c3 h
    refine mG.iload_n 2 dJ1_indexOf_4cfef_9 rfl ?_
    refine mG.iconst (v := 0) dJ1_indexOf_4cfef_10 rfl ?_
    refine mG.mmax dJ1_indexOf_4cfef_11 wk13_16 (by decide) (Nat.le_of_ble_eq_true rfl) (Nat.le_refl _) (Nat.le_refl _) ?_
    refine mG.istore_n (lv2 := [(2, .int (imax a3 (0 : Int32))), (0, .float (UInt32.ofNat (a1 + 2))), (1, .int (a2)), (3, .int (a4))]) dJ1_indexOf_4cfef_14 rfl (by decide) rfl ?_
    refine mG.iload_n 3 dJ1_indexOf_4cfef_15 rfl ?_
    refine mG.sload_n 1 dJ1_indexOf_4cfef_16 rfl ?_
    refine mG.balen a1 ha1 dJ1_indexOf_4cfef_17 rfl ?_
    refine mG.mmin dJ1_indexOf_4cfef_18 wk13_19 (by decide) (Nat.le_of_ble_eq_true rfl) (Nat.le_refl _) (Nat.le_refl _) ?_
    refine mG.istore_n (lv2 := [(3, .int (imin a4 (Int32.ofNat (strL.getD a1 0)))), (2, .int (imax a3 (0 : Int32))), (0, .float (UInt32.ofNat (a1 + 2))), (1, .int (a2))]) dJ1_indexOf_4cfef_21 rfl (by decide) rfl ?_
    refine mG.iload_n 1 dJ1_indexOf_4cfef_22 rfl ?_
    refine mG.iload_n 0 dJ1_indexOf_4cfef_23 rfl ?_
    refine mG.icmp_lt 29 dJ1_indexOf_4cfef_24 (by decide) (fun c2 => ?_) (fun c2 => ?_)
    · replace h := itp c2 h
      refine mG.sload_n 2 dJ1_indexOf_4cfef_29 rfl ?_
      refine mG.iload_n 3 dJ1_indexOf_4cfef_30 rfl ?_
      refine mG.iload_n 1 dJ1_indexOf_4cfef_31 rfl ?_
      refine mG.iload_n 0 dJ1_indexOf_4cfef_32 rfl ?_
      obtain ⟨q1, hq1, h⟩ := bdp h
      refine mG.callS0 (as := [.float (UInt32.ofNat (a1 + 2)), .int (a2), .int (imax a3 (0 : Int32)), .int (imin a4 (Int32.ofNat (strL.getD a1 0)))]) (st := []) (S2 := S0) (r := some (.int (q1))) dJ1_indexOf_4cfef_33 mbJ1_indexOfChar_4cfef wk14_0 wk13_23 rfl rfl (by decide) (Nat.le_of_ble_eq_true rfl) (c_J1_indexOfChar_4cfef ha1 hq1) ?_
      obtain rfl := Option.some.inj h
      exact mG.iret dJ1_indexOf_4cfef_36 rfl ⟨rfl, rfl, rfl⟩
    · replace h := itn c2 h
      refine mG.iconst (v := (-1)) dJ1_indexOf_4cfef_27 rfl ?_
      obtain rfl := Option.some.inj h
      exact mG.iret dJ1_indexOf_4cfef_28 rfl ⟨rfl, rfl, rfl⟩
  · replace h := itn c3 h
    refine mG.iconst (v := (-1)) dJ1_indexOf_4cfef_7 rfl ?_
    obtain rfl := Option.some.inj h
    exact mG.iret dJ1_indexOf_4cfef_8 rfl ⟨rfl, rfl, rfl⟩
theorem dJ0_indexOf_7cf53_0 : decode cJ0_indexOf_7cf53 0 = .ok (.aload_n 0, 1) := by decide +kernel
theorem dJ0_indexOf_7cf53_1 : decode cJ0_indexOf_7cf53 1 = .ok (.invokevirtual 492, 3) := by decide +kernel
theorem dJ0_indexOf_7cf53_4 : decode cJ0_indexOf_7cf53 4 = .ok (.ifCond .eq 19, 3) := by decide +kernel
theorem dJ0_indexOf_7cf53_7 : decode cJ0_indexOf_7cf53 7 = .ok (.aload_n 0, 1) := by decide +kernel
theorem dJ0_indexOf_7cf53_8 : decode cJ0_indexOf_7cf53 8 = .ok (.getfield 9, 3) := by decide +kernel
theorem dJ0_indexOf_7cf53_11 : decode cJ0_indexOf_7cf53 11 = .ok (.iload_n 1, 1) := by decide +kernel
theorem dJ0_indexOf_7cf53_12 : decode cJ0_indexOf_7cf53 12 = .ok (.iload_n 2, 1) := by decide +kernel
theorem dJ0_indexOf_7cf53_13 : decode cJ0_indexOf_7cf53 13 = .ok (.aload_n 0, 1) := by decide +kernel
theorem dJ0_indexOf_7cf53_14 : decode cJ0_indexOf_7cf53 14 = .ok (.invokevirtual 505, 3) := by decide +kernel
theorem dJ0_indexOf_7cf53_17 : decode cJ0_indexOf_7cf53 17 = .ok (.invokestatic 637, 3) := by decide +kernel
theorem dJ0_indexOf_7cf53_20 : decode cJ0_indexOf_7cf53 20 = .ok (.goto 16, 3) := by decide +kernel
theorem dJ0_indexOf_7cf53_23 : decode cJ0_indexOf_7cf53 23 = .ok (.aload_n 0, 1) := by decide +kernel
theorem dJ0_indexOf_7cf53_24 : decode cJ0_indexOf_7cf53 24 = .ok (.getfield 9, 3) := by decide +kernel
theorem dJ0_indexOf_7cf53_27 : decode cJ0_indexOf_7cf53 27 = .ok (.iload_n 1, 1) := by decide +kernel
theorem dJ0_indexOf_7cf53_28 : decode cJ0_indexOf_7cf53 28 = .ok (.iload_n 2, 1) := by decide +kernel
theorem dJ0_indexOf_7cf53_29 : decode cJ0_indexOf_7cf53 29 = .ok (.aload_n 0, 1) := by decide +kernel
theorem dJ0_indexOf_7cf53_30 : decode cJ0_indexOf_7cf53 30 = .ok (.invokevirtual 505, 3) := by decide +kernel
theorem dJ0_indexOf_7cf53_33 : decode cJ0_indexOf_7cf53 33 = .ok (.invokestatic 640, 3) := by decide +kernel
theorem dJ0_indexOf_7cf53_36 : decode cJ0_indexOf_7cf53 36 = .ok (.ireturn, 1) := by decide +kernel
def f_J0_indexOf_7cf53 (F : Nat) (S0 : mS) (t : Nat) (a1 : Int32) (a2 : Int32) : Option Int32 := if (f_J0_isLatin1_aae02 S0 t) = true then (bd (f_J0_length_8abf5 F S0 t) fun q2 => bd (f_J1_indexOf_4cfef F S0 t a1 a2 q2) fun q3 => some q3) else (bd (f_J0_length_8abf5 F S0 t) fun q1 => none)
set_option maxHeartbeats 4000000 in
set_option maxRecDepth 100000 in
theorem c_J0_indexOf_7cf53 {F : Nat} {S0 : mS} {t : Nat} {a1 : Int32} {a2 : Int32} {R : Int32} (ht : t < 2) (h : f_J0_indexOf_7cf53 F S0 t a1 a2 = some R) : mCt μJ0_indexOf_7cf53 3 0 0 E0 S0 [.float (UInt32.ofNat (t)), .int (a1), .int (a2)] (mQe S0 (some (.int R))) := by
  unfold f_J0_indexOf_7cf53 at h
  refine mCt.of (by decide) (Nat.le_of_ble_eq_true rfl) ?_
  intro x
  refine mG.sload_n 0 dJ0_indexOf_7cf53_0 rfl ?_
  refine mG.callVs0 (as := []) (st := []) (S2 := S0) (r := some (.int (bI (f_J0_isLatin1_aae02 S0 t)))) t ht dJ0_indexOf_7cf53_1 mbJ0_isLatin1_aae02 rfl wk11_11 wk11_12 wk11_10 rfl rfl (by decide) (Nat.le_of_ble_eq_true rfl) (c_J0_isLatin1_aae02 ht rfl) ?_
  refine mG.ifz_eq (b := f_J0_isLatin1_aae02 S0 t) 23 dJ0_indexOf_7cf53_4 (by decide) (fun c4 => ?_) (fun c4 => ?_)
  · replace h := itn c4 h
    refine mG.sload_n 0 dJ0_indexOf_7cf53_23 rfl ?_
    refine mG.getValue t ht dJ0_indexOf_7cf53_24 wk11_9 ?_
    refine mG.iload_n 1 dJ0_indexOf_7cf53_27 rfl ?_
    refine mG.iload_n 2 dJ0_indexOf_7cf53_28 rfl ?_
    refine mG.sload_n 0 dJ0_indexOf_7cf53_29 rfl ?_
    obtain ⟨q1, hq1, h⟩ := bdp h
    refine mG.callVs0 (as := []) (st := [.int (a2), .int (a1), .float (UInt32.ofNat (t + 2))]) (S2 := S0) (r := some (.int (q1))) t ht dJ0_indexOf_7cf53_30 mbJ0_length_8abf5 rfl wk13_6 wk13_7 wk13_5 rfl rfl (by decide) (Nat.le_of_ble_eq_true rfl) (c_J0_length_8abf5 ht hq1) ?_
    cases h
  · replace h := itp c4 h
    refine mG.sload_n 0 dJ0_indexOf_7cf53_7 rfl ?_
    refine mG.getValue t ht dJ0_indexOf_7cf53_8 wk11_9 ?_
    refine mG.iload_n 1 dJ0_indexOf_7cf53_11 rfl ?_
    refine mG.iload_n 2 dJ0_indexOf_7cf53_12 rfl ?_
    refine mG.sload_n 0 dJ0_indexOf_7cf53_13 rfl ?_
    obtain ⟨q2, hq2, h⟩ := bdp h
    refine mG.callVs0 (as := []) (st := [.int (a2), .int (a1), .float (UInt32.ofNat (t + 2))]) (S2 := S0) (r := some (.int (q2))) t ht dJ0_indexOf_7cf53_14 mbJ0_length_8abf5 rfl wk13_6 wk13_7 wk13_5 rfl rfl (by decide) (Nat.le_of_ble_eq_true rfl) (c_J0_length_8abf5 ht hq2) ?_
    obtain ⟨q3, hq3, h⟩ := bdp h
    refine mG.callS0 (as := [.float (UInt32.ofNat (t + 2)), .int (a1), .int (a2), .int (q2)]) (st := []) (S2 := S0) (r := some (.int (q3))) dJ0_indexOf_7cf53_17 mbJ1_indexOf_4cfef wk13_14 wk13_13 rfl rfl (by decide) (Nat.le_of_ble_eq_true rfl) (c_J1_indexOf_4cfef ht hq3) ?_
    refine mG.goto 36 dJ0_indexOf_7cf53_20 (by decide) ?_
    obtain rfl := Option.some.inj h
    exact mG.iret dJ0_indexOf_7cf53_36 rfl ⟨rfl, rfl, rfl⟩
theorem dJ0_indexOf_0f7a4_0 : decode cJ0_indexOf_0f7a4 0 = .ok (.aload_n 0, 1) := by decide +kernel
theorem dJ0_indexOf_0f7a4_1 : decode cJ0_indexOf_0f7a4 1 = .ok (.iload_n 1, 1) := by decide +kernel
theorem dJ0_indexOf_0f7a4_2 : decode cJ0_indexOf_0f7a4 2 = .ok (.iconst 0, 1) := by decide +kernel
theorem dJ0_indexOf_0f7a4_3 : decode cJ0_indexOf_0f7a4 3 = .ok (.invokevirtual 633, 3) := by decide +kernel
theorem dJ0_indexOf_0f7a4_6 : decode cJ0_indexOf_0f7a4 6 = .ok (.ireturn, 1) := by decide +kernel
def f_J0_indexOf_0f7a4 (F : Nat) (S0 : mS) (t : Nat) (a1 : Int32) : Option Int32 := bd (f_J0_indexOf_7cf53 F S0 t a1 (0 : Int32)) fun q1 => some q1
set_option maxHeartbeats 4000000 in
set_option maxRecDepth 100000 in
theorem c_J0_indexOf_0f7a4 {F : Nat} {S0 : mS} {t : Nat} {a1 : Int32} {R : Int32} (ht : t < 2) (h : f_J0_indexOf_0f7a4 F S0 t a1 = some R) : mCt μJ0_indexOf_0f7a4 4 0 0 E0 S0 [.float (UInt32.ofNat (t)), .int (a1)] (mQe S0 (some (.int R))) := by
  unfold f_J0_indexOf_0f7a4 at h
  refine mCt.of (by decide) (Nat.le_of_ble_eq_true rfl) ?_
  intro x
  refine mG.sload_n 0 dJ0_indexOf_0f7a4_0 rfl ?_
  refine mG.iload_n 1 dJ0_indexOf_0f7a4_1 rfl ?_
  refine mG.iconst (v := 0) dJ0_indexOf_0f7a4_2 rfl ?_
  obtain ⟨q1, hq1, h⟩ := bdp h
  refine mG.callVs0 (as := [.int (a1), .int 0]) (st := []) (S2 := S0) (r := some (.int (q1))) t ht dJ0_indexOf_0f7a4_3 mbJ0_indexOf_7cf53 rfl wk13_2 wk13_3 wk13_1 rfl rfl (by decide) (Nat.le_of_ble_eq_true rfl) (c_J0_indexOf_7cf53 ht hq1) ?_
  obtain rfl := Option.some.inj h
  exact mG.iret dJ0_indexOf_0f7a4_6 rfl ⟨rfl, rfl, rfl⟩
theorem dX4_kindOf_0 : decode cX4_kindOf 0 = .ok (.aload_n 0, 1) := by decide +kernel
theorem dX4_kindOf_1 : decode cX4_kindOf 1 = .ok (.iload_n 1, 1) := by decide +kernel
theorem dX4_kindOf_2 : decode cX4_kindOf 2 = .ok (.iaload, 1) := by decide +kernel
theorem dX4_kindOf_3 : decode cX4_kindOf 3 = .ok (.invokestatic 88, 3) := by decide +kernel
theorem dX4_kindOf_6 : decode cX4_kindOf 6 = .ok (.ifCond .eq 10, 3) := by decide +kernel
theorem dX4_kindOf_9 : decode cX4_kindOf 9 = .ok (.aload_n 0, 1) := by decide +kernel
theorem dX4_kindOf_10 : decode cX4_kindOf 10 = .ok (.iload_n 1, 1) := by decide +kernel
theorem dX4_kindOf_11 : decode cX4_kindOf 11 = .ok (.iload_n 2, 1) := by decide +kernel
theorem dX4_kindOf_12 : decode cX4_kindOf 12 = .ok (.invokestatic 94, 3) := by decide +kernel
theorem dX4_kindOf_15 : decode cX4_kindOf 15 = .ok (.ireturn, 1) := by decide +kernel
theorem dX4_kindOf_16 : decode cX4_kindOf 16 = .ok (.aload_n 0, 1) := by decide +kernel
theorem dX4_kindOf_17 : decode cX4_kindOf 17 = .ok (.iload_n 1, 1) := by decide +kernel
theorem dX4_kindOf_18 : decode cX4_kindOf 18 = .ok (.iaload, 1) := by decide +kernel
theorem dX4_kindOf_19 : decode cX4_kindOf 19 = .ok (.invokestatic 91, 3) := by decide +kernel
theorem dX4_kindOf_22 : decode cX4_kindOf 22 = .ok (.ifCond .eq 5, 3) := by decide +kernel
theorem dX4_kindOf_25 : decode cX4_kindOf 25 = .ok (.iconst 2, 1) := by decide +kernel
theorem dX4_kindOf_26 : decode cX4_kindOf 26 = .ok (.ireturn, 1) := by decide +kernel
theorem dX4_kindOf_27 : decode cX4_kindOf 27 = .ok (.iload_n 2, 1) := by decide +kernel
theorem dX4_kindOf_28 : decode cX4_kindOf 28 = .ok (.iload_n 1, 1) := by decide +kernel
theorem dX4_kindOf_29 : decode cX4_kindOf 29 = .ok (.isub, 1) := by decide +kernel
theorem dX4_kindOf_30 : decode cX4_kindOf 30 = .ok (.iconst 2, 1) := by decide +kernel
theorem dX4_kindOf_31 : decode cX4_kindOf 31 = .ok (.if_icmp .ne 19, 3) := by decide +kernel
theorem dX4_kindOf_34 : decode cX4_kindOf 34 = .ok (.aload_n 0, 1) := by decide +kernel
theorem dX4_kindOf_35 : decode cX4_kindOf 35 = .ok (.iload_n 1, 1) := by decide +kernel
theorem dX4_kindOf_36 : decode cX4_kindOf 36 = .ok (.iaload, 1) := by decide +kernel
theorem dX4_kindOf_37 : decode cX4_kindOf 37 = .ok (.bipush 60, 2) := by decide +kernel
theorem dX4_kindOf_39 : decode cX4_kindOf 39 = .ok (.if_icmp .ne 8, 3) := by decide +kernel
theorem dX4_kindOf_42 : decode cX4_kindOf 42 = .ok (.bipush 14, 2) := by decide +kernel
theorem dX4_kindOf_44 : decode cX4_kindOf 44 = .ok (.goto 5, 3) := by decide +kernel
theorem dX4_kindOf_47 : decode cX4_kindOf 47 = .ok (.bipush 15, 2) := by decide +kernel
theorem dX4_kindOf_49 : decode cX4_kindOf 49 = .ok (.ireturn, 1) := by decide +kernel
theorem dX4_kindOf_50 : decode cX4_kindOf 50 = .ok (.ldc 97, 2) := by decide +kernel
theorem dX4_kindOf_52 : decode cX4_kindOf 52 = .ok (.aload_n 0, 1) := by decide +kernel
theorem dX4_kindOf_53 : decode cX4_kindOf 53 = .ok (.iload_n 1, 1) := by decide +kernel
theorem dX4_kindOf_54 : decode cX4_kindOf 54 = .ok (.iaload, 1) := by decide +kernel
theorem dX4_kindOf_55 : decode cX4_kindOf 55 = .ok (.i2c, 1) := by decide +kernel
theorem dX4_kindOf_56 : decode cX4_kindOf 56 = .ok (.invokevirtual 99, 3) := by decide +kernel
theorem dX4_kindOf_59 : decode cX4_kindOf 59 = .ok (.istore_n 3, 1) := by decide +kernel
theorem dX4_kindOf_60 : decode cX4_kindOf 60 = .ok (.iload_n 3, 1) := by decide +kernel
theorem dX4_kindOf_61 : decode cX4_kindOf 61 = .ok (.ifCond .ge 7, 3) := by decide +kernel
theorem dX4_kindOf_64 : decode cX4_kindOf 64 = .ok (.iconst 1, 1) := by decide +kernel
theorem dX4_kindOf_65 : decode cX4_kindOf 65 = .ok (.goto 6, 3) := by decide +kernel
theorem dX4_kindOf_68 : decode cX4_kindOf 68 = .ok (.iconst 3, 1) := by decide +kernel
theorem dX4_kindOf_69 : decode cX4_kindOf 69 = .ok (.iload_n 3, 1) := by decide +kernel
theorem dX4_kindOf_70 : decode cX4_kindOf 70 = .ok (.iadd, 1) := by decide +kernel
theorem dX4_kindOf_71 : decode cX4_kindOf 71 = .ok (.ireturn, 1) := by decide +kernel
def f_X4_kindOf (F : Nat) (S0 : mS) (a1 : Nat) (a2 : Int32) (a3 : Int32) : Option Int32 := ck (inb a2 300) (if (f_X4_isLetter S0 (S0.1 a1 a2.toNatClampNeg)) = true then (bd (f_X4_kindOfWord F S0 a1 a2 a3) fun q10 => some q10) else (ck (inb a2 300) (if (f_X4_isDigit S0 (S0.1 a1 a2.toNatClampNeg)) = true then (some (2 : Int32)) else (if (a3 - a2) = (2 : Int32) then (ck (inb a2 300) (if (S0.1 a1 a2.toNatClampNeg) = (60 : Int32) then (some (14 : Int32)) else (some (15 : Int32)))) else (ck (inb a2 300) (bd (f_J0_indexOf_0f7a4 F S0 1 ((Int32.toUInt32 (S0.1 a1 a2.toNatClampNeg) % 65536).toInt32)) fun q4 => if 0 ≤ q4 then (some ((3 : Int32) + q4)) else (some (1 : Int32))))))))
set_option maxHeartbeats 4000000 in
set_option maxRecDepth 100000 in
theorem c_X4_kindOf {F : Nat} {S0 : mS} {a1 : Nat} {a2 : Int32} {a3 : Int32} {R : Int32} (ha1 : kd0 a1 = 10) (ga1 : ln0 a1 = 300) (h : f_X4_kindOf F S0 a1 a2 a3 = some R) : mCt μX4_kindOf 7 0 0 E0 S0 [.ref (a1), .int (a2), .int (a3)] (mQe S0 (some (.int R))) := by
  unfold f_X4_kindOf at h
  refine mCt.of (by decide) (Nat.le_of_ble_eq_true rfl) ?_
  intro x
  refine mG.aload_n 0 dX4_kindOf_0 rfl ?_
  refine mG.iload_n 1 dX4_kindOf_1 rfl ?_
  obtain ⟨b1, h⟩ := ckp h
  refine mG.iald dX4_kindOf_2 ha1 ga1 (inbp b1) ?_
  refine mG.callS0 (as := [.int (S0.1 a1 a2.toNatClampNeg)]) (st := []) (S2 := S0) (r := some (.int (bI (f_X4_isLetter S0 (S0.1 a1 a2.toNatClampNeg))))) dX4_kindOf_3 mbX4_isLetter wk10_14 wk10_13 rfl rfl (by decide) (Nat.le_of_ble_eq_true rfl) (c_X4_isLetter  rfl) ?_
  refine mG.ifz_eq (b := f_X4_isLetter S0 (S0.1 a1 a2.toNatClampNeg)) 16 dX4_kindOf_6 (by decide) (fun c11 => ?_) (fun c11 => ?_)
  · replace h := itn c11 h
    refine mG.aload_n 0 dX4_kindOf_16 rfl ?_
    refine mG.iload_n 1 dX4_kindOf_17 rfl ?_
    obtain ⟨b2, h⟩ := ckp h
    refine mG.iald dX4_kindOf_18 ha1 ga1 (inbp b2) ?_
    refine mG.callS0 (as := [.int (S0.1 a1 a2.toNatClampNeg)]) (st := []) (S2 := S0) (r := some (.int (bI (f_X4_isDigit S0 (S0.1 a1 a2.toNatClampNeg))))) dX4_kindOf_19 mbX4_isDigit wk10_17 wk10_16 rfl rfl (by decide) (Nat.le_of_ble_eq_true rfl) (c_X4_isDigit  rfl) ?_
    refine mG.ifz_eq (b := f_X4_isDigit S0 (S0.1 a1 a2.toNatClampNeg)) 27 dX4_kindOf_22 (by decide) (fun c9 => ?_) (fun c9 => ?_)
    · replace h := itn c9 h
      refine mG.iload_n 2 dX4_kindOf_27 rfl ?_
      refine mG.iload_n 1 dX4_kindOf_28 rfl ?_
      refine mG.isub dX4_kindOf_29 ?_
      refine mG.iconst (v := 2) dX4_kindOf_30 rfl ?_
      refine mG.icmp_ne 50 dX4_kindOf_31 (by decide) (fun c8 => ?_) (fun c8 => ?_)
      · replace h := itn c8 h
        refine mG.ldcS 1 (by decide) dX4_kindOf_50 rfl (Or.inr ⟨rfl, rfl⟩) ?_
        refine mG.aload_n 0 dX4_kindOf_52 rfl ?_
        refine mG.iload_n 1 dX4_kindOf_53 rfl ?_
        obtain ⟨b3, h⟩ := ckp h
        refine mG.iald dX4_kindOf_54 ha1 ga1 (inbp b3) ?_
        refine mG.i2c dX4_kindOf_55 ?_
        obtain ⟨q4, hq4, h⟩ := bdp h
        refine mG.callVs0 (as := [.int ((Int32.toUInt32 (S0.1 a1 a2.toNatClampNeg) % 65536).toInt32)]) (st := []) (S2 := S0) (r := some (.int (q4))) 1 (show 1 < 2 by decide) dX4_kindOf_56 mbJ0_indexOf_0f7a4 rfl wk12_22 wk12_23 wk12_21 rfl rfl (by decide) (Nat.le_of_ble_eq_true rfl) (c_J0_indexOf_0f7a4 (show 1 < 2 by decide) hq4) ?_
        refine mG.istore_n (lv2 := [(3, .int (q4)), (0, .ref (a1)), (1, .int (a2)), (2, .int (a3))]) dX4_kindOf_59 rfl (by decide) rfl ?_
        refine mG.iload_n 0 dX4_kindOf_60 rfl ?_
        refine mG.if_ge 68 dX4_kindOf_61 (by decide) (fun c5 => ?_) (fun c5 => ?_)
        · replace h := itp c5 h
          refine mG.iconst (v := 3) dX4_kindOf_68 rfl ?_
          refine mG.iload_n 0 dX4_kindOf_69 rfl ?_
          refine mG.iadd dX4_kindOf_70 ?_
          obtain rfl := Option.some.inj h
          exact mG.iret dX4_kindOf_71 rfl ⟨rfl, rfl, rfl⟩
        · replace h := itn c5 h
          refine mG.iconst (v := 1) dX4_kindOf_64 rfl ?_
          refine mG.goto 71 dX4_kindOf_65 (by decide) ?_
          obtain rfl := Option.some.inj h
          exact mG.iret dX4_kindOf_71 rfl ⟨rfl, rfl, rfl⟩
      · replace h := itp c8 h
        refine mG.aload_n 0 dX4_kindOf_34 rfl ?_
        refine mG.iload_n 1 dX4_kindOf_35 rfl ?_
        obtain ⟨b6, h⟩ := ckp h
        refine mG.iald dX4_kindOf_36 ha1 ga1 (inbp b6) ?_
        refine mG.bipush (v := 60) dX4_kindOf_37 (by decide) ?_
        refine mG.icmp_ne 47 dX4_kindOf_39 (by decide) (fun c7 => ?_) (fun c7 => ?_)
        · replace h := itn c7 h
          refine mG.bipush (v := 15) dX4_kindOf_47 (by decide) ?_
          obtain rfl := Option.some.inj h
          exact mG.iret dX4_kindOf_49 rfl ⟨rfl, rfl, rfl⟩
        · replace h := itp c7 h
          refine mG.bipush (v := 14) dX4_kindOf_42 (by decide) ?_
          refine mG.goto 49 dX4_kindOf_44 (by decide) ?_
          obtain rfl := Option.some.inj h
          exact mG.iret dX4_kindOf_49 rfl ⟨rfl, rfl, rfl⟩
    · replace h := itp c9 h
      refine mG.iconst (v := 2) dX4_kindOf_25 rfl ?_
      obtain rfl := Option.some.inj h
      exact mG.iret dX4_kindOf_26 rfl ⟨rfl, rfl, rfl⟩
  · replace h := itp c11 h
    refine mG.aload_n 0 dX4_kindOf_9 rfl ?_
    refine mG.iload_n 1 dX4_kindOf_10 rfl ?_
    refine mG.iload_n 2 dX4_kindOf_11 rfl ?_
    obtain ⟨q10, hq10, h⟩ := bdp h
    refine mG.callS0 (as := [.ref (a1), .int (a2), .int (a3)]) (st := []) (S2 := S0) (r := some (.int (q10))) dX4_kindOf_12 mbX4_kindOfWord wk10_23 wk10_22 rfl rfl (by decide) (Nat.le_of_ble_eq_true rfl) (c_X4_kindOfWord ha1 ga1 hq10) ?_
    obtain rfl := Option.some.inj h
    exact mG.iret dX4_kindOf_15 rfl ⟨rfl, rfl, rfl⟩
theorem dX4_splitUp_0 : decode cX4_splitUp 0 = .ok (.aload_n 0, 1) := by decide +kernel
theorem dX4_splitUp_1 : decode cX4_splitUp 1 = .ok (.iconst 0, 1) := by decide +kernel
theorem dX4_splitUp_2 : decode cX4_splitUp 2 = .ok (.putfield 75, 3) := by decide +kernel
theorem dX4_splitUp_5 : decode cX4_splitUp 5 = .ok (.iconst 0, 1) := by decide +kernel
theorem dX4_splitUp_6 : decode cX4_splitUp 6 = .ok (.istore_n 3, 1) := by decide +kernel
theorem dX4_splitUp_7 : decode cX4_splitUp 7 = .ok (.iload_n 3, 1) := by decide +kernel
theorem dX4_splitUp_8 : decode cX4_splitUp 8 = .ok (.iload_n 2, 1) := by decide +kernel
theorem dX4_splitUp_9 : decode cX4_splitUp 9 = .ok (.if_icmp .ge 121, 3) := by decide +kernel
theorem dX4_splitUp_12 : decode cX4_splitUp 12 = .ok (.aload_n 0, 1) := by decide +kernel
theorem dX4_splitUp_13 : decode cX4_splitUp 13 = .ok (.getfield 75, 3) := by decide +kernel
theorem dX4_splitUp_16 : decode cX4_splitUp 16 = .ok (.sipush 300, 3) := by decide +kernel
theorem dX4_splitUp_19 : decode cX4_splitUp 19 = .ok (.if_icmp .ge 111, 3) := by decide +kernel
theorem dX4_splitUp_22 : decode cX4_splitUp 22 = .ok (.aload_n 1, 1) := by decide +kernel
theorem dX4_splitUp_23 : decode cX4_splitUp 23 = .ok (.iload_n 3, 1) := by decide +kernel
theorem dX4_splitUp_24 : decode cX4_splitUp 24 = .ok (.iaload, 1) := by decide +kernel
theorem dX4_splitUp_25 : decode cX4_splitUp 25 = .ok (.istore 4, 2) := by decide +kernel
theorem dX4_splitUp_27 : decode cX4_splitUp 27 = .ok (.iload 4, 2) := by decide +kernel
theorem dX4_splitUp_29 : decode cX4_splitUp 29 = .ok (.bipush 32, 2) := by decide +kernel
theorem dX4_splitUp_31 : decode cX4_splitUp 31 = .ok (.if_icmp .eq 10, 3) := by decide +kernel
theorem dX4_splitUp_34 : decode cX4_splitUp 34 = .ok (.iload 4, 2) := by decide +kernel
theorem dX4_splitUp_36 : decode cX4_splitUp 36 = .ok (.bipush 10, 2) := by decide +kernel
theorem dX4_splitUp_38 : decode cX4_splitUp 38 = .ok (.if_icmp .ne 9, 3) := by decide +kernel
theorem dX4_splitUp_41 : decode cX4_splitUp 41 = .ok (.iinc 3 1, 3) := by decide +kernel
theorem dX4_splitUp_44 : decode cX4_splitUp 44 = .ok (.goto (-37), 3) := by decide +kernel
theorem dX4_splitUp_47 : decode cX4_splitUp 47 = .ok (.aload_n 1, 1) := by decide +kernel
theorem dX4_splitUp_48 : decode cX4_splitUp 48 = .ok (.iload_n 3, 1) := by decide +kernel
theorem dX4_splitUp_49 : decode cX4_splitUp 49 = .ok (.iload_n 2, 1) := by decide +kernel
theorem dX4_splitUp_50 : decode cX4_splitUp 50 = .ok (.invokestatic 78, 3) := by decide +kernel
theorem dX4_splitUp_53 : decode cX4_splitUp 53 = .ok (.istore 5, 2) := by decide +kernel
theorem dX4_splitUp_55 : decode cX4_splitUp 55 = .ok (.aload_n 0, 1) := by decide +kernel
theorem dX4_splitUp_56 : decode cX4_splitUp 56 = .ok (.getfield 26, 3) := by decide +kernel
theorem dX4_splitUp_59 : decode cX4_splitUp 59 = .ok (.aload_n 0, 1) := by decide +kernel
theorem dX4_splitUp_60 : decode cX4_splitUp 60 = .ok (.getfield 75, 3) := by decide +kernel
theorem dX4_splitUp_63 : decode cX4_splitUp 63 = .ok (.iload_n 3, 1) := by decide +kernel
theorem dX4_splitUp_64 : decode cX4_splitUp 64 = .ok (.iastore, 1) := by decide +kernel
theorem dX4_splitUp_65 : decode cX4_splitUp 65 = .ok (.aload_n 0, 1) := by decide +kernel
theorem dX4_splitUp_66 : decode cX4_splitUp 66 = .ok (.getfield 22, 3) := by decide +kernel
theorem dX4_splitUp_69 : decode cX4_splitUp 69 = .ok (.aload_n 0, 1) := by decide +kernel
theorem dX4_splitUp_70 : decode cX4_splitUp 70 = .ok (.getfield 75, 3) := by decide +kernel
theorem dX4_splitUp_73 : decode cX4_splitUp 73 = .ok (.aload_n 1, 1) := by decide +kernel
theorem dX4_splitUp_74 : decode cX4_splitUp 74 = .ok (.iload_n 3, 1) := by decide +kernel
theorem dX4_splitUp_75 : decode cX4_splitUp 75 = .ok (.iload 5, 2) := by decide +kernel
theorem dX4_splitUp_77 : decode cX4_splitUp 77 = .ok (.invokestatic 82, 3) := by decide +kernel
theorem dX4_splitUp_80 : decode cX4_splitUp 80 = .ok (.iastore, 1) := by decide +kernel
theorem dX4_splitUp_81 : decode cX4_splitUp 81 = .ok (.aload_n 0, 1) := by decide +kernel
theorem dX4_splitUp_82 : decode cX4_splitUp 82 = .ok (.getfield 29, 3) := by decide +kernel
theorem dX4_splitUp_85 : decode cX4_splitUp 85 = .ok (.aload_n 0, 1) := by decide +kernel
theorem dX4_splitUp_86 : decode cX4_splitUp 86 = .ok (.getfield 75, 3) := by decide +kernel
theorem dX4_splitUp_89 : decode cX4_splitUp 89 = .ok (.aload_n 0, 1) := by decide +kernel
theorem dX4_splitUp_90 : decode cX4_splitUp 90 = .ok (.getfield 22, 3) := by decide +kernel
theorem dX4_splitUp_93 : decode cX4_splitUp 93 = .ok (.aload_n 0, 1) := by decide +kernel
theorem dX4_splitUp_94 : decode cX4_splitUp 94 = .ok (.getfield 75, 3) := by decide +kernel
theorem dX4_splitUp_97 : decode cX4_splitUp 97 = .ok (.iaload, 1) := by decide +kernel
theorem dX4_splitUp_98 : decode cX4_splitUp 98 = .ok (.iconst 2, 1) := by decide +kernel
theorem dX4_splitUp_99 : decode cX4_splitUp 99 = .ok (.if_icmp .ne 13, 3) := by decide +kernel
theorem dX4_splitUp_102 : decode cX4_splitUp 102 = .ok (.aload_n 1, 1) := by decide +kernel
theorem dX4_splitUp_103 : decode cX4_splitUp 103 = .ok (.iload_n 3, 1) := by decide +kernel
theorem dX4_splitUp_104 : decode cX4_splitUp 104 = .ok (.iload 5, 2) := by decide +kernel
theorem dX4_splitUp_106 : decode cX4_splitUp 106 = .ok (.invokestatic 85, 3) := by decide +kernel
theorem dX4_splitUp_109 : decode cX4_splitUp 109 = .ok (.goto 4, 3) := by decide +kernel
theorem dX4_splitUp_112 : decode cX4_splitUp 112 = .ok (.iconst 0, 1) := by decide +kernel
theorem dX4_splitUp_113 : decode cX4_splitUp 113 = .ok (.iastore, 1) := by decide +kernel
theorem dX4_splitUp_114 : decode cX4_splitUp 114 = .ok (.aload_n 0, 1) := by decide +kernel
theorem dX4_splitUp_115 : decode cX4_splitUp 115 = .ok (.dup, 1) := by decide +kernel
theorem dX4_splitUp_116 : decode cX4_splitUp 116 = .ok (.getfield 75, 3) := by decide +kernel
theorem dX4_splitUp_119 : decode cX4_splitUp 119 = .ok (.iconst 1, 1) := by decide +kernel
theorem dX4_splitUp_120 : decode cX4_splitUp 120 = .ok (.iadd, 1) := by decide +kernel
theorem dX4_splitUp_121 : decode cX4_splitUp 121 = .ok (.putfield 75, 3) := by decide +kernel
theorem dX4_splitUp_124 : decode cX4_splitUp 124 = .ok (.iload 5, 2) := by decide +kernel
theorem dX4_splitUp_126 : decode cX4_splitUp 126 = .ok (.istore_n 3, 1) := by decide +kernel
theorem dX4_splitUp_127 : decode cX4_splitUp 127 = .ok (.goto (-120), 3) := by decide +kernel
theorem dX4_splitUp_130 : decode cX4_splitUp 130 = .ok (.aload_n 0, 1) := by decide +kernel
theorem dX4_splitUp_131 : decode cX4_splitUp 131 = .ok (.getfield 22, 3) := by decide +kernel
theorem dX4_splitUp_134 : decode cX4_splitUp 134 = .ok (.aload_n 0, 1) := by decide +kernel
theorem dX4_splitUp_135 : decode cX4_splitUp 135 = .ok (.getfield 75, 3) := by decide +kernel
theorem dX4_splitUp_138 : decode cX4_splitUp 138 = .ok (.iconst 0, 1) := by decide +kernel
theorem dX4_splitUp_139 : decode cX4_splitUp 139 = .ok (.iastore, 1) := by decide +kernel
theorem dX4_splitUp_140 : decode cX4_splitUp 140 = .ok (.aload_n 0, 1) := by decide +kernel
theorem dX4_splitUp_141 : decode cX4_splitUp 141 = .ok (.getfield 26, 3) := by decide +kernel
theorem dX4_splitUp_144 : decode cX4_splitUp 144 = .ok (.aload_n 0, 1) := by decide +kernel
theorem dX4_splitUp_145 : decode cX4_splitUp 145 = .ok (.getfield 75, 3) := by decide +kernel
theorem dX4_splitUp_148 : decode cX4_splitUp 148 = .ok (.iload_n 2, 1) := by decide +kernel
theorem dX4_splitUp_149 : decode cX4_splitUp 149 = .ok (.iastore, 1) := by decide +kernel
theorem dX4_splitUp_150 : decode cX4_splitUp 150 = .ok (.return_, 1) := by decide +kernel
def lX4_splitUp_7 (F : Nat) (K130 : mS → Option mS) (t : Nat) (a1 : Nat) (a2 : Int32) : Nat → mS → Int32 → Option mS
  | 0, _, _ => none
  | n + 1, S, v3 => if a2 ≤ v3 then (K130 S ) else (if (300 : Int32) ≤ (S.1 t 6) then (K130 S ) else (ck (inb v3 300) (if (S.1 a1 v3.toNatClampNeg) = (32 : Int32) then (lX4_splitUp_7 F K130 t a1 a2 n S (v3 + 1)) else (if (S.1 a1 v3.toNatClampNeg) = (10 : Int32) then (lX4_splitUp_7 F K130 t a1 a2 n S (v3 + 1)) else (bd (f_X4_tokenEnd F S a1 v3 a2) fun q2 => ck (inb (S.1 t 6) 301) (stp (sI S (t + 7) (S.1 t 6).toNatClampNeg v3) fun S4 => bd (f_X4_kindOf F S4 a1 v3 q2) fun q5 => ck (inb (S4.1 t 6) 301) (stp (sI S4 (t + 6) (S4.1 t 6).toNatClampNeg q5) fun S7 => ck (inb (S7.1 t 6) 301) (if (S7.1 (t + 6) (S7.1 t 6).toNatClampNeg) = (2 : Int32) then (bd (f_X4_valueOf F S7 a1 v3 q2) fun q12 => ck (inb (S7.1 t 6) 301) (stp (sI S7 (t + 8) (S7.1 t 6).toNatClampNeg q12) fun S14 => stp (sI S14 t 6 ((S14.1 t 6) + (1 : Int32))) fun S15 => lX4_splitUp_7 F K130 t a1 a2 n S15 q2)) else (ck (inb (S7.1 t 6) 301) (stp (sI S7 (t + 8) (S7.1 t 6).toNatClampNeg (0 : Int32)) fun S10 => stp (sI S10 t 6 ((S10.1 t 6) + (1 : Int32))) fun S11 => lX4_splitUp_7 F K130 t a1 a2 n S11 q2))))))))))
set_option maxHeartbeats 4000000 in
set_option maxRecDepth 100000 in
theorem gX4_splitUp_7 {x : mX} {F : Nat} {t : Nat} {a1 : Nat} {a2 : Int32}  {K130 : mS → Option mS} {R : mS} (ht : kd0 t = 4) (ha1 : kd0 a1 = 10) (ga1 : ln0 a1 = 300) (hK130 : ∀ (S : mS)  , K130 S  = some R → mG x μX4_splitUp 8 0 0 (mQe R none) 0 0 E0 S 130 [(0, .ref (t)), (2, .int (a2))] []) : ∀ (n : Nat) (S : mS) (v3 : Int32), lX4_splitUp_7 F K130 t a1 a2 n S v3 = some R → mG x μX4_splitUp 8 0 0 (mQe R none) 0 0 E0 S 7 [(0, .ref (t)), (1, .ref (a1)), (2, .int (a2)), (3, .int (v3))] [] := by
  intro n
  induction n with
  | zero =>
    intro S v3 h
    cases h
  | succ n ih =>
    intro S v3 h
    unfold lX4_splitUp_7 at h
    refine mG.iload_n 3 dX4_splitUp_7 rfl ?_
    refine mG.iload_n 2 dX4_splitUp_8 rfl ?_
    refine mG.icmp_ge 130 dX4_splitUp_9 (by decide) (fun c20 => ?_) (fun c20 => ?_)
    · replace h := itp c20 h
      refine mG.sub (lv2 := [(0, .ref (t)), (2, .int (a2))]) [0, 2] rfl ?_
      exact hK130 S   h
    · replace h := itn c20 h
      refine mG.aload_n 0 dX4_splitUp_12 rfl ?_
      refine mG.get (v := .int (S.1 t 6)) dX4_splitUp_13 mfX4_75 ht rfl ?_
      refine mG.sipush (v := 300) dX4_splitUp_16 (by decide) ?_
      refine mG.icmp_ge 130 dX4_splitUp_19 (by decide) (fun c19 => ?_) (fun c19 => ?_)
      · replace h := itp c19 h
        refine mG.sub (lv2 := [(0, .ref (t)), (2, .int (a2))]) [0, 2] rfl ?_
        exact hK130 S   h
      · replace h := itn c19 h
        refine mG.aload_n 1 dX4_splitUp_22 rfl ?_
        refine mG.iload_n 3 dX4_splitUp_23 rfl ?_
        obtain ⟨b1, h⟩ := ckp h
        refine mG.iald dX4_splitUp_24 ha1 ga1 (inbp b1) ?_
        refine mG.istore (lv2 := [(4, .int (S.1 a1 v3.toNatClampNeg)), (0, .ref (t)), (1, .ref (a1)), (2, .int (a2)), (3, .int (v3))]) dX4_splitUp_25 (by decide) rfl ?_
        refine mG.iload 0 dX4_splitUp_27 rfl ?_
        refine mG.bipush (v := 32) dX4_splitUp_29 (by decide) ?_
        refine mG.icmp_eq 41 dX4_splitUp_31 (by decide) (fun c18 => ?_) (fun c18 => ?_)
        · replace h := itp c18 h
          refine mG.iinc 4 (u := v3 + 1) (lv2 := [(3, .int (v3 + 1)), (4, .int (S.1 a1 v3.toNatClampNeg)), (0, .ref (t)), (1, .ref (a1)), (2, .int (a2))]) dX4_splitUp_41 rfl rfl (by decide) rfl ?_
          refine mG.goto 7 dX4_splitUp_44 (by decide) ?_
          refine mG.sub (lv2 := [(0, .ref (t)), (1, .ref (a1)), (2, .int (a2)), (3, .int (v3 + 1))]) [2, 3, 4, 0] rfl ?_
          exact ih S (v3 + 1)  h
        · replace h := itn c18 h
          refine mG.iload 0 dX4_splitUp_34 rfl ?_
          refine mG.bipush (v := 10) dX4_splitUp_36 (by decide) ?_
          refine mG.icmp_ne 47 dX4_splitUp_38 (by decide) (fun c17 => ?_) (fun c17 => ?_)
          · replace h := itn c17 h
            refine mG.aload_n 2 dX4_splitUp_47 rfl ?_
            refine mG.iload_n 4 dX4_splitUp_48 rfl ?_
            refine mG.iload_n 3 dX4_splitUp_49 rfl ?_
            obtain ⟨q2, hq2, h⟩ := bdp h
            refine mG.callS0 (as := [.ref (a1), .int (v3), .int (a2)]) (st := []) (S2 := S) (r := some (.int (q2))) dX4_splitUp_50 mbX4_tokenEnd wk10_11 wk10_10 rfl rfl (by decide) (Nat.le_of_ble_eq_true rfl) (c_X4_tokenEnd ha1 ga1 hq2) ?_
            refine mG.istore (lv2 := [(5, .int (q2)), (4, .int (S.1 a1 v3.toNatClampNeg)), (0, .ref (t)), (1, .ref (a1)), (2, .int (a2)), (3, .int (v3))]) dX4_splitUp_53 (by decide) rfl ?_
            refine mG.aload_n 2 dX4_splitUp_55 rfl ?_
            refine mG.get (v := .ref (t + 7)) dX4_splitUp_56 mfX4_26 ht (lr4_places ht) ?_
            refine mG.aload_n 2 dX4_splitUp_59 rfl ?_
            refine mG.get (v := .int (S.1 t 6)) dX4_splitUp_60 mfX4_75 ht rfl ?_
            refine mG.iload_n 5 dX4_splitUp_63 rfl ?_
            obtain ⟨b3, h⟩ := ckp h
            obtain ⟨S4, hS4, h⟩ := stpp h
            refine mG.iast dX4_splitUp_64 (lk4_places ht) (ll4_places ht) (inbp b3) hS4 ?_
            refine mG.aload_n 2 dX4_splitUp_65 rfl ?_
            refine mG.get (v := .ref (t + 6)) dX4_splitUp_66 mfX4_22 ht (lr4_kinds ht) ?_
            refine mG.aload_n 2 dX4_splitUp_69 rfl ?_
            refine mG.get (v := .int (S4.1 t 6)) dX4_splitUp_70 mfX4_75 ht rfl ?_
            refine mG.aload_n 3 dX4_splitUp_73 rfl ?_
            refine mG.iload_n 5 dX4_splitUp_74 rfl ?_
            refine mG.iload 0 dX4_splitUp_75 rfl ?_
            obtain ⟨q5, hq5, h⟩ := bdp h
            refine mG.callS0 (as := [.ref (a1), .int (v3), .int (q2)]) (st := [.int (S4.1 t 6), .ref (t + 6)]) (S2 := S4) (r := some (.int (q5))) dX4_splitUp_77 mbX4_kindOf wk10_20 wk10_19 rfl rfl (by decide) (Nat.le_of_ble_eq_true rfl) (c_X4_kindOf ha1 ga1 hq5) ?_
            obtain ⟨b6, h⟩ := ckp h
            obtain ⟨S7, hS7, h⟩ := stpp h
            refine mG.iast dX4_splitUp_80 (lk4_kinds ht) (ll4_kinds ht) (inbp b6) hS7 ?_
            refine mG.aload_n 2 dX4_splitUp_81 rfl ?_
            refine mG.get (v := .ref (t + 8)) dX4_splitUp_82 mfX4_29 ht (lr4_values ht) ?_
            refine mG.aload_n 2 dX4_splitUp_85 rfl ?_
            refine mG.get (v := .int (S7.1 t 6)) dX4_splitUp_86 mfX4_75 ht rfl ?_
            refine mG.aload_n 2 dX4_splitUp_89 rfl ?_
            refine mG.get (v := .ref (t + 6)) dX4_splitUp_90 mfX4_22 ht (lr4_kinds ht) ?_
            refine mG.aload_n 2 dX4_splitUp_93 rfl ?_
            refine mG.get (v := .int (S7.1 t 6)) dX4_splitUp_94 mfX4_75 ht rfl ?_
            obtain ⟨b8, h⟩ := ckp h
            refine mG.iald dX4_splitUp_97 (lk4_kinds ht) (ll4_kinds ht) (inbp b8) ?_
            refine mG.iconst (v := 2) dX4_splitUp_98 rfl ?_
            refine mG.icmp_ne 112 dX4_splitUp_99 (by decide) (fun c16 => ?_) (fun c16 => ?_)
            · replace h := itn c16 h
              refine mG.iconst (v := 0) dX4_splitUp_112 rfl ?_
              obtain ⟨b9, h⟩ := ckp h
              obtain ⟨S10, hS10, h⟩ := stpp h
              refine mG.iast dX4_splitUp_113 (lk4_values ht) (ll4_values ht) (inbp b9) hS10 ?_
              refine mG.aload_n 2 dX4_splitUp_114 rfl ?_
              refine mG.dup dX4_splitUp_115 rfl ?_
              refine mG.get (v := .int (S10.1 t 6)) dX4_splitUp_116 mfX4_75 ht rfl ?_
              refine mG.iconst (v := 1) dX4_splitUp_119 rfl ?_
              refine mG.iadd dX4_splitUp_120 ?_
              obtain ⟨S11, hS11, h⟩ := stpp h
              refine mG.putI dX4_splitUp_121 mfX4_75 rfl (Or.inl rfl) ht hS11 ?_
              refine mG.iload 0 dX4_splitUp_124 rfl ?_
              refine mG.istore_n (lv2 := [(3, .int (q2)), (5, .int (q2)), (4, .int (S.1 a1 v3.toNatClampNeg)), (0, .ref (t)), (1, .ref (a1)), (2, .int (a2))]) dX4_splitUp_126 rfl (by decide) rfl ?_
              refine mG.goto 7 dX4_splitUp_127 (by decide) ?_
              refine mG.sub (lv2 := [(0, .ref (t)), (1, .ref (a1)), (2, .int (a2)), (3, .int (q2))]) [3, 4, 5, 0] rfl ?_
              exact ih S11 q2  h
            · replace h := itp c16 h
              refine mG.aload_n 3 dX4_splitUp_102 rfl ?_
              refine mG.iload_n 5 dX4_splitUp_103 rfl ?_
              refine mG.iload 0 dX4_splitUp_104 rfl ?_
              obtain ⟨q12, hq12, h⟩ := bdp h
              refine mG.callS0 (as := [.ref (a1), .int (v3), .int (q2)]) (st := [.int (S7.1 t 6), .ref (t + 8)]) (S2 := S7) (r := some (.int (q12))) dX4_splitUp_106 mbX4_valueOf wk15_15 wk15_14 rfl rfl (by decide) (Nat.le_of_ble_eq_true rfl) (c_X4_valueOf ha1 ga1 hq12) ?_
              refine mG.goto 113 dX4_splitUp_109 (by decide) ?_
              obtain ⟨b13, h⟩ := ckp h
              obtain ⟨S14, hS14, h⟩ := stpp h
              refine mG.iast dX4_splitUp_113 (lk4_values ht) (ll4_values ht) (inbp b13) hS14 ?_
              refine mG.aload_n 2 dX4_splitUp_114 rfl ?_
              refine mG.dup dX4_splitUp_115 rfl ?_
              refine mG.get (v := .int (S14.1 t 6)) dX4_splitUp_116 mfX4_75 ht rfl ?_
              refine mG.iconst (v := 1) dX4_splitUp_119 rfl ?_
              refine mG.iadd dX4_splitUp_120 ?_
              obtain ⟨S15, hS15, h⟩ := stpp h
              refine mG.putI dX4_splitUp_121 mfX4_75 rfl (Or.inl rfl) ht hS15 ?_
              refine mG.iload 0 dX4_splitUp_124 rfl ?_
              refine mG.istore_n (lv2 := [(3, .int (q2)), (5, .int (q2)), (4, .int (S.1 a1 v3.toNatClampNeg)), (0, .ref (t)), (1, .ref (a1)), (2, .int (a2))]) dX4_splitUp_126 rfl (by decide) rfl ?_
              refine mG.goto 7 dX4_splitUp_127 (by decide) ?_
              refine mG.sub (lv2 := [(0, .ref (t)), (1, .ref (a1)), (2, .int (a2)), (3, .int (q2))]) [3, 4, 5, 0] rfl ?_
              exact ih S15 q2  h
          · replace h := itp c17 h
            refine mG.iinc 4 (u := v3 + 1) (lv2 := [(3, .int (v3 + 1)), (4, .int (S.1 a1 v3.toNatClampNeg)), (0, .ref (t)), (1, .ref (a1)), (2, .int (a2))]) dX4_splitUp_41 rfl rfl (by decide) rfl ?_
            refine mG.goto 7 dX4_splitUp_44 (by decide) ?_
            refine mG.sub (lv2 := [(0, .ref (t)), (1, .ref (a1)), (2, .int (a2)), (3, .int (v3 + 1))]) [2, 3, 4, 0] rfl ?_
            exact ih S (v3 + 1)  h
def lX4_splitUp_130 (F : Nat)  (t : Nat) (a1 : Nat) (a2 : Int32) (S : mS)  : Option mS := ck (inb (S.1 t 6) 301) (stp (sI S (t + 6) (S.1 t 6).toNatClampNeg (0 : Int32)) fun S2 => ck (inb (S2.1 t 6) 301) (stp (sI S2 (t + 7) (S2.1 t 6).toNatClampNeg a2) fun S4 => some S4))
set_option maxHeartbeats 4000000 in
set_option maxRecDepth 100000 in
theorem gX4_splitUp_130 {x : mX} {F : Nat} {t : Nat} {a1 : Nat} {a2 : Int32}  {R : mS} (ht : kd0 t = 4) (ha1 : kd0 a1 = 10) (ga1 : ln0 a1 = 300)  (S : mS)   (h : lX4_splitUp_130 F  t a1 a2 S  = some R) : mG x μX4_splitUp 8 0 0 (mQe R none) 0 0 E0 S 130 [(0, .ref (t)), (2, .int (a2))] [] := by
  unfold lX4_splitUp_130 at h
  refine mG.aload_n 0 dX4_splitUp_130 rfl ?_
  refine mG.get (v := .ref (t + 6)) dX4_splitUp_131 mfX4_22 ht (lr4_kinds ht) ?_
  refine mG.aload_n 0 dX4_splitUp_134 rfl ?_
  refine mG.get (v := .int (S.1 t 6)) dX4_splitUp_135 mfX4_75 ht rfl ?_
  refine mG.iconst (v := 0) dX4_splitUp_138 rfl ?_
  obtain ⟨b1, h⟩ := ckp h
  obtain ⟨S2, hS2, h⟩ := stpp h
  refine mG.iast dX4_splitUp_139 (lk4_kinds ht) (ll4_kinds ht) (inbp b1) hS2 ?_
  refine mG.aload_n 0 dX4_splitUp_140 rfl ?_
  refine mG.get (v := .ref (t + 7)) dX4_splitUp_141 mfX4_26 ht (lr4_places ht) ?_
  refine mG.aload_n 0 dX4_splitUp_144 rfl ?_
  refine mG.get (v := .int (S2.1 t 6)) dX4_splitUp_145 mfX4_75 ht rfl ?_
  refine mG.iload_n 1 dX4_splitUp_148 rfl ?_
  obtain ⟨b3, h⟩ := ckp h
  obtain ⟨S4, hS4, h⟩ := stpp h
  refine mG.iast dX4_splitUp_149 (lk4_places ht) (ll4_places ht) (inbp b3) hS4 ?_
  obtain rfl := Option.some.inj h
  exact mG.vret dX4_splitUp_150 rfl ⟨rfl, rfl, rfl⟩
def f_X4_splitUp (F : Nat) (S : mS) (t : Nat) (a1 : Nat) (a2 : Int32) : Option mS := stp (sI S t 6 (0 : Int32)) fun S1 => lX4_splitUp_7 F (fun (S : mS)  => lX4_splitUp_130 F  t a1 a2 S ) t a1 a2 F S1 (0 : Int32)
set_option maxHeartbeats 4000000 in
set_option maxRecDepth 100000 in
theorem c_X4_splitUp {F : Nat} {S : mS} {t : Nat} {a1 : Nat} {a2 : Int32} {R : mS} (ht : kd0 t = 4) (ha1 : kd0 a1 = 10) (ga1 : ln0 a1 = 300) (h : f_X4_splitUp F S t a1 a2 = some R) : mCt μX4_splitUp 8 0 0 E0 S [.ref (t), .ref (a1), .int (a2)] (mQe R none) := by
  unfold f_X4_splitUp at h
  refine mCt.of (by decide) (Nat.le_of_ble_eq_true rfl) ?_
  intro x
  refine mG.aload_n 0 dX4_splitUp_0 rfl ?_
  refine mG.iconst (v := 0) dX4_splitUp_1 rfl ?_
  obtain ⟨S1, hS1, h⟩ := stpp h
  refine mG.putI dX4_splitUp_2 mfX4_75 rfl (Or.inl rfl) ht hS1 ?_
  refine mG.iconst (v := 0) dX4_splitUp_5 rfl ?_
  refine mG.istore_n (lv2 := [(3, .int 0), (0, .ref (t)), (1, .ref (a1)), (2, .int (a2))]) dX4_splitUp_6 rfl (by decide) rfl ?_
  refine mG.sub (lv2 := [(0, .ref (t)), (1, .ref (a1)), (2, .int (a2)), (3, .int 0)]) [1, 2, 3, 0] rfl ?_
  exact gX4_splitUp_7 ht ha1 ga1 (fun S h => by exact gX4_splitUp_130 ht ha1 ga1   S   h) F S1 (0 : Int32)  h
theorem dX4_read_0 : decode cX4_read 0 = .ok (.aload_n 0, 1) := by decide +kernel
theorem dX4_read_1 : decode cX4_read 1 = .ok (.iconst 0, 1) := by decide +kernel
theorem dX4_read_2 : decode cX4_read 2 = .ok (.putfield 32, 3) := by decide +kernel
theorem dX4_read_5 : decode cX4_read 5 = .ok (.aload_n 0, 1) := by decide +kernel
theorem dX4_read_6 : decode cX4_read 6 = .ok (.iconst (-1), 1) := by decide +kernel
theorem dX4_read_7 : decode cX4_read 7 = .ok (.putfield 18, 3) := by decide +kernel
theorem dX4_read_10 : decode cX4_read 10 = .ok (.aload_n 0, 1) := by decide +kernel
theorem dX4_read_11 : decode cX4_read 11 = .ok (.iconst 0, 1) := by decide +kernel
theorem dX4_read_12 : decode cX4_read 12 = .ok (.putfield 35, 3) := by decide +kernel
theorem dX4_read_15 : decode cX4_read 15 = .ok (.aload_n 0, 1) := by decide +kernel
theorem dX4_read_16 : decode cX4_read 16 = .ok (.getfield 12, 3) := by decide +kernel
theorem dX4_read_19 : decode cX4_read 19 = .ok (.invokevirtual 38, 3) := by decide +kernel
theorem dX4_read_22 : decode cX4_read 22 = .ok (.aload_n 0, 1) := by decide +kernel
theorem dX4_read_23 : decode cX4_read 23 = .ok (.aload_n 1, 1) := by decide +kernel
theorem dX4_read_24 : decode cX4_read 24 = .ok (.iload_n 2, 1) := by decide +kernel
theorem dX4_read_25 : decode cX4_read 25 = .ok (.aload_n 1, 1) := by decide +kernel
theorem dX4_read_26 : decode cX4_read 26 = .ok (.arraylength, 1) := by decide +kernel
theorem dX4_read_27 : decode cX4_read 27 = .ok (.invokestatic 41, 3) := by decide +kernel
theorem dX4_read_30 : decode cX4_read 30 = .ok (.invokevirtual 47, 3) := by decide +kernel
theorem dX4_read_33 : decode cX4_read 33 = .ok (.iconst 0, 1) := by decide +kernel
theorem dX4_read_34 : decode cX4_read 34 = .ok (.istore_n 3, 1) := by decide +kernel
theorem dX4_read_35 : decode cX4_read 35 = .ok (.iload_n 3, 1) := by decide +kernel
theorem dX4_read_36 : decode cX4_read 36 = .ok (.bipush 24, 2) := by decide +kernel
theorem dX4_read_38 : decode cX4_read 38 = .ok (.if_icmp .gt 71, 3) := by decide +kernel
theorem dX4_read_41 : decode cX4_read 41 = .ok (.aload_n 0, 1) := by decide +kernel
theorem dX4_read_42 : decode cX4_read 42 = .ok (.invokevirtual 51, 3) := by decide +kernel
theorem dX4_read_45 : decode cX4_read 45 = .ok (.ifCond .eq 64, 3) := by decide +kernel
theorem dX4_read_48 : decode cX4_read 48 = .ok (.aload_n 0, 1) := by decide +kernel
theorem dX4_read_49 : decode cX4_read 49 = .ok (.getfield 32, 3) := by decide +kernel
theorem dX4_read_52 : decode cX4_read 52 = .ok (.ifCond .ne 57, 3) := by decide +kernel
theorem dX4_read_55 : decode cX4_read 55 = .ok (.aload_n 0, 1) := by decide +kernel
theorem dX4_read_56 : decode cX4_read 56 = .ok (.invokevirtual 51, 3) := by decide +kernel
theorem dX4_read_59 : decode cX4_read 59 = .ok (.istore 4, 2) := by decide +kernel
theorem dX4_read_61 : decode cX4_read 61 = .ok (.aload_n 0, 1) := by decide +kernel
theorem dX4_read_62 : decode cX4_read 62 = .ok (.iload 4, 2) := by decide +kernel
theorem dX4_read_64 : decode cX4_read 64 = .ok (.invokevirtual 55, 3) := by decide +kernel
theorem dX4_read_67 : decode cX4_read 67 = .ok (.ifCond .eq 36, 3) := by decide +kernel
theorem dX4_read_70 : decode cX4_read 70 = .ok (.aload_n 0, 1) := by decide +kernel
theorem dX4_read_71 : decode cX4_read 71 = .ok (.invokevirtual 59, 3) := by decide +kernel
theorem dX4_read_74 : decode cX4_read 74 = .ok (.iload 4, 2) := by decide +kernel
theorem dX4_read_76 : decode cX4_read 76 = .ok (.invokestatic 62, 3) := by decide +kernel
theorem dX4_read_79 : decode cX4_read 79 = .ok (.ifCond .eq 12, 3) := by decide +kernel
theorem dX4_read_82 : decode cX4_read 82 = .ok (.aload_n 0, 1) := by decide +kernel
theorem dX4_read_83 : decode cX4_read 83 = .ok (.iload 4, 2) := by decide +kernel
theorem dX4_read_85 : decode cX4_read 85 = .ok (.invokevirtual 65, 3) := by decide +kernel
theorem dX4_read_88 : decode cX4_read 88 = .ok (.goto 9, 3) := by decide +kernel
theorem dX4_read_91 : decode cX4_read 91 = .ok (.aload_n 0, 1) := by decide +kernel
theorem dX4_read_92 : decode cX4_read 92 = .ok (.iload 4, 2) := by decide +kernel
theorem dX4_read_94 : decode cX4_read 94 = .ok (.invokevirtual 69, 3) := by decide +kernel
theorem dX4_read_97 : decode cX4_read 97 = .ok (.aload_n 0, 1) := by decide +kernel
theorem dX4_read_98 : decode cX4_read 98 = .ok (.bipush 13, 2) := by decide +kernel
theorem dX4_read_100 : decode cX4_read 100 = .ok (.invokevirtual 72, 3) := by decide +kernel
theorem dX4_read_103 : decode cX4_read 103 = .ok (.iinc 3 1, 3) := by decide +kernel
theorem dX4_read_106 : decode cX4_read 106 = .ok (.goto (-71), 3) := by decide +kernel
theorem dX4_read_109 : decode cX4_read 109 = .ok (.return_, 1) := by decide +kernel
def lX4_read_35 (F : Nat)  (t : Nat) (a1 : Nat) (a2 : Int32) : Nat → mS → Int32 → Option mS
  | 0, _, _ => none
  | n + 1, S, v3 => if (24 : Int32) < v3 then (some S) else (bd (f_X4_kind F S t) fun q1 => if q1 = 0 then (some S) else (if (S.1 t 1) = 0 then (bd (f_X4_kind F S t) fun q2 => bd (f_X4_canStart F S t q2) fun q3 => if q3.2 = true then (bd (f_X4_advance F q3.1 t) fun q4 => if (f_X4_isLaw q4 q2) = true then (bd (f_X4_readLaw F q4 t q2) fun q7 => bd (f_X4_expect F q7 t (13 : Int32)) fun q8 => lX4_read_35 F  t a1 a2 n q8 (v3 + 1)) else (bd (f_X4_readDeed F q4 t q2) fun q5 => bd (f_X4_expect F q5 t (13 : Int32)) fun q6 => lX4_read_35 F  t a1 a2 n q6 (v3 + 1))) else (lX4_read_35 F  t a1 a2 n q3.1 (v3 + 1))) else (some S)))
set_option maxHeartbeats 4000000 in
set_option maxRecDepth 100000 in
theorem gX4_read_35 {x : mX} {F : Nat} {t : Nat} {a1 : Nat} {a2 : Int32}   {R : mS} (ht : kd0 t = 4) (ha1 : kd0 a1 = 10) (ga1 : ln0 a1 = 300)  : ∀ (n : Nat) (S : mS) (v3 : Int32), lX4_read_35 F  t a1 a2 n S v3 = some R → mG x μX4_read 76 0 0 (mQe R none) 0 0 E0 S 35 [(0, .ref (t)), (3, .int (v3))] [] := by
  intro n
  induction n with
  | zero =>
    intro S v3 h
    cases h
  | succ n ih =>
    intro S v3 h
    unfold lX4_read_35 at h
    refine mG.iload_n 1 dX4_read_35 rfl ?_
    refine mG.bipush (v := 24) dX4_read_36 (by decide) ?_
    refine mG.icmp_gt 109 dX4_read_38 (by decide) (fun c13 => ?_) (fun c13 => ?_)
    · replace h := itp c13 h
      obtain rfl := Option.some.inj h
      exact mG.vret dX4_read_109 rfl ⟨rfl, rfl, rfl⟩
    · replace h := itn c13 h
      refine mG.aload_n 0 dX4_read_41 rfl ?_
      obtain ⟨q1, hq1, h⟩ := bdp h
      refine mG.callV0 (as := []) (st := []) (S2 := S) (r := some (.int (q1))) dX4_read_42 mvX4_kind wk15_17 rfl ht rfl (by decide) (Nat.le_of_ble_eq_true rfl) (c_X4_kind ht hq1) ?_
      refine mG.if_eq 109 dX4_read_45 (by decide) (fun c12 => ?_) (fun c12 => ?_)
      · replace h := itp c12 h
        obtain rfl := Option.some.inj h
        exact mG.vret dX4_read_109 rfl ⟨rfl, rfl, rfl⟩
      · replace h := itn c12 h
        refine mG.aload_n 0 dX4_read_48 rfl ?_
        refine mG.get (v := .int (S.1 t 1)) dX4_read_49 mfX4_32 ht rfl ?_
        refine mG.if_ne 109 dX4_read_52 (by decide) (fun c11 => ?_) (fun c11 => ?_)
        · replace h := itn c11 h
          obtain rfl := Option.some.inj h
          exact mG.vret dX4_read_109 rfl ⟨rfl, rfl, rfl⟩
        · replace h := itp c11 h
          refine mG.aload_n 0 dX4_read_55 rfl ?_
          obtain ⟨q2, hq2, h⟩ := bdp h
          refine mG.callV0 (as := []) (st := []) (S2 := S) (r := some (.int (q2))) dX4_read_56 mvX4_kind wk15_17 rfl ht rfl (by decide) (Nat.le_of_ble_eq_true rfl) (c_X4_kind ht hq2) ?_
          refine mG.istore (lv2 := [(4, .int (q2)), (0, .ref (t)), (3, .int (v3))]) dX4_read_59 (by decide) rfl ?_
          refine mG.aload_n 1 dX4_read_61 rfl ?_
          refine mG.iload 0 dX4_read_62 rfl ?_
          obtain ⟨q3, hq3, h⟩ := bdp h
          refine mG.callV0 (as := [.int (q2)]) (st := []) (S2 := q3.1) (r := some (.int (bI (q3.2)))) dX4_read_64 mvX4_canStart wk15_21 rfl ht rfl (by decide) (Nat.le_of_ble_eq_true rfl) (c_X4_canStart ht hq3) ?_
          refine mG.ifz_eq (b := q3.2) 103 dX4_read_67 (by decide) (fun c10 => ?_) (fun c10 => ?_)
          · replace h := itn c10 h
            refine mG.iinc 2 (u := v3 + 1) (lv2 := [(3, .int (v3 + 1)), (4, .int (q2)), (0, .ref (t))]) dX4_read_103 rfl rfl (by decide) rfl ?_
            refine mG.goto 35 dX4_read_106 (by decide) ?_
            refine mG.sub (lv2 := [(0, .ref (t)), (3, .int (v3 + 1))]) [2, 0] rfl ?_
            exact ih q3.1 (v3 + 1)  h
          · replace h := itp c10 h
            refine mG.aload_n 1 dX4_read_70 rfl ?_
            obtain ⟨q4, hq4, h⟩ := bdp h
            refine mG.callV0 (as := []) (st := []) (S2 := q4) (r := none) dX4_read_71 mvX4_advance wk16_13 rfl ht rfl (by decide) (Nat.le_of_ble_eq_true rfl) (c_X4_advance ht hq4) ?_
            refine mG.iload 0 dX4_read_74 rfl ?_
            refine mG.callS0 (as := [.int (q2)]) (st := []) (S2 := q4) (r := some (.int (bI (f_X4_isLaw q4 q2)))) dX4_read_76 mbX4_isLaw wk16_3 wk16_2 rfl rfl (by decide) (Nat.le_of_ble_eq_true rfl) (c_X4_isLaw  rfl) ?_
            refine mG.ifz_eq (b := f_X4_isLaw q4 q2) 91 dX4_read_79 (by decide) (fun c9 => ?_) (fun c9 => ?_)
            · replace h := itn c9 h
              refine mG.aload_n 1 dX4_read_91 rfl ?_
              refine mG.iload 0 dX4_read_92 rfl ?_
              obtain ⟨q5, hq5, h⟩ := bdp h
              refine mG.callV0 (as := [.int (q2)]) (st := []) (S2 := q5) (r := none) dX4_read_94 mvX4_readDeed wk19_8 rfl ht rfl (by decide) (Nat.le_of_ble_eq_true rfl) (c_X4_readDeed ht hq5) ?_
              refine mG.aload_n 1 dX4_read_97 rfl ?_
              refine mG.bipush (v := 13) dX4_read_98 (by decide) ?_
              obtain ⟨q6, hq6, h⟩ := bdp h
              refine mG.callV0 (as := [.int 13]) (st := []) (S2 := q6) (r := none) dX4_read_100 mvX4_expect wk18_5 rfl ht rfl (by decide) (Nat.le_of_ble_eq_true rfl) (c_X4_expect ht hq6) ?_
              refine mG.iinc 2 (u := v3 + 1) (lv2 := [(3, .int (v3 + 1)), (4, .int (q2)), (0, .ref (t))]) dX4_read_103 rfl rfl (by decide) rfl ?_
              refine mG.goto 35 dX4_read_106 (by decide) ?_
              refine mG.sub (lv2 := [(0, .ref (t)), (3, .int (v3 + 1))]) [2, 0] rfl ?_
              exact ih q6 (v3 + 1)  h
            · replace h := itp c9 h
              refine mG.aload_n 1 dX4_read_82 rfl ?_
              refine mG.iload 0 dX4_read_83 rfl ?_
              obtain ⟨q7, hq7, h⟩ := bdp h
              refine mG.callV0 (as := [.int (q2)]) (st := []) (S2 := q7) (r := none) dX4_read_85 mvX4_readLaw wk16_17 rfl ht rfl (by decide) (Nat.le_of_ble_eq_true rfl) (c_X4_readLaw ht hq7) ?_
              refine mG.goto 97 dX4_read_88 (by decide) ?_
              refine mG.aload_n 1 dX4_read_97 rfl ?_
              refine mG.bipush (v := 13) dX4_read_98 (by decide) ?_
              obtain ⟨q8, hq8, h⟩ := bdp h
              refine mG.callV0 (as := [.int 13]) (st := []) (S2 := q8) (r := none) dX4_read_100 mvX4_expect wk18_5 rfl ht rfl (by decide) (Nat.le_of_ble_eq_true rfl) (c_X4_expect ht hq8) ?_
              refine mG.iinc 2 (u := v3 + 1) (lv2 := [(3, .int (v3 + 1)), (4, .int (q2)), (0, .ref (t))]) dX4_read_103 rfl rfl (by decide) rfl ?_
              refine mG.goto 35 dX4_read_106 (by decide) ?_
              refine mG.sub (lv2 := [(0, .ref (t)), (3, .int (v3 + 1))]) [2, 0] rfl ?_
              exact ih q8 (v3 + 1)  h
def f_X4_read (F : Nat) (S : mS) (t : Nat) (a1 : Nat) (a2 : Int32) : Option mS := stp (sI S t 1 (0 : Int32)) fun S1 => stp (sI S1 t 2 (-1 : Int32)) fun S2 => stp (sI S2 t 7 (0 : Int32)) fun S3 => bd (f_X5_clear F S3 (t + 1)) fun q4 => bd (f_X4_splitUp F q4 t a1 (imin a2 (300 : Int32))) fun q5 => lX4_read_35 F  t a1 a2 F q5 (0 : Int32)
set_option maxHeartbeats 4000000 in
set_option maxRecDepth 100000 in
theorem c_X4_read {F : Nat} {S : mS} {t : Nat} {a1 : Nat} {a2 : Int32} {R : mS} (ht : kd0 t = 4) (ha1 : kd0 a1 = 10) (ga1 : ln0 a1 = 300) (h : f_X4_read F S t a1 a2 = some R) : mCt μX4_read 76 0 0 E0 S [.ref (t), .ref (a1), .int (a2)] (mQe R none) := by
  unfold f_X4_read at h
  refine mCt.of (by decide) (Nat.le_of_ble_eq_true rfl) ?_
  intro x
  refine mG.aload_n 0 dX4_read_0 rfl ?_
  refine mG.iconst (v := 0) dX4_read_1 rfl ?_
  obtain ⟨S1, hS1, h⟩ := stpp h
  refine mG.putI dX4_read_2 mfX4_32 rfl (Or.inl rfl) ht hS1 ?_
  refine mG.aload_n 0 dX4_read_5 rfl ?_
  refine mG.iconst (v := (-1)) dX4_read_6 rfl ?_
  obtain ⟨S2, hS2, h⟩ := stpp h
  refine mG.putI dX4_read_7 mfX4_18 rfl (Or.inl rfl) ht hS2 ?_
  refine mG.aload_n 0 dX4_read_10 rfl ?_
  refine mG.iconst (v := 0) dX4_read_11 rfl ?_
  obtain ⟨S3, hS3, h⟩ := stpp h
  refine mG.putI dX4_read_12 mfX4_35 rfl (Or.inl rfl) ht hS3 ?_
  refine mG.aload_n 0 dX4_read_15 rfl ?_
  refine mG.get (v := .ref (t + 1)) dX4_read_16 mfX4_12 ht (lr4_draft ht) ?_
  obtain ⟨q4, hq4, h⟩ := bdp h
  refine mG.callV0 (as := []) (st := []) (S2 := q4) (r := none) dX4_read_19 mvX5_clear wk9_23 rfl (lk4_draft ht) rfl (by decide) (Nat.le_of_ble_eq_true rfl) (c_X5_clear (lk4_draft ht) hq4) ?_
  refine mG.aload_n 0 dX4_read_22 rfl ?_
  refine mG.aload_n 1 dX4_read_23 rfl ?_
  refine mG.iload_n 2 dX4_read_24 rfl ?_
  refine mG.aload_n 1 dX4_read_25 rfl ?_
  refine mG.alen (v := 300) dX4_read_26 ha1 ga1 rfl ?_
  refine mG.mmin dX4_read_27 wk9_19 (by decide) (Nat.le_of_ble_eq_true rfl) (Nat.le_refl _) (Nat.le_refl _) ?_
  obtain ⟨q5, hq5, h⟩ := bdp h
  refine mG.callV0 (as := [.ref (a1), .int (imin a2 (300 : Int32))]) (st := []) (S2 := q5) (r := none) dX4_read_30 mvX4_splitUp wk10_5 rfl ht rfl (by decide) (Nat.le_of_ble_eq_true rfl) (c_X4_splitUp ht ha1 ga1 hq5) ?_
  refine mG.iconst (v := 0) dX4_read_33 rfl ?_
  refine mG.istore_n (lv2 := [(3, .int 0), (0, .ref (t)), (1, .ref (a1)), (2, .int (a2))]) dX4_read_34 rfl (by decide) rfl ?_
  refine mG.sub (lv2 := [(0, .ref (t)), (3, .int 0)]) [1, 0] rfl ?_
  exact gX4_read_35 ht ha1 ga1  F q5 (0 : Int32)  h
