theorem dX6_living_0 : decode cX6_living 0 = .ok (.iconst 1, 1) := by decide +kernel
theorem dX6_living_1 : decode cX6_living 1 = .ok (.aload_n 0, 1) := by decide +kernel
theorem dX6_living_2 : decode cX6_living 2 = .ok (.getfield 32, 3) := by decide +kernel
theorem dX6_living_5 : decode cX6_living 5 = .ok (.ishl, 1) := by decide +kernel
theorem dX6_living_6 : decode cX6_living 6 = .ok (.iconst 1, 1) := by decide +kernel
theorem dX6_living_7 : decode cX6_living 7 = .ok (.isub, 1) := by decide +kernel
theorem dX6_living_8 : decode cX6_living 8 = .ok (.aload_n 0, 1) := by decide +kernel
theorem dX6_living_9 : decode cX6_living 9 = .ok (.getfield 50, 3) := by decide +kernel
theorem dX6_living_12 : decode cX6_living 12 = .ok (.iconst (-1), 1) := by decide +kernel
theorem dX6_living_13 : decode cX6_living 13 = .ok (.ixor, 1) := by decide +kernel
theorem dX6_living_14 : decode cX6_living 14 = .ok (.iand, 1) := by decide +kernel
theorem dX6_living_15 : decode cX6_living 15 = .ok (.ireturn, 1) := by decide +kernel
def f_X6_living (S0 : mS) (t : Nat) : Int32 := (((1 : Int32) <<< ((S0.1 t 5) &&& 31)) - (1 : Int32)) &&& ((S0.1 t 6) ^^^ (-1 : Int32))
set_option maxHeartbeats 4000000 in
set_option maxRecDepth 100000 in
theorem c_X6_living {S0 : mS} {t : Nat} {R : Int32} (ht : kd0 t = 6) (h : f_X6_living S0 t = R) : mCt μX6_living 1 0 0 E0 S0 [.ref (t)] (mQe S0 (some (.int R))) := by
  unfold f_X6_living at h
  refine mCt.of (by decide) (Nat.le_of_ble_eq_true rfl) ?_
  intro x
  refine mG.iconst (v := 1) dX6_living_0 rfl ?_
  refine mG.aload_n 0 dX6_living_1 rfl ?_
  refine mG.get (v := .int (S0.1 t 5)) dX6_living_2 mfX6_32 ht rfl ?_
  refine mG.ishl dX6_living_5 ?_
  refine mG.iconst (v := 1) dX6_living_6 rfl ?_
  refine mG.isub dX6_living_7 ?_
  refine mG.aload_n 0 dX6_living_8 rfl ?_
  refine mG.get (v := .int (S0.1 t 6)) dX6_living_9 mfX6_50 ht rfl ?_
  refine mG.iconst (v := (-1)) dX6_living_12 rfl ?_
  refine mG.ixor dX6_living_13 ?_
  refine mG.iand dX6_living_14 ?_
  subst h
  exact mG.iret dX6_living_15 rfl ⟨rfl, rfl, rfl⟩
theorem dX6_shutOn_0 : decode cX6_shutOn 0 = .ok (.iconst 0, 1) := by decide +kernel
theorem dX6_shutOn_1 : decode cX6_shutOn 1 = .ok (.istore_n 2, 1) := by decide +kernel
theorem dX6_shutOn_2 : decode cX6_shutOn 2 = .ok (.iconst 0, 1) := by decide +kernel
theorem dX6_shutOn_3 : decode cX6_shutOn 3 = .ok (.istore_n 3, 1) := by decide +kernel
theorem dX6_shutOn_4 : decode cX6_shutOn 4 = .ok (.iload_n 3, 1) := by decide +kernel
theorem dX6_shutOn_5 : decode cX6_shutOn 5 = .ok (.aload_n 0, 1) := by decide +kernel
theorem dX6_shutOn_6 : decode cX6_shutOn 6 = .ok (.getfield 32, 3) := by decide +kernel
theorem dX6_shutOn_9 : decode cX6_shutOn 9 = .ok (.if_icmp .ge 24, 3) := by decide +kernel
theorem dX6_shutOn_12 : decode cX6_shutOn 12 = .ok (.iload_n 2, 1) := by decide +kernel
theorem dX6_shutOn_13 : decode cX6_shutOn 13 = .ok (.aload_n 0, 1) := by decide +kernel
theorem dX6_shutOn_14 : decode cX6_shutOn 14 = .ok (.getfield 9, 3) := by decide +kernel
theorem dX6_shutOn_17 : decode cX6_shutOn 17 = .ok (.iload_n 3, 1) := by decide +kernel
theorem dX6_shutOn_18 : decode cX6_shutOn 18 = .ok (.iaload, 1) := by decide +kernel
theorem dX6_shutOn_19 : decode cX6_shutOn 19 = .ok (.iload_n 1, 1) := by decide +kernel
theorem dX6_shutOn_20 : decode cX6_shutOn 20 = .ok (.ishr, 1) := by decide +kernel
theorem dX6_shutOn_21 : decode cX6_shutOn 21 = .ok (.iconst 1, 1) := by decide +kernel
theorem dX6_shutOn_22 : decode cX6_shutOn 22 = .ok (.iand, 1) := by decide +kernel
theorem dX6_shutOn_23 : decode cX6_shutOn 23 = .ok (.iload_n 3, 1) := by decide +kernel
theorem dX6_shutOn_24 : decode cX6_shutOn 24 = .ok (.ishl, 1) := by decide +kernel
theorem dX6_shutOn_25 : decode cX6_shutOn 25 = .ok (.ior, 1) := by decide +kernel
theorem dX6_shutOn_26 : decode cX6_shutOn 26 = .ok (.istore_n 2, 1) := by decide +kernel
theorem dX6_shutOn_27 : decode cX6_shutOn 27 = .ok (.iinc 3 1, 3) := by decide +kernel
theorem dX6_shutOn_30 : decode cX6_shutOn 30 = .ok (.goto (-26), 3) := by decide +kernel
theorem dX6_shutOn_33 : decode cX6_shutOn 33 = .ok (.iload_n 2, 1) := by decide +kernel
theorem dX6_shutOn_34 : decode cX6_shutOn 34 = .ok (.aload_n 0, 1) := by decide +kernel
theorem dX6_shutOn_35 : decode cX6_shutOn 35 = .ok (.invokevirtual 63, 3) := by decide +kernel
theorem dX6_shutOn_38 : decode cX6_shutOn 38 = .ok (.iand, 1) := by decide +kernel
theorem dX6_shutOn_39 : decode cX6_shutOn 39 = .ok (.ireturn, 1) := by decide +kernel
def lX6_shutOn_4 (F : Nat)  (t : Nat) (a1 : Int32) : Nat → mS → Int32 → Int32 → Option Int32
  | 0, _, _, _ => none
  | n + 1, S0, v2, v3 => if (S0.1 t 5) ≤ v3 then (some (v2 &&& (f_X6_living S0 t))) else (ck (inb v3 7) (lX6_shutOn_4 F  t a1 n S0 (v2 ||| ((((S0.1 (t + 1) v3.toNatClampNeg) >>> (a1 &&& 31)) &&& (1 : Int32)) <<< (v3 &&& 31))) (v3 + 1)))
set_option maxHeartbeats 4000000 in
set_option maxRecDepth 100000 in
theorem gX6_shutOn_4 {x : mX} {F : Nat} {t : Nat} {a1 : Int32} {S0 : mS}   {R : Int32} (ht : kd0 t = 6)  : ∀ (n : Nat) (v2 : Int32) (v3 : Int32), lX6_shutOn_4 F  t a1 n S0 v2 v3 = some R → mG x μX6_shutOn 2 0 0 (mQe S0 (some (.int R))) 0 0 E0 S0 4 [(0, .ref (t)), (1, .int (a1)), (2, .int (v2)), (3, .int (v3))] [] := by
  intro n
  induction n with
  | zero =>
    intro v2 v3 h
    cases h
  | succ n ih =>
    intro v2 v3 h
    unfold lX6_shutOn_4 at h
    refine mG.iload_n 3 dX6_shutOn_4 rfl ?_
    refine mG.aload_n 0 dX6_shutOn_5 rfl ?_
    refine mG.get (v := .int (S0.1 t 5)) dX6_shutOn_6 mfX6_32 ht rfl ?_
    refine mG.icmp_ge 33 dX6_shutOn_9 (by decide) (fun c2 => ?_) (fun c2 => ?_)
    · replace h := itp c2 h
      refine mG.iload_n 2 dX6_shutOn_33 rfl ?_
      refine mG.aload_n 0 dX6_shutOn_34 rfl ?_
      refine mG.callV0 (as := []) (st := [.int (v2)]) (S2 := S0) (r := some (.int (f_X6_living S0 t))) dX6_shutOn_35 mvX6_living wk29_21 rfl ht rfl (by decide) (Nat.le_of_ble_eq_true rfl) (c_X6_living ht rfl) ?_
      refine mG.iand dX6_shutOn_38 ?_
      obtain rfl := Option.some.inj h
      exact mG.iret dX6_shutOn_39 rfl ⟨rfl, rfl, rfl⟩
    · replace h := itn c2 h
      refine mG.iload_n 2 dX6_shutOn_12 rfl ?_
      refine mG.aload_n 0 dX6_shutOn_13 rfl ?_
      refine mG.get (v := .ref (t + 1)) dX6_shutOn_14 mfX6_9 ht (lr6_shut ht) ?_
      refine mG.iload_n 3 dX6_shutOn_17 rfl ?_
      obtain ⟨b1, h⟩ := ckp h
      refine mG.iald dX6_shutOn_18 (lk6_shut ht) (ll6_shut ht) (inbp b1) ?_
      refine mG.iload_n 1 dX6_shutOn_19 rfl ?_
      refine mG.ishr dX6_shutOn_20 ?_
      refine mG.iconst (v := 1) dX6_shutOn_21 rfl ?_
      refine mG.iand dX6_shutOn_22 ?_
      refine mG.iload_n 3 dX6_shutOn_23 rfl ?_
      refine mG.ishl dX6_shutOn_24 ?_
      refine mG.ior dX6_shutOn_25 ?_
      refine mG.istore_n (lv2 := [(2, .int (v2 ||| ((((S0.1 (t + 1) v3.toNatClampNeg) >>> (a1 &&& 31)) &&& (1 : Int32)) <<< (v3 &&& 31)))), (0, .ref (t)), (1, .int (a1)), (3, .int (v3))]) dX6_shutOn_26 rfl (by decide) rfl ?_
      refine mG.iinc 3 (u := v3 + 1) (lv2 := [(3, .int (v3 + 1)), (2, .int (v2 ||| ((((S0.1 (t + 1) v3.toNatClampNeg) >>> (a1 &&& 31)) &&& (1 : Int32)) <<< (v3 &&& 31)))), (0, .ref (t)), (1, .int (a1))]) dX6_shutOn_27 rfl rfl (by decide) rfl ?_
      refine mG.goto 4 dX6_shutOn_30 (by decide) ?_
      refine mG.sub (lv2 := [(0, .ref (t)), (1, .int (a1)), (2, .int (v2 ||| ((((S0.1 (t + 1) v3.toNatClampNeg) >>> (a1 &&& 31)) &&& (1 : Int32)) <<< (v3 &&& 31)))), (3, .int (v3 + 1))]) [2, 3, 1, 0] rfl ?_
      exact ih  (v2 ||| ((((S0.1 (t + 1) v3.toNatClampNeg) >>> (a1 &&& 31)) &&& (1 : Int32)) <<< (v3 &&& 31))) (v3 + 1)  h
def f_X6_shutOn (F : Nat) (S0 : mS) (t : Nat) (a1 : Int32) : Option Int32 := lX6_shutOn_4 F  t a1 F S0 (0 : Int32) (0 : Int32)
set_option maxHeartbeats 4000000 in
set_option maxRecDepth 100000 in
theorem c_X6_shutOn {F : Nat} {S0 : mS} {t : Nat} {a1 : Int32} {R : Int32} (ht : kd0 t = 6) (h : f_X6_shutOn F S0 t a1 = some R) : mCt μX6_shutOn 2 0 0 E0 S0 [.ref (t), .int (a1)] (mQe S0 (some (.int R))) := by
  unfold f_X6_shutOn at h
  refine mCt.of (by decide) (Nat.le_of_ble_eq_true rfl) ?_
  intro x
  refine mG.iconst (v := 0) dX6_shutOn_0 rfl ?_
  refine mG.istore_n (lv2 := [(2, .int 0), (0, .ref (t)), (1, .int (a1))]) dX6_shutOn_1 rfl (by decide) rfl ?_
  refine mG.iconst (v := 0) dX6_shutOn_2 rfl ?_
  refine mG.istore_n (lv2 := [(3, .int 0), (2, .int 0), (0, .ref (t)), (1, .int (a1))]) dX6_shutOn_3 rfl (by decide) rfl ?_
  refine mG.sub (lv2 := [(0, .ref (t)), (1, .int (a1)), (2, .int 0), (3, .int 0)]) [2, 3, 1, 0] rfl ?_
  exact gX6_shutOn_4 ht  F  (0 : Int32) (0 : Int32)  h
theorem dX6_openOn_0 : decode cX6_openOn 0 = .ok (.aload_n 0, 1) := by decide +kernel
theorem dX6_openOn_1 : decode cX6_openOn 1 = .ok (.invokevirtual 63, 3) := by decide +kernel
theorem dX6_openOn_4 : decode cX6_openOn 4 = .ok (.aload_n 0, 1) := by decide +kernel
theorem dX6_openOn_5 : decode cX6_openOn 5 = .ok (.iload_n 1, 1) := by decide +kernel
theorem dX6_openOn_6 : decode cX6_openOn 6 = .ok (.invokevirtual 67, 3) := by decide +kernel
theorem dX6_openOn_9 : decode cX6_openOn 9 = .ok (.iconst (-1), 1) := by decide +kernel
theorem dX6_openOn_10 : decode cX6_openOn 10 = .ok (.ixor, 1) := by decide +kernel
theorem dX6_openOn_11 : decode cX6_openOn 11 = .ok (.iand, 1) := by decide +kernel
theorem dX6_openOn_12 : decode cX6_openOn 12 = .ok (.ireturn, 1) := by decide +kernel
def f_X6_openOn (F : Nat) (S0 : mS) (t : Nat) (a1 : Int32) : Option Int32 := bd (f_X6_shutOn F S0 t a1) fun q1 => some ((f_X6_living S0 t) &&& (q1 ^^^ (-1 : Int32)))
set_option maxHeartbeats 4000000 in
set_option maxRecDepth 100000 in
theorem c_X6_openOn {F : Nat} {S0 : mS} {t : Nat} {a1 : Int32} {R : Int32} (ht : kd0 t = 6) (h : f_X6_openOn F S0 t a1 = some R) : mCt μX6_openOn 3 0 0 E0 S0 [.ref (t), .int (a1)] (mQe S0 (some (.int R))) := by
  unfold f_X6_openOn at h
  refine mCt.of (by decide) (Nat.le_of_ble_eq_true rfl) ?_
  intro x
  refine mG.aload_n 0 dX6_openOn_0 rfl ?_
  refine mG.callV0 (as := []) (st := []) (S2 := S0) (r := some (.int (f_X6_living S0 t))) dX6_openOn_1 mvX6_living wk29_21 rfl ht rfl (by decide) (Nat.le_of_ble_eq_true rfl) (c_X6_living ht rfl) ?_
  refine mG.aload_n 0 dX6_openOn_4 rfl ?_
  refine mG.iload_n 1 dX6_openOn_5 rfl ?_
  obtain ⟨q1, hq1, h⟩ := bdp h
  refine mG.callV0 (as := [.int (a1)]) (st := [.int (f_X6_living S0 t)]) (S2 := S0) (r := some (.int (q1))) dX6_openOn_6 mvX6_shutOn wk30_1 rfl ht rfl (by decide) (Nat.le_of_ble_eq_true rfl) (c_X6_shutOn ht hq1) ?_
  refine mG.iconst (v := (-1)) dX6_openOn_9 rfl ?_
  refine mG.ixor dX6_openOn_10 ?_
  refine mG.iand dX6_openOn_11 ?_
  obtain rfl := Option.some.inj h
  exact mG.iret dX6_openOn_12 rfl ⟨rfl, rfl, rfl⟩
theorem dJ6_bitCount_0f7a4_0 : decode cJ6_bitCount_0f7a4 0 = .ok (.iload_n 0, 1) := by decide +kernel
theorem dJ6_bitCount_0f7a4_1 : decode cJ6_bitCount_0f7a4 1 = .ok (.iload_n 0, 1) := by decide +kernel
theorem dJ6_bitCount_0f7a4_2 : decode cJ6_bitCount_0f7a4 2 = .ok (.iconst 1, 1) := by decide +kernel
theorem dJ6_bitCount_0f7a4_3 : decode cJ6_bitCount_0f7a4 3 = .ok (.iushr, 1) := by decide +kernel
theorem dJ6_bitCount_0f7a4_4 : decode cJ6_bitCount_0f7a4 4 = .ok (.ldc_w 265, 3) := by decide +kernel
theorem dJ6_bitCount_0f7a4_7 : decode cJ6_bitCount_0f7a4 7 = .ok (.iand, 1) := by decide +kernel
theorem dJ6_bitCount_0f7a4_8 : decode cJ6_bitCount_0f7a4 8 = .ok (.isub, 1) := by decide +kernel
theorem dJ6_bitCount_0f7a4_9 : decode cJ6_bitCount_0f7a4 9 = .ok (.istore_n 0, 1) := by decide +kernel
theorem dJ6_bitCount_0f7a4_10 : decode cJ6_bitCount_0f7a4 10 = .ok (.iload_n 0, 1) := by decide +kernel
theorem dJ6_bitCount_0f7a4_11 : decode cJ6_bitCount_0f7a4 11 = .ok (.ldc_w 266, 3) := by decide +kernel
theorem dJ6_bitCount_0f7a4_14 : decode cJ6_bitCount_0f7a4 14 = .ok (.iand, 1) := by decide +kernel
theorem dJ6_bitCount_0f7a4_15 : decode cJ6_bitCount_0f7a4 15 = .ok (.iload_n 0, 1) := by decide +kernel
theorem dJ6_bitCount_0f7a4_16 : decode cJ6_bitCount_0f7a4 16 = .ok (.iconst 2, 1) := by decide +kernel
theorem dJ6_bitCount_0f7a4_17 : decode cJ6_bitCount_0f7a4 17 = .ok (.iushr, 1) := by decide +kernel
theorem dJ6_bitCount_0f7a4_18 : decode cJ6_bitCount_0f7a4 18 = .ok (.ldc_w 266, 3) := by decide +kernel
theorem dJ6_bitCount_0f7a4_21 : decode cJ6_bitCount_0f7a4 21 = .ok (.iand, 1) := by decide +kernel
theorem dJ6_bitCount_0f7a4_22 : decode cJ6_bitCount_0f7a4 22 = .ok (.iadd, 1) := by decide +kernel
theorem dJ6_bitCount_0f7a4_23 : decode cJ6_bitCount_0f7a4 23 = .ok (.istore_n 0, 1) := by decide +kernel
theorem dJ6_bitCount_0f7a4_24 : decode cJ6_bitCount_0f7a4 24 = .ok (.iload_n 0, 1) := by decide +kernel
theorem dJ6_bitCount_0f7a4_25 : decode cJ6_bitCount_0f7a4 25 = .ok (.iload_n 0, 1) := by decide +kernel
theorem dJ6_bitCount_0f7a4_26 : decode cJ6_bitCount_0f7a4 26 = .ok (.iconst 4, 1) := by decide +kernel
theorem dJ6_bitCount_0f7a4_27 : decode cJ6_bitCount_0f7a4 27 = .ok (.iushr, 1) := by decide +kernel
theorem dJ6_bitCount_0f7a4_28 : decode cJ6_bitCount_0f7a4 28 = .ok (.iadd, 1) := by decide +kernel
theorem dJ6_bitCount_0f7a4_29 : decode cJ6_bitCount_0f7a4 29 = .ok (.ldc_w 267, 3) := by decide +kernel
theorem dJ6_bitCount_0f7a4_32 : decode cJ6_bitCount_0f7a4 32 = .ok (.iand, 1) := by decide +kernel
theorem dJ6_bitCount_0f7a4_33 : decode cJ6_bitCount_0f7a4 33 = .ok (.istore_n 0, 1) := by decide +kernel
theorem dJ6_bitCount_0f7a4_34 : decode cJ6_bitCount_0f7a4 34 = .ok (.iload_n 0, 1) := by decide +kernel
theorem dJ6_bitCount_0f7a4_35 : decode cJ6_bitCount_0f7a4 35 = .ok (.iload_n 0, 1) := by decide +kernel
theorem dJ6_bitCount_0f7a4_36 : decode cJ6_bitCount_0f7a4 36 = .ok (.bipush 8, 2) := by decide +kernel
theorem dJ6_bitCount_0f7a4_38 : decode cJ6_bitCount_0f7a4 38 = .ok (.iushr, 1) := by decide +kernel
theorem dJ6_bitCount_0f7a4_39 : decode cJ6_bitCount_0f7a4 39 = .ok (.iadd, 1) := by decide +kernel
theorem dJ6_bitCount_0f7a4_40 : decode cJ6_bitCount_0f7a4 40 = .ok (.istore_n 0, 1) := by decide +kernel
theorem dJ6_bitCount_0f7a4_41 : decode cJ6_bitCount_0f7a4 41 = .ok (.iload_n 0, 1) := by decide +kernel
theorem dJ6_bitCount_0f7a4_42 : decode cJ6_bitCount_0f7a4 42 = .ok (.iload_n 0, 1) := by decide +kernel
theorem dJ6_bitCount_0f7a4_43 : decode cJ6_bitCount_0f7a4 43 = .ok (.bipush 16, 2) := by decide +kernel
theorem dJ6_bitCount_0f7a4_45 : decode cJ6_bitCount_0f7a4 45 = .ok (.iushr, 1) := by decide +kernel
theorem dJ6_bitCount_0f7a4_46 : decode cJ6_bitCount_0f7a4 46 = .ok (.iadd, 1) := by decide +kernel
theorem dJ6_bitCount_0f7a4_47 : decode cJ6_bitCount_0f7a4 47 = .ok (.istore_n 0, 1) := by decide +kernel
theorem dJ6_bitCount_0f7a4_48 : decode cJ6_bitCount_0f7a4 48 = .ok (.iload_n 0, 1) := by decide +kernel
theorem dJ6_bitCount_0f7a4_49 : decode cJ6_bitCount_0f7a4 49 = .ok (.bipush 63, 2) := by decide +kernel
theorem dJ6_bitCount_0f7a4_51 : decode cJ6_bitCount_0f7a4 51 = .ok (.iand, 1) := by decide +kernel
theorem dJ6_bitCount_0f7a4_52 : decode cJ6_bitCount_0f7a4 52 = .ok (.ireturn, 1) := by decide +kernel
def f_J6_bitCount_0f7a4 (S0 : mS) (a1 : Int32) : Int32 := (((((((a1 - ((((a1).toUInt32 >>> (((1 : Int32)).toUInt32 &&& Int32.toUInt32 31)).toInt32) &&& (1431655765 : Int32))) &&& (858993459 : Int32)) + ((((a1 - ((((a1).toUInt32 >>> (((1 : Int32)).toUInt32 &&& Int32.toUInt32 31)).toInt32) &&& (1431655765 : Int32))).toUInt32 >>> (((2 : Int32)).toUInt32 &&& Int32.toUInt32 31)).toInt32) &&& (858993459 : Int32))) + (((((a1 - ((((a1).toUInt32 >>> (((1 : Int32)).toUInt32 &&& Int32.toUInt32 31)).toInt32) &&& (1431655765 : Int32))) &&& (858993459 : Int32)) + ((((a1 - ((((a1).toUInt32 >>> (((1 : Int32)).toUInt32 &&& Int32.toUInt32 31)).toInt32) &&& (1431655765 : Int32))).toUInt32 >>> (((2 : Int32)).toUInt32 &&& Int32.toUInt32 31)).toInt32) &&& (858993459 : Int32))).toUInt32 >>> (((4 : Int32)).toUInt32 &&& Int32.toUInt32 31)).toInt32)) &&& (252645135 : Int32)) + (((((((a1 - ((((a1).toUInt32 >>> (((1 : Int32)).toUInt32 &&& Int32.toUInt32 31)).toInt32) &&& (1431655765 : Int32))) &&& (858993459 : Int32)) + ((((a1 - ((((a1).toUInt32 >>> (((1 : Int32)).toUInt32 &&& Int32.toUInt32 31)).toInt32) &&& (1431655765 : Int32))).toUInt32 >>> (((2 : Int32)).toUInt32 &&& Int32.toUInt32 31)).toInt32) &&& (858993459 : Int32))) + (((((a1 - ((((a1).toUInt32 >>> (((1 : Int32)).toUInt32 &&& Int32.toUInt32 31)).toInt32) &&& (1431655765 : Int32))) &&& (858993459 : Int32)) + ((((a1 - ((((a1).toUInt32 >>> (((1 : Int32)).toUInt32 &&& Int32.toUInt32 31)).toInt32) &&& (1431655765 : Int32))).toUInt32 >>> (((2 : Int32)).toUInt32 &&& Int32.toUInt32 31)).toInt32) &&& (858993459 : Int32))).toUInt32 >>> (((4 : Int32)).toUInt32 &&& Int32.toUInt32 31)).toInt32)) &&& (252645135 : Int32)).toUInt32 >>> (((8 : Int32)).toUInt32 &&& Int32.toUInt32 31)).toInt32)) + ((((((((a1 - ((((a1).toUInt32 >>> (((1 : Int32)).toUInt32 &&& Int32.toUInt32 31)).toInt32) &&& (1431655765 : Int32))) &&& (858993459 : Int32)) + ((((a1 - ((((a1).toUInt32 >>> (((1 : Int32)).toUInt32 &&& Int32.toUInt32 31)).toInt32) &&& (1431655765 : Int32))).toUInt32 >>> (((2 : Int32)).toUInt32 &&& Int32.toUInt32 31)).toInt32) &&& (858993459 : Int32))) + (((((a1 - ((((a1).toUInt32 >>> (((1 : Int32)).toUInt32 &&& Int32.toUInt32 31)).toInt32) &&& (1431655765 : Int32))) &&& (858993459 : Int32)) + ((((a1 - ((((a1).toUInt32 >>> (((1 : Int32)).toUInt32 &&& Int32.toUInt32 31)).toInt32) &&& (1431655765 : Int32))).toUInt32 >>> (((2 : Int32)).toUInt32 &&& Int32.toUInt32 31)).toInt32) &&& (858993459 : Int32))).toUInt32 >>> (((4 : Int32)).toUInt32 &&& Int32.toUInt32 31)).toInt32)) &&& (252645135 : Int32)) + (((((((a1 - ((((a1).toUInt32 >>> (((1 : Int32)).toUInt32 &&& Int32.toUInt32 31)).toInt32) &&& (1431655765 : Int32))) &&& (858993459 : Int32)) + ((((a1 - ((((a1).toUInt32 >>> (((1 : Int32)).toUInt32 &&& Int32.toUInt32 31)).toInt32) &&& (1431655765 : Int32))).toUInt32 >>> (((2 : Int32)).toUInt32 &&& Int32.toUInt32 31)).toInt32) &&& (858993459 : Int32))) + (((((a1 - ((((a1).toUInt32 >>> (((1 : Int32)).toUInt32 &&& Int32.toUInt32 31)).toInt32) &&& (1431655765 : Int32))) &&& (858993459 : Int32)) + ((((a1 - ((((a1).toUInt32 >>> (((1 : Int32)).toUInt32 &&& Int32.toUInt32 31)).toInt32) &&& (1431655765 : Int32))).toUInt32 >>> (((2 : Int32)).toUInt32 &&& Int32.toUInt32 31)).toInt32) &&& (858993459 : Int32))).toUInt32 >>> (((4 : Int32)).toUInt32 &&& Int32.toUInt32 31)).toInt32)) &&& (252645135 : Int32)).toUInt32 >>> (((8 : Int32)).toUInt32 &&& Int32.toUInt32 31)).toInt32)).toUInt32 >>> (((16 : Int32)).toUInt32 &&& Int32.toUInt32 31)).toInt32)) &&& (63 : Int32)
set_option maxHeartbeats 4000000 in
set_option maxRecDepth 100000 in
theorem c_J6_bitCount_0f7a4 {S0 : mS} {a1 : Int32} {R : Int32}  (h : f_J6_bitCount_0f7a4 S0 a1 = R) : mCt μJ6_bitCount_0f7a4 1 0 0 E0 S0 [.int (a1)] (mQe S0 (some (.int R))) := by
  unfold f_J6_bitCount_0f7a4 at h
  refine mCt.of (by decide) (Nat.le_of_ble_eq_true rfl) ?_
  intro x
  refine mG.iload_n 0 dJ6_bitCount_0f7a4_0 rfl ?_
  refine mG.iload_n 0 dJ6_bitCount_0f7a4_1 rfl ?_
  refine mG.iconst (v := 1) dJ6_bitCount_0f7a4_2 rfl ?_
  refine mG.iushr dJ6_bitCount_0f7a4_3 ?_
  refine mG.ldcw (v := 1431655765) dJ6_bitCount_0f7a4_4 wk30_9 ?_
  refine mG.iand dJ6_bitCount_0f7a4_7 ?_
  refine mG.isub dJ6_bitCount_0f7a4_8 ?_
  refine mG.istore_n (lv2 := [(0, .int (a1 - ((((a1).toUInt32 >>> (((1 : Int32)).toUInt32 &&& Int32.toUInt32 31)).toInt32) &&& (1431655765 : Int32))))]) dJ6_bitCount_0f7a4_9 rfl (by decide) rfl ?_
  refine mG.iload_n 0 dJ6_bitCount_0f7a4_10 rfl ?_
  refine mG.ldcw (v := 858993459) dJ6_bitCount_0f7a4_11 wk30_10 ?_
  refine mG.iand dJ6_bitCount_0f7a4_14 ?_
  refine mG.iload_n 0 dJ6_bitCount_0f7a4_15 rfl ?_
  refine mG.iconst (v := 2) dJ6_bitCount_0f7a4_16 rfl ?_
  refine mG.iushr dJ6_bitCount_0f7a4_17 ?_
  refine mG.ldcw (v := 858993459) dJ6_bitCount_0f7a4_18 wk30_10 ?_
  refine mG.iand dJ6_bitCount_0f7a4_21 ?_
  refine mG.iadd dJ6_bitCount_0f7a4_22 ?_
  refine mG.istore_n (lv2 := [(0, .int (((a1 - ((((a1).toUInt32 >>> (((1 : Int32)).toUInt32 &&& Int32.toUInt32 31)).toInt32) &&& (1431655765 : Int32))) &&& (858993459 : Int32)) + ((((a1 - ((((a1).toUInt32 >>> (((1 : Int32)).toUInt32 &&& Int32.toUInt32 31)).toInt32) &&& (1431655765 : Int32))).toUInt32 >>> (((2 : Int32)).toUInt32 &&& Int32.toUInt32 31)).toInt32) &&& (858993459 : Int32))))]) dJ6_bitCount_0f7a4_23 rfl (by decide) rfl ?_
  refine mG.iload_n 0 dJ6_bitCount_0f7a4_24 rfl ?_
  refine mG.iload_n 0 dJ6_bitCount_0f7a4_25 rfl ?_
  refine mG.iconst (v := 4) dJ6_bitCount_0f7a4_26 rfl ?_
  refine mG.iushr dJ6_bitCount_0f7a4_27 ?_
  refine mG.iadd dJ6_bitCount_0f7a4_28 ?_
  refine mG.ldcw (v := 252645135) dJ6_bitCount_0f7a4_29 wk30_11 ?_
  refine mG.iand dJ6_bitCount_0f7a4_32 ?_
  refine mG.istore_n (lv2 := [(0, .int (((((a1 - ((((a1).toUInt32 >>> (((1 : Int32)).toUInt32 &&& Int32.toUInt32 31)).toInt32) &&& (1431655765 : Int32))) &&& (858993459 : Int32)) + ((((a1 - ((((a1).toUInt32 >>> (((1 : Int32)).toUInt32 &&& Int32.toUInt32 31)).toInt32) &&& (1431655765 : Int32))).toUInt32 >>> (((2 : Int32)).toUInt32 &&& Int32.toUInt32 31)).toInt32) &&& (858993459 : Int32))) + (((((a1 - ((((a1).toUInt32 >>> (((1 : Int32)).toUInt32 &&& Int32.toUInt32 31)).toInt32) &&& (1431655765 : Int32))) &&& (858993459 : Int32)) + ((((a1 - ((((a1).toUInt32 >>> (((1 : Int32)).toUInt32 &&& Int32.toUInt32 31)).toInt32) &&& (1431655765 : Int32))).toUInt32 >>> (((2 : Int32)).toUInt32 &&& Int32.toUInt32 31)).toInt32) &&& (858993459 : Int32))).toUInt32 >>> (((4 : Int32)).toUInt32 &&& Int32.toUInt32 31)).toInt32)) &&& (252645135 : Int32)))]) dJ6_bitCount_0f7a4_33 rfl (by decide) rfl ?_
  refine mG.iload_n 0 dJ6_bitCount_0f7a4_34 rfl ?_
  refine mG.iload_n 0 dJ6_bitCount_0f7a4_35 rfl ?_
  refine mG.bipush (v := 8) dJ6_bitCount_0f7a4_36 (by decide) ?_
  refine mG.iushr dJ6_bitCount_0f7a4_38 ?_
  refine mG.iadd dJ6_bitCount_0f7a4_39 ?_
  refine mG.istore_n (lv2 := [(0, .int ((((((a1 - ((((a1).toUInt32 >>> (((1 : Int32)).toUInt32 &&& Int32.toUInt32 31)).toInt32) &&& (1431655765 : Int32))) &&& (858993459 : Int32)) + ((((a1 - ((((a1).toUInt32 >>> (((1 : Int32)).toUInt32 &&& Int32.toUInt32 31)).toInt32) &&& (1431655765 : Int32))).toUInt32 >>> (((2 : Int32)).toUInt32 &&& Int32.toUInt32 31)).toInt32) &&& (858993459 : Int32))) + (((((a1 - ((((a1).toUInt32 >>> (((1 : Int32)).toUInt32 &&& Int32.toUInt32 31)).toInt32) &&& (1431655765 : Int32))) &&& (858993459 : Int32)) + ((((a1 - ((((a1).toUInt32 >>> (((1 : Int32)).toUInt32 &&& Int32.toUInt32 31)).toInt32) &&& (1431655765 : Int32))).toUInt32 >>> (((2 : Int32)).toUInt32 &&& Int32.toUInt32 31)).toInt32) &&& (858993459 : Int32))).toUInt32 >>> (((4 : Int32)).toUInt32 &&& Int32.toUInt32 31)).toInt32)) &&& (252645135 : Int32)) + (((((((a1 - ((((a1).toUInt32 >>> (((1 : Int32)).toUInt32 &&& Int32.toUInt32 31)).toInt32) &&& (1431655765 : Int32))) &&& (858993459 : Int32)) + ((((a1 - ((((a1).toUInt32 >>> (((1 : Int32)).toUInt32 &&& Int32.toUInt32 31)).toInt32) &&& (1431655765 : Int32))).toUInt32 >>> (((2 : Int32)).toUInt32 &&& Int32.toUInt32 31)).toInt32) &&& (858993459 : Int32))) + (((((a1 - ((((a1).toUInt32 >>> (((1 : Int32)).toUInt32 &&& Int32.toUInt32 31)).toInt32) &&& (1431655765 : Int32))) &&& (858993459 : Int32)) + ((((a1 - ((((a1).toUInt32 >>> (((1 : Int32)).toUInt32 &&& Int32.toUInt32 31)).toInt32) &&& (1431655765 : Int32))).toUInt32 >>> (((2 : Int32)).toUInt32 &&& Int32.toUInt32 31)).toInt32) &&& (858993459 : Int32))).toUInt32 >>> (((4 : Int32)).toUInt32 &&& Int32.toUInt32 31)).toInt32)) &&& (252645135 : Int32)).toUInt32 >>> (((8 : Int32)).toUInt32 &&& Int32.toUInt32 31)).toInt32)))]) dJ6_bitCount_0f7a4_40 rfl (by decide) rfl ?_
  refine mG.iload_n 0 dJ6_bitCount_0f7a4_41 rfl ?_
  refine mG.iload_n 0 dJ6_bitCount_0f7a4_42 rfl ?_
  refine mG.bipush (v := 16) dJ6_bitCount_0f7a4_43 (by decide) ?_
  refine mG.iushr dJ6_bitCount_0f7a4_45 ?_
  refine mG.iadd dJ6_bitCount_0f7a4_46 ?_
  refine mG.istore_n (lv2 := [(0, .int (((((((a1 - ((((a1).toUInt32 >>> (((1 : Int32)).toUInt32 &&& Int32.toUInt32 31)).toInt32) &&& (1431655765 : Int32))) &&& (858993459 : Int32)) + ((((a1 - ((((a1).toUInt32 >>> (((1 : Int32)).toUInt32 &&& Int32.toUInt32 31)).toInt32) &&& (1431655765 : Int32))).toUInt32 >>> (((2 : Int32)).toUInt32 &&& Int32.toUInt32 31)).toInt32) &&& (858993459 : Int32))) + (((((a1 - ((((a1).toUInt32 >>> (((1 : Int32)).toUInt32 &&& Int32.toUInt32 31)).toInt32) &&& (1431655765 : Int32))) &&& (858993459 : Int32)) + ((((a1 - ((((a1).toUInt32 >>> (((1 : Int32)).toUInt32 &&& Int32.toUInt32 31)).toInt32) &&& (1431655765 : Int32))).toUInt32 >>> (((2 : Int32)).toUInt32 &&& Int32.toUInt32 31)).toInt32) &&& (858993459 : Int32))).toUInt32 >>> (((4 : Int32)).toUInt32 &&& Int32.toUInt32 31)).toInt32)) &&& (252645135 : Int32)) + (((((((a1 - ((((a1).toUInt32 >>> (((1 : Int32)).toUInt32 &&& Int32.toUInt32 31)).toInt32) &&& (1431655765 : Int32))) &&& (858993459 : Int32)) + ((((a1 - ((((a1).toUInt32 >>> (((1 : Int32)).toUInt32 &&& Int32.toUInt32 31)).toInt32) &&& (1431655765 : Int32))).toUInt32 >>> (((2 : Int32)).toUInt32 &&& Int32.toUInt32 31)).toInt32) &&& (858993459 : Int32))) + (((((a1 - ((((a1).toUInt32 >>> (((1 : Int32)).toUInt32 &&& Int32.toUInt32 31)).toInt32) &&& (1431655765 : Int32))) &&& (858993459 : Int32)) + ((((a1 - ((((a1).toUInt32 >>> (((1 : Int32)).toUInt32 &&& Int32.toUInt32 31)).toInt32) &&& (1431655765 : Int32))).toUInt32 >>> (((2 : Int32)).toUInt32 &&& Int32.toUInt32 31)).toInt32) &&& (858993459 : Int32))).toUInt32 >>> (((4 : Int32)).toUInt32 &&& Int32.toUInt32 31)).toInt32)) &&& (252645135 : Int32)).toUInt32 >>> (((8 : Int32)).toUInt32 &&& Int32.toUInt32 31)).toInt32)) + ((((((((a1 - ((((a1).toUInt32 >>> (((1 : Int32)).toUInt32 &&& Int32.toUInt32 31)).toInt32) &&& (1431655765 : Int32))) &&& (858993459 : Int32)) + ((((a1 - ((((a1).toUInt32 >>> (((1 : Int32)).toUInt32 &&& Int32.toUInt32 31)).toInt32) &&& (1431655765 : Int32))).toUInt32 >>> (((2 : Int32)).toUInt32 &&& Int32.toUInt32 31)).toInt32) &&& (858993459 : Int32))) + (((((a1 - ((((a1).toUInt32 >>> (((1 : Int32)).toUInt32 &&& Int32.toUInt32 31)).toInt32) &&& (1431655765 : Int32))) &&& (858993459 : Int32)) + ((((a1 - ((((a1).toUInt32 >>> (((1 : Int32)).toUInt32 &&& Int32.toUInt32 31)).toInt32) &&& (1431655765 : Int32))).toUInt32 >>> (((2 : Int32)).toUInt32 &&& Int32.toUInt32 31)).toInt32) &&& (858993459 : Int32))).toUInt32 >>> (((4 : Int32)).toUInt32 &&& Int32.toUInt32 31)).toInt32)) &&& (252645135 : Int32)) + (((((((a1 - ((((a1).toUInt32 >>> (((1 : Int32)).toUInt32 &&& Int32.toUInt32 31)).toInt32) &&& (1431655765 : Int32))) &&& (858993459 : Int32)) + ((((a1 - ((((a1).toUInt32 >>> (((1 : Int32)).toUInt32 &&& Int32.toUInt32 31)).toInt32) &&& (1431655765 : Int32))).toUInt32 >>> (((2 : Int32)).toUInt32 &&& Int32.toUInt32 31)).toInt32) &&& (858993459 : Int32))) + (((((a1 - ((((a1).toUInt32 >>> (((1 : Int32)).toUInt32 &&& Int32.toUInt32 31)).toInt32) &&& (1431655765 : Int32))) &&& (858993459 : Int32)) + ((((a1 - ((((a1).toUInt32 >>> (((1 : Int32)).toUInt32 &&& Int32.toUInt32 31)).toInt32) &&& (1431655765 : Int32))).toUInt32 >>> (((2 : Int32)).toUInt32 &&& Int32.toUInt32 31)).toInt32) &&& (858993459 : Int32))).toUInt32 >>> (((4 : Int32)).toUInt32 &&& Int32.toUInt32 31)).toInt32)) &&& (252645135 : Int32)).toUInt32 >>> (((8 : Int32)).toUInt32 &&& Int32.toUInt32 31)).toInt32)).toUInt32 >>> (((16 : Int32)).toUInt32 &&& Int32.toUInt32 31)).toInt32)))]) dJ6_bitCount_0f7a4_47 rfl (by decide) rfl ?_
  refine mG.iload_n 0 dJ6_bitCount_0f7a4_48 rfl ?_
  refine mG.bipush (v := 63) dJ6_bitCount_0f7a4_49 (by decide) ?_
  refine mG.iand dJ6_bitCount_0f7a4_51 ?_
  subst h
  exact mG.iret dJ6_bitCount_0f7a4_52 rfl ⟨rfl, rfl, rfl⟩
theorem dX3_lookAt_0 : decode cX3_lookAt 0 = .ok (.iload_n 2, 1) := by decide +kernel
theorem dX3_lookAt_1 : decode cX3_lookAt 1 = .ok (.bipush 20, 2) := by decide +kernel
theorem dX3_lookAt_3 : decode cX3_lookAt 3 = .ok (.irem, 1) := by decide +kernel
theorem dX3_lookAt_4 : decode cX3_lookAt 4 = .ok (.istore_n 3, 1) := by decide +kernel
theorem dX3_lookAt_5 : decode cX3_lookAt 5 = .ok (.aload_n 0, 1) := by decide +kernel
theorem dX3_lookAt_6 : decode cX3_lookAt 6 = .ok (.aload_n 1, 1) := by decide +kernel
theorem dX3_lookAt_7 : decode cX3_lookAt 7 = .ok (.iload_n 3, 1) := by decide +kernel
theorem dX3_lookAt_8 : decode cX3_lookAt 8 = .ok (.invokevirtual 18, 3) := by decide +kernel
theorem dX3_lookAt_11 : decode cX3_lookAt 11 = .ok (.putfield 24, 3) := by decide +kernel
theorem dX3_lookAt_14 : decode cX3_lookAt 14 = .ok (.aload_n 0, 1) := by decide +kernel
theorem dX3_lookAt_15 : decode cX3_lookAt 15 = .ok (.getfield 9, 3) := by decide +kernel
theorem dX3_lookAt_18 : decode cX3_lookAt 18 = .ok (.iconst 0, 1) := by decide +kernel
theorem dX3_lookAt_19 : decode cX3_lookAt 19 = .ok (.iload_n 2, 1) := by decide +kernel
theorem dX3_lookAt_20 : decode cX3_lookAt 20 = .ok (.iastore, 1) := by decide +kernel
theorem dX3_lookAt_21 : decode cX3_lookAt 21 = .ok (.aload_n 0, 1) := by decide +kernel
theorem dX3_lookAt_22 : decode cX3_lookAt 22 = .ok (.getfield 9, 3) := by decide +kernel
theorem dX3_lookAt_25 : decode cX3_lookAt 25 = .ok (.iconst 1, 1) := by decide +kernel
theorem dX3_lookAt_26 : decode cX3_lookAt 26 = .ok (.iload_n 3, 1) := by decide +kernel
theorem dX3_lookAt_27 : decode cX3_lookAt 27 = .ok (.iastore, 1) := by decide +kernel
theorem dX3_lookAt_28 : decode cX3_lookAt 28 = .ok (.aload_n 0, 1) := by decide +kernel
theorem dX3_lookAt_29 : decode cX3_lookAt 29 = .ok (.getfield 9, 3) := by decide +kernel
theorem dX3_lookAt_32 : decode cX3_lookAt 32 = .ok (.bipush 6, 2) := by decide +kernel
theorem dX3_lookAt_34 : decode cX3_lookAt 34 = .ok (.aload_n 0, 1) := by decide +kernel
theorem dX3_lookAt_35 : decode cX3_lookAt 35 = .ok (.getfield 24, 3) := by decide +kernel
theorem dX3_lookAt_38 : decode cX3_lookAt 38 = .ok (.invokestatic 28, 3) := by decide +kernel
theorem dX3_lookAt_41 : decode cX3_lookAt 41 = .ok (.iastore, 1) := by decide +kernel
theorem dX3_lookAt_42 : decode cX3_lookAt 42 = .ok (.return_, 1) := by decide +kernel
def f_X3_lookAt (F : Nat) (S : mS) (t : Nat) (a1 : Nat) (a2 : Int32) : Option mS := bd (f_X6_openOn F S a1 (a2 - a2 / (20 : Int32) * (20 : Int32))) fun q1 => stp (sI S t 2 q1) fun S2 => ck (inb (0 : Int32) 8) (stp (sI S2 (t + 1) (0 : Int32).toNatClampNeg a2) fun S4 => ck (inb (1 : Int32) 8) (stp (sI S4 (t + 1) (1 : Int32).toNatClampNeg (a2 - a2 / (20 : Int32) * (20 : Int32))) fun S6 => ck (inb (6 : Int32) 8) (stp (sI S6 (t + 1) (6 : Int32).toNatClampNeg (f_J6_bitCount_0f7a4 S6 (S6.1 t 2))) fun S8 => some S8)))
set_option maxHeartbeats 4000000 in
set_option maxRecDepth 100000 in
theorem c_X3_lookAt {F : Nat} {S : mS} {t : Nat} {a1 : Nat} {a2 : Int32} {R : mS} (ht : kd0 t = 3) (ha1 : kd0 a1 = 6) (h : f_X3_lookAt F S t a1 a2 = some R) : mCt μX3_lookAt 4 0 0 E0 S [.ref (t), .ref (a1), .int (a2)] (mQe R none) := by
  unfold f_X3_lookAt at h
  refine mCt.of (by decide) (Nat.le_of_ble_eq_true rfl) ?_
  intro x
  refine mG.iload_n 2 dX3_lookAt_0 rfl ?_
  refine mG.bipush (v := 20) dX3_lookAt_1 (by decide) ?_
  refine mG.irem dX3_lookAt_3 (by decide) ?_
  refine mG.istore_n (lv2 := [(3, .int (a2 - a2 / (20 : Int32) * (20 : Int32))), (0, .ref (t)), (1, .ref (a1)), (2, .int (a2))]) dX3_lookAt_4 rfl (by decide) rfl ?_
  refine mG.aload_n 1 dX3_lookAt_5 rfl ?_
  refine mG.aload_n 2 dX3_lookAt_6 rfl ?_
  refine mG.iload_n 0 dX3_lookAt_7 rfl ?_
  obtain ⟨q1, hq1, h⟩ := bdp h
  refine mG.callV0 (as := [.int (a2 - a2 / (20 : Int32) * (20 : Int32))]) (st := [.ref (t)]) (S2 := S) (r := some (.int (q1))) dX3_lookAt_8 mvX6_openOn wk29_17 rfl ha1 rfl (by decide) (Nat.le_of_ble_eq_true rfl) (c_X6_openOn ha1 hq1) ?_
  obtain ⟨S2, hS2, h⟩ := stpp h
  refine mG.putI dX3_lookAt_11 mfX3_24 rfl (Or.inl rfl) ht hS2 ?_
  refine mG.aload_n 1 dX3_lookAt_14 rfl ?_
  refine mG.get (v := .ref (t + 1)) dX3_lookAt_15 mfX3_9 ht (lr3_names ht) ?_
  refine mG.iconst (v := 0) dX3_lookAt_18 rfl ?_
  refine mG.iload_n 3 dX3_lookAt_19 rfl ?_
  obtain ⟨b3, h⟩ := ckp h
  obtain ⟨S4, hS4, h⟩ := stpp h
  refine mG.iast dX3_lookAt_20 (lk3_names ht) (ll3_names ht) (inbp b3) hS4 ?_
  refine mG.aload_n 1 dX3_lookAt_21 rfl ?_
  refine mG.get (v := .ref (t + 1)) dX3_lookAt_22 mfX3_9 ht (lr3_names ht) ?_
  refine mG.iconst (v := 1) dX3_lookAt_25 rfl ?_
  refine mG.iload_n 0 dX3_lookAt_26 rfl ?_
  obtain ⟨b5, h⟩ := ckp h
  obtain ⟨S6, hS6, h⟩ := stpp h
  refine mG.iast dX3_lookAt_27 (lk3_names ht) (ll3_names ht) (inbp b5) hS6 ?_
  refine mG.aload_n 1 dX3_lookAt_28 rfl ?_
  refine mG.get (v := .ref (t + 1)) dX3_lookAt_29 mfX3_9 ht (lr3_names ht) ?_
  refine mG.bipush (v := 6) dX3_lookAt_32 (by decide) ?_
  refine mG.aload_n 1 dX3_lookAt_34 rfl ?_
  refine mG.get (v := .int (S6.1 t 2)) dX3_lookAt_35 mfX3_24 ht rfl ?_
  refine mG.callS0 (as := [.int (S6.1 t 2)]) (st := [.int 6, .ref (t + 1)]) (S2 := S6) (r := some (.int (f_J6_bitCount_0f7a4 S6 (S6.1 t 2)))) dX3_lookAt_38 mbJ6_bitCount_0f7a4 wk30_6 wk30_5 rfl rfl (by decide) (Nat.le_of_ble_eq_true rfl) (c_J6_bitCount_0f7a4  rfl) ?_
  obtain ⟨b7, h⟩ := ckp h
  obtain ⟨S8, hS8, h⟩ := stpp h
  refine mG.iast dX3_lookAt_41 (lk3_names ht) (ll3_names ht) (inbp b7) hS8 ?_
  obtain rfl := Option.some.inj h
  exact mG.vret dX3_lookAt_42 rfl ⟨rfl, rfl, rfl⟩
theorem dX3_isOpen_0 : decode cX3_isOpen 0 = .ok (.aload_n 0, 1) := by decide +kernel
theorem dX3_isOpen_1 : decode cX3_isOpen 1 = .ok (.getfield 24, 3) := by decide +kernel
theorem dX3_isOpen_4 : decode cX3_isOpen 4 = .ok (.iload_n 1, 1) := by decide +kernel
theorem dX3_isOpen_5 : decode cX3_isOpen 5 = .ok (.ishr, 1) := by decide +kernel
theorem dX3_isOpen_6 : decode cX3_isOpen 6 = .ok (.iconst 1, 1) := by decide +kernel
theorem dX3_isOpen_7 : decode cX3_isOpen 7 = .ok (.iand, 1) := by decide +kernel
theorem dX3_isOpen_8 : decode cX3_isOpen 8 = .ok (.iconst 1, 1) := by decide +kernel
theorem dX3_isOpen_9 : decode cX3_isOpen 9 = .ok (.if_icmp .ne 7, 3) := by decide +kernel
theorem dX3_isOpen_12 : decode cX3_isOpen 12 = .ok (.iconst 1, 1) := by decide +kernel
theorem dX3_isOpen_13 : decode cX3_isOpen 13 = .ok (.goto 4, 3) := by decide +kernel
theorem dX3_isOpen_16 : decode cX3_isOpen 16 = .ok (.iconst 0, 1) := by decide +kernel
theorem dX3_isOpen_17 : decode cX3_isOpen 17 = .ok (.ireturn, 1) := by decide +kernel
def f_X3_isOpen (S0 : mS) (t : Nat) (a1 : Int32) : Bool := if (((S0.1 t 2) >>> (a1 &&& 31)) &&& (1 : Int32)) = (1 : Int32) then (true) else (false)
set_option maxHeartbeats 4000000 in
set_option maxRecDepth 100000 in
theorem c_X3_isOpen {S0 : mS} {t : Nat} {a1 : Int32} {R : Bool} (ht : kd0 t = 3) (h : f_X3_isOpen S0 t a1 = R) : mCt μX3_isOpen 1 0 0 E0 S0 [.ref (t), .int (a1)] (mQe S0 (some (.int (bI R)))) := by
  unfold f_X3_isOpen at h
  refine mCt.of (by decide) (Nat.le_of_ble_eq_true rfl) ?_
  intro x
  refine mG.aload_n 0 dX3_isOpen_0 rfl ?_
  refine mG.get (v := .int (S0.1 t 2)) dX3_isOpen_1 mfX3_24 ht rfl ?_
  refine mG.iload_n 1 dX3_isOpen_4 rfl ?_
  refine mG.ishr dX3_isOpen_5 ?_
  refine mG.iconst (v := 1) dX3_isOpen_6 rfl ?_
  refine mG.iand dX3_isOpen_7 ?_
  refine mG.iconst (v := 1) dX3_isOpen_8 rfl ?_
  refine mG.icmp_ne 16 dX3_isOpen_9 (by decide) (fun c1 => ?_) (fun c1 => ?_)
  · replace h := itn c1 h
    refine mG.iconst (v := 0) dX3_isOpen_16 rfl ?_
    subst h
    exact mG.zret (b := false) dX3_isOpen_17 rfl rfl ⟨rfl, rfl, rfl⟩
  · replace h := itp c1 h
    refine mG.iconst (v := 1) dX3_isOpen_12 rfl ?_
    refine mG.goto 17 dX3_isOpen_13 (by decide) ?_
    subst h
    exact mG.zret (b := true) dX3_isOpen_17 rfl rfl ⟨rfl, rfl, rfl⟩
theorem dX3_openBeside_0 : decode cX3_openBeside 0 = .ok (.iload_n 1, 1) := by decide +kernel
theorem dX3_openBeside_1 : decode cX3_openBeside 1 = .ok (.ifCond .le 17, 3) := by decide +kernel
theorem dX3_openBeside_4 : decode cX3_openBeside 4 = .ok (.aload_n 0, 1) := by decide +kernel
theorem dX3_openBeside_5 : decode cX3_openBeside 5 = .ok (.iload_n 1, 1) := by decide +kernel
theorem dX3_openBeside_6 : decode cX3_openBeside 6 = .ok (.iconst 1, 1) := by decide +kernel
theorem dX3_openBeside_7 : decode cX3_openBeside 7 = .ok (.isub, 1) := by decide +kernel
theorem dX3_openBeside_8 : decode cX3_openBeside 8 = .ok (.invokevirtual 33, 3) := by decide +kernel
theorem dX3_openBeside_11 : decode cX3_openBeside 11 = .ok (.ifCond .eq 7, 3) := by decide +kernel
theorem dX3_openBeside_14 : decode cX3_openBeside 14 = .ok (.iconst 1, 1) := by decide +kernel
theorem dX3_openBeside_15 : decode cX3_openBeside 15 = .ok (.goto 4, 3) := by decide +kernel
theorem dX3_openBeside_18 : decode cX3_openBeside 18 = .ok (.iconst 0, 1) := by decide +kernel
theorem dX3_openBeside_19 : decode cX3_openBeside 19 = .ok (.aload_n 0, 1) := by decide +kernel
theorem dX3_openBeside_20 : decode cX3_openBeside 20 = .ok (.iload_n 1, 1) := by decide +kernel
theorem dX3_openBeside_21 : decode cX3_openBeside 21 = .ok (.iconst 1, 1) := by decide +kernel
theorem dX3_openBeside_22 : decode cX3_openBeside 22 = .ok (.iadd, 1) := by decide +kernel
theorem dX3_openBeside_23 : decode cX3_openBeside 23 = .ok (.invokevirtual 33, 3) := by decide +kernel
theorem dX3_openBeside_26 : decode cX3_openBeside 26 = .ok (.ifCond .eq 7, 3) := by decide +kernel
theorem dX3_openBeside_29 : decode cX3_openBeside 29 = .ok (.iconst 1, 1) := by decide +kernel
theorem dX3_openBeside_30 : decode cX3_openBeside 30 = .ok (.goto 4, 3) := by decide +kernel
theorem dX3_openBeside_33 : decode cX3_openBeside 33 = .ok (.iconst 0, 1) := by decide +kernel
theorem dX3_openBeside_34 : decode cX3_openBeside 34 = .ok (.iadd, 1) := by decide +kernel
theorem dX3_openBeside_35 : decode cX3_openBeside 35 = .ok (.ireturn, 1) := by decide +kernel
def f_X3_openBeside (S0 : mS) (t : Nat) (a1 : Int32) : Int32 := if a1 ≤ 0 then (if (f_X3_isOpen S0 t (a1 + (1 : Int32))) = true then ((0 : Int32) + (1 : Int32)) else ((0 : Int32) + (0 : Int32))) else (if (f_X3_isOpen S0 t (a1 - (1 : Int32))) = true then (if (f_X3_isOpen S0 t (a1 + (1 : Int32))) = true then ((1 : Int32) + (1 : Int32)) else ((1 : Int32) + (0 : Int32))) else (if (f_X3_isOpen S0 t (a1 + (1 : Int32))) = true then ((0 : Int32) + (1 : Int32)) else ((0 : Int32) + (0 : Int32))))
set_option maxHeartbeats 4000000 in
set_option maxRecDepth 100000 in
theorem c_X3_openBeside {S0 : mS} {t : Nat} {a1 : Int32} {R : Int32} (ht : kd0 t = 3) (h : f_X3_openBeside S0 t a1 = R) : mCt μX3_openBeside 2 0 0 E0 S0 [.ref (t), .int (a1)] (mQe S0 (some (.int R))) := by
  unfold f_X3_openBeside at h
  refine mCt.of (by decide) (Nat.le_of_ble_eq_true rfl) ?_
  intro x
  refine mG.iload_n 1 dX3_openBeside_0 rfl ?_
  refine mG.if_le 18 dX3_openBeside_1 (by decide) (fun c5 => ?_) (fun c5 => ?_)
  · replace h := itp c5 h
    refine mG.iconst (v := 0) dX3_openBeside_18 rfl ?_
    refine mG.aload_n 0 dX3_openBeside_19 rfl ?_
    refine mG.iload_n 1 dX3_openBeside_20 rfl ?_
    refine mG.iconst (v := 1) dX3_openBeside_21 rfl ?_
    refine mG.iadd dX3_openBeside_22 ?_
    refine mG.callV0 (as := [.int (a1 + (1 : Int32))]) (st := [.int 0]) (S2 := S0) (r := some (.int (bI (f_X3_isOpen S0 t (a1 + (1 : Int32)))))) dX3_openBeside_23 mvX3_isOpen wk31_13 rfl ht rfl (by decide) (Nat.le_of_ble_eq_true rfl) (c_X3_isOpen ht rfl) ?_
    refine mG.ifz_eq (b := f_X3_isOpen S0 t (a1 + (1 : Int32))) 33 dX3_openBeside_26 (by decide) (fun c1 => ?_) (fun c1 => ?_)
    · replace h := itn c1 h
      refine mG.iconst (v := 0) dX3_openBeside_33 rfl ?_
      refine mG.iadd dX3_openBeside_34 ?_
      subst h
      exact mG.iret dX3_openBeside_35 rfl ⟨rfl, rfl, rfl⟩
    · replace h := itp c1 h
      refine mG.iconst (v := 1) dX3_openBeside_29 rfl ?_
      refine mG.goto 34 dX3_openBeside_30 (by decide) ?_
      refine mG.iadd dX3_openBeside_34 ?_
      subst h
      exact mG.iret dX3_openBeside_35 rfl ⟨rfl, rfl, rfl⟩
  · replace h := itn c5 h
    refine mG.aload_n 0 dX3_openBeside_4 rfl ?_
    refine mG.iload_n 1 dX3_openBeside_5 rfl ?_
    refine mG.iconst (v := 1) dX3_openBeside_6 rfl ?_
    refine mG.isub dX3_openBeside_7 ?_
    refine mG.callV0 (as := [.int (a1 - (1 : Int32))]) (st := []) (S2 := S0) (r := some (.int (bI (f_X3_isOpen S0 t (a1 - (1 : Int32)))))) dX3_openBeside_8 mvX3_isOpen wk31_13 rfl ht rfl (by decide) (Nat.le_of_ble_eq_true rfl) (c_X3_isOpen ht rfl) ?_
    refine mG.ifz_eq (b := f_X3_isOpen S0 t (a1 - (1 : Int32))) 18 dX3_openBeside_11 (by decide) (fun c4 => ?_) (fun c4 => ?_)
    · replace h := itn c4 h
      refine mG.iconst (v := 0) dX3_openBeside_18 rfl ?_
      refine mG.aload_n 0 dX3_openBeside_19 rfl ?_
      refine mG.iload_n 1 dX3_openBeside_20 rfl ?_
      refine mG.iconst (v := 1) dX3_openBeside_21 rfl ?_
      refine mG.iadd dX3_openBeside_22 ?_
      refine mG.callV0 (as := [.int (a1 + (1 : Int32))]) (st := [.int 0]) (S2 := S0) (r := some (.int (bI (f_X3_isOpen S0 t (a1 + (1 : Int32)))))) dX3_openBeside_23 mvX3_isOpen wk31_13 rfl ht rfl (by decide) (Nat.le_of_ble_eq_true rfl) (c_X3_isOpen ht rfl) ?_
      refine mG.ifz_eq (b := f_X3_isOpen S0 t (a1 + (1 : Int32))) 33 dX3_openBeside_26 (by decide) (fun c2 => ?_) (fun c2 => ?_)
      · replace h := itn c2 h
        refine mG.iconst (v := 0) dX3_openBeside_33 rfl ?_
        refine mG.iadd dX3_openBeside_34 ?_
        subst h
        exact mG.iret dX3_openBeside_35 rfl ⟨rfl, rfl, rfl⟩
      · replace h := itp c2 h
        refine mG.iconst (v := 1) dX3_openBeside_29 rfl ?_
        refine mG.goto 34 dX3_openBeside_30 (by decide) ?_
        refine mG.iadd dX3_openBeside_34 ?_
        subst h
        exact mG.iret dX3_openBeside_35 rfl ⟨rfl, rfl, rfl⟩
    · replace h := itp c4 h
      refine mG.iconst (v := 1) dX3_openBeside_14 rfl ?_
      refine mG.goto 19 dX3_openBeside_15 (by decide) ?_
      refine mG.aload_n 0 dX3_openBeside_19 rfl ?_
      refine mG.iload_n 1 dX3_openBeside_20 rfl ?_
      refine mG.iconst (v := 1) dX3_openBeside_21 rfl ?_
      refine mG.iadd dX3_openBeside_22 ?_
      refine mG.callV0 (as := [.int (a1 + (1 : Int32))]) (st := [.int 1]) (S2 := S0) (r := some (.int (bI (f_X3_isOpen S0 t (a1 + (1 : Int32)))))) dX3_openBeside_23 mvX3_isOpen wk31_13 rfl ht rfl (by decide) (Nat.le_of_ble_eq_true rfl) (c_X3_isOpen ht rfl) ?_
      refine mG.ifz_eq (b := f_X3_isOpen S0 t (a1 + (1 : Int32))) 33 dX3_openBeside_26 (by decide) (fun c3 => ?_) (fun c3 => ?_)
      · replace h := itn c3 h
        refine mG.iconst (v := 0) dX3_openBeside_33 rfl ?_
        refine mG.iadd dX3_openBeside_34 ?_
        subst h
        exact mG.iret dX3_openBeside_35 rfl ⟨rfl, rfl, rfl⟩
      · replace h := itp c3 h
        refine mG.iconst (v := 1) dX3_openBeside_29 rfl ?_
        refine mG.goto 34 dX3_openBeside_30 (by decide) ?_
        refine mG.iadd dX3_openBeside_34 ?_
        subst h
        exact mG.iret dX3_openBeside_35 rfl ⟨rfl, rfl, rfl⟩
theorem dX5_has_0 : decode cX5_has 0 = .ok (.aload_n 0, 1) := by decide +kernel
theorem dX5_has_1 : decode cX5_has 1 = .ok (.getfield 18, 3) := by decide +kernel
theorem dX5_has_4 : decode cX5_has 4 = .ok (.iload_n 1, 1) := by decide +kernel
theorem dX5_has_5 : decode cX5_has 5 = .ok (.bipush 24, 2) := by decide +kernel
theorem dX5_has_7 : decode cX5_has 7 = .ok (.isub, 1) := by decide +kernel
theorem dX5_has_8 : decode cX5_has 8 = .ok (.iaload, 1) := by decide +kernel
theorem dX5_has_9 : decode cX5_has 9 = .ok (.aload_n 0, 1) := by decide +kernel
theorem dX5_has_10 : decode cX5_has 10 = .ok (.getfield 15, 3) := by decide +kernel
theorem dX5_has_13 : decode cX5_has 13 = .ok (.iload_n 1, 1) := by decide +kernel
theorem dX5_has_14 : decode cX5_has 14 = .ok (.bipush 24, 2) := by decide +kernel
theorem dX5_has_16 : decode cX5_has 16 = .ok (.isub, 1) := by decide +kernel
theorem dX5_has_17 : decode cX5_has 17 = .ok (.iaload, 1) := by decide +kernel
theorem dX5_has_18 : decode cX5_has 18 = .ok (.if_icmp .le 7, 3) := by decide +kernel
theorem dX5_has_21 : decode cX5_has 21 = .ok (.iconst 1, 1) := by decide +kernel
theorem dX5_has_22 : decode cX5_has 22 = .ok (.goto 4, 3) := by decide +kernel
theorem dX5_has_25 : decode cX5_has 25 = .ok (.iconst 0, 1) := by decide +kernel
theorem dX5_has_26 : decode cX5_has 26 = .ok (.ireturn, 1) := by decide +kernel
def f_X5_has (F : Nat) (S0 : mS) (t : Nat) (a1 : Int32) : Option Bool := ck (inb (a1 - (24 : Int32)) 3) (ck (inb (a1 - (24 : Int32)) 3) (if (S0.1 (t + 3) (a1 - (24 : Int32)).toNatClampNeg) ≤ (S0.1 (t + 2) (a1 - (24 : Int32)).toNatClampNeg) then (some false) else (some true)))
set_option maxHeartbeats 4000000 in
set_option maxRecDepth 100000 in
theorem c_X5_has {F : Nat} {S0 : mS} {t : Nat} {a1 : Int32} {R : Bool} (ht : kd0 t = 5) (h : f_X5_has F S0 t a1 = some R) : mCt μX5_has 1 0 0 E0 S0 [.ref (t), .int (a1)] (mQe S0 (some (.int (bI R)))) := by
  unfold f_X5_has at h
  refine mCt.of (by decide) (Nat.le_of_ble_eq_true rfl) ?_
  intro x
  refine mG.aload_n 0 dX5_has_0 rfl ?_
  refine mG.get (v := .ref (t + 3)) dX5_has_1 mfX5_18 ht (lr5_lawTo ht) ?_
  refine mG.iload_n 1 dX5_has_4 rfl ?_
  refine mG.bipush (v := 24) dX5_has_5 (by decide) ?_
  refine mG.isub dX5_has_7 ?_
  obtain ⟨b1, h⟩ := ckp h
  refine mG.iald dX5_has_8 (lk5_lawTo ht) (ll5_lawTo ht) (inbp b1) ?_
  refine mG.aload_n 0 dX5_has_9 rfl ?_
  refine mG.get (v := .ref (t + 2)) dX5_has_10 mfX5_15 ht (lr5_lawFrom ht) ?_
  refine mG.iload_n 1 dX5_has_13 rfl ?_
  refine mG.bipush (v := 24) dX5_has_14 (by decide) ?_
  refine mG.isub dX5_has_16 ?_
  obtain ⟨b2, h⟩ := ckp h
  refine mG.iald dX5_has_17 (lk5_lawFrom ht) (ll5_lawFrom ht) (inbp b2) ?_
  refine mG.icmp_le 25 dX5_has_18 (by decide) (fun c3 => ?_) (fun c3 => ?_)
  · replace h := itp c3 h
    refine mG.iconst (v := 0) dX5_has_25 rfl ?_
    obtain rfl := Option.some.inj h
    exact mG.zret (b := false) dX5_has_26 rfl rfl ⟨rfl, rfl, rfl⟩
  · replace h := itn c3 h
    refine mG.iconst (v := 1) dX5_has_21 rfl ?_
    refine mG.goto 26 dX5_has_22 (by decide) ?_
    obtain rfl := Option.some.inj h
    exact mG.zret (b := true) dX5_has_26 rfl rfl ⟨rfl, rfl, rfl⟩
theorem dX6_told_0 : decode cX6_told 0 = .ok (.iload_n 1, 1) := by decide +kernel
theorem dX6_told_1 : decode cX6_told 1 = .ok (.ifCond .lt 21, 3) := by decide +kernel
theorem dX6_told_4 : decode cX6_told 4 = .ok (.iload_n 1, 1) := by decide +kernel
theorem dX6_told_5 : decode cX6_told 5 = .ok (.aload_n 0, 1) := by decide +kernel
theorem dX6_told_6 : decode cX6_told 6 = .ok (.getfield 32, 3) := by decide +kernel
theorem dX6_told_9 : decode cX6_told 9 = .ok (.if_icmp .ge 13, 3) := by decide +kernel
theorem dX6_told_12 : decode cX6_told 12 = .ok (.iload_n 1, 1) := by decide +kernel
theorem dX6_told_13 : decode cX6_told 13 = .ok (.bipush 7, 2) := by decide +kernel
theorem dX6_told_15 : decode cX6_told 15 = .ok (.if_icmp .ge 7, 3) := by decide +kernel
theorem dX6_told_18 : decode cX6_told 18 = .ok (.iconst 1, 1) := by decide +kernel
theorem dX6_told_19 : decode cX6_told 19 = .ok (.goto 4, 3) := by decide +kernel
theorem dX6_told_22 : decode cX6_told 22 = .ok (.iconst 0, 1) := by decide +kernel
theorem dX6_told_23 : decode cX6_told 23 = .ok (.ireturn, 1) := by decide +kernel
def f_X6_told (S0 : mS) (t : Nat) (a1 : Int32) : Bool := if a1 < 0 then (false) else (if (S0.1 t 5) ≤ a1 then (false) else (if (7 : Int32) ≤ a1 then (false) else (true)))
set_option maxHeartbeats 4000000 in
set_option maxRecDepth 100000 in
theorem c_X6_told {S0 : mS} {t : Nat} {a1 : Int32} {R : Bool} (ht : kd0 t = 6) (h : f_X6_told S0 t a1 = R) : mCt μX6_told 1 0 0 E0 S0 [.ref (t), .int (a1)] (mQe S0 (some (.int (bI R)))) := by
  unfold f_X6_told at h
  refine mCt.of (by decide) (Nat.le_of_ble_eq_true rfl) ?_
  intro x
  refine mG.iload_n 1 dX6_told_0 rfl ?_
  refine mG.if_lt 22 dX6_told_1 (by decide) (fun c3 => ?_) (fun c3 => ?_)
  · replace h := itp c3 h
    refine mG.iconst (v := 0) dX6_told_22 rfl ?_
    subst h
    exact mG.zret (b := false) dX6_told_23 rfl rfl ⟨rfl, rfl, rfl⟩
  · replace h := itn c3 h
    refine mG.iload_n 1 dX6_told_4 rfl ?_
    refine mG.aload_n 0 dX6_told_5 rfl ?_
    refine mG.get (v := .int (S0.1 t 5)) dX6_told_6 mfX6_32 ht rfl ?_
    refine mG.icmp_ge 22 dX6_told_9 (by decide) (fun c2 => ?_) (fun c2 => ?_)
    · replace h := itp c2 h
      refine mG.iconst (v := 0) dX6_told_22 rfl ?_
      subst h
      exact mG.zret (b := false) dX6_told_23 rfl rfl ⟨rfl, rfl, rfl⟩
    · replace h := itn c2 h
      refine mG.iload_n 1 dX6_told_12 rfl ?_
      refine mG.bipush (v := 7) dX6_told_13 (by decide) ?_
      refine mG.icmp_ge 22 dX6_told_15 (by decide) (fun c1 => ?_) (fun c1 => ?_)
      · replace h := itp c1 h
        refine mG.iconst (v := 0) dX6_told_22 rfl ?_
        subst h
        exact mG.zret (b := false) dX6_told_23 rfl rfl ⟨rfl, rfl, rfl⟩
      · replace h := itn c1 h
        refine mG.iconst (v := 1) dX6_told_18 rfl ?_
        refine mG.goto 23 dX6_told_19 (by decide) ?_
        subst h
        exact mG.zret (b := true) dX6_told_23 rfl rfl ⟨rfl, rfl, rfl⟩
theorem dX8_isWithin_0 : decode cX8_isWithin 0 = .ok (.iload_n 0, 1) := by decide +kernel
theorem dX8_isWithin_1 : decode cX8_isWithin 1 = .ok (.iload_n 1, 1) := by decide +kernel
theorem dX8_isWithin_2 : decode cX8_isWithin 2 = .ok (.if_icmp .lt 12, 3) := by decide +kernel
theorem dX8_isWithin_5 : decode cX8_isWithin 5 = .ok (.iload_n 0, 1) := by decide +kernel
theorem dX8_isWithin_6 : decode cX8_isWithin 6 = .ok (.iload_n 2, 1) := by decide +kernel
theorem dX8_isWithin_7 : decode cX8_isWithin 7 = .ok (.if_icmp .gt 7, 3) := by decide +kernel
theorem dX8_isWithin_10 : decode cX8_isWithin 10 = .ok (.iconst 1, 1) := by decide +kernel
theorem dX8_isWithin_11 : decode cX8_isWithin 11 = .ok (.goto 4, 3) := by decide +kernel
theorem dX8_isWithin_14 : decode cX8_isWithin 14 = .ok (.iconst 0, 1) := by decide +kernel
theorem dX8_isWithin_15 : decode cX8_isWithin 15 = .ok (.ireturn, 1) := by decide +kernel
def f_X8_isWithin (S0 : mS) (a1 : Int32) (a2 : Int32) (a3 : Int32) : Bool := if a1 < a2 then (false) else (if a3 < a1 then (false) else (true))
set_option maxHeartbeats 4000000 in
set_option maxRecDepth 100000 in
theorem c_X8_isWithin {S0 : mS} {a1 : Int32} {a2 : Int32} {a3 : Int32} {R : Bool}  (h : f_X8_isWithin S0 a1 a2 a3 = R) : mCt μX8_isWithin 1 0 0 E0 S0 [.int (a1), .int (a2), .int (a3)] (mQe S0 (some (.int (bI R)))) := by
  unfold f_X8_isWithin at h
  refine mCt.of (by decide) (Nat.le_of_ble_eq_true rfl) ?_
  intro x
  refine mG.iload_n 0 dX8_isWithin_0 rfl ?_
  refine mG.iload_n 1 dX8_isWithin_1 rfl ?_
  refine mG.icmp_lt 14 dX8_isWithin_2 (by decide) (fun c2 => ?_) (fun c2 => ?_)
  · replace h := itp c2 h
    refine mG.iconst (v := 0) dX8_isWithin_14 rfl ?_
    subst h
    exact mG.zret (b := false) dX8_isWithin_15 rfl rfl ⟨rfl, rfl, rfl⟩
  · replace h := itn c2 h
    refine mG.iload_n 0 dX8_isWithin_5 rfl ?_
    refine mG.iload_n 2 dX8_isWithin_6 rfl ?_
    refine mG.icmp_gt 14 dX8_isWithin_7 (by decide) (fun c1 => ?_) (fun c1 => ?_)
    · replace h := itp c1 h
      refine mG.iconst (v := 0) dX8_isWithin_14 rfl ?_
      subst h
      exact mG.zret (b := false) dX8_isWithin_15 rfl rfl ⟨rfl, rfl, rfl⟩
    · replace h := itn c1 h
      refine mG.iconst (v := 1) dX8_isWithin_10 rfl ?_
      refine mG.goto 15 dX8_isWithin_11 (by decide) ?_
      subst h
      exact mG.zret (b := true) dX8_isWithin_15 rfl rfl ⟨rfl, rfl, rfl⟩
theorem dX3_limited_0 : decode cX3_limited 0 = .ok (.ldc2_w 117, 3) := by decide +kernel
theorem dX3_limited_3 : decode cX3_limited 3 = .ok (.ldc2_w 119, 3) := by decide +kernel
theorem dX3_limited_6 : decode cX3_limited 6 = .ok (.lload_n 0, 1) := by decide +kernel
theorem dX3_limited_7 : decode cX3_limited 7 = .ok (.invokestatic 121, 3) := by decide +kernel
theorem dX3_limited_10 : decode cX3_limited 10 = .ok (.invokestatic 124, 3) := by decide +kernel
theorem dX3_limited_13 : decode cX3_limited 13 = .ok (.l2i, 1) := by decide +kernel
theorem dX3_limited_14 : decode cX3_limited 14 = .ok (.ireturn, 1) := by decide +kernel
def f_X3_limited (S0 : mS) (a1 : Int64) : Int32 := Int64.toInt32 (lmax (-1000000 : Int64) (lmin (1000000 : Int64) a1))
set_option maxHeartbeats 4000000 in
set_option maxRecDepth 100000 in
theorem c_X3_limited {S0 : mS} {a1 : Int64} {R : Int32}  (h : f_X3_limited S0 a1 = R) : mCt μX3_limited 1 0 0 E0 S0 [.long (a1)] (mQe S0 (some (.int R))) := by
  unfold f_X3_limited at h
  refine mCt.of (by decide) (Nat.le_of_ble_eq_true rfl) ?_
  intro x
  refine mG.ldc2 (v := (-1000000)) dX3_limited_0 wk31_23 ?_
  refine mG.ldc2 (v := 1000000) dX3_limited_3 wk32_0 ?_
  refine mG.lload_n 0 dX3_limited_6 rfl ?_
  refine mG.mlmin dX3_limited_7 wk32_1 (by decide) (Nat.le_of_ble_eq_true rfl) (Nat.le_refl _) (Nat.le_refl _) ?_
  refine mG.mlmax dX3_limited_10 wk32_4 (by decide) (Nat.le_of_ble_eq_true rfl) (Nat.le_refl _) (Nat.le_refl _) ?_
  refine mG.l2i dX3_limited_13 ?_
  subst h
  exact mG.iret dX3_limited_14 rfl ⟨rfl, rfl, rfl⟩
theorem dX3_digitAt_0 : decode cX3_digitAt 0 = .ok (.iload_n 0, 1) := by decide +kernel
theorem dX3_digitAt_1 : decode cX3_digitAt 1 = .ok (.ifCond .lt 9, 3) := by decide +kernel
theorem dX3_digitAt_4 : decode cX3_digitAt 4 = .ok (.iload_n 0, 1) := by decide +kernel
theorem dX3_digitAt_5 : decode cX3_digitAt 5 = .ok (.bipush 9, 2) := by decide +kernel
theorem dX3_digitAt_7 : decode cX3_digitAt 7 = .ok (.if_icmp .le 5, 3) := by decide +kernel
theorem dX3_digitAt_10 : decode cX3_digitAt 10 = .ok (.iconst 0, 1) := by decide +kernel
theorem dX3_digitAt_11 : decode cX3_digitAt 11 = .ok (.ireturn, 1) := by decide +kernel
theorem dX3_digitAt_12 : decode cX3_digitAt 12 = .ok (.iload_n 1, 1) := by decide +kernel
theorem dX3_digitAt_13 : decode cX3_digitAt 13 = .ok (.invokestatic 126, 3) := by decide +kernel
theorem dX3_digitAt_16 : decode cX3_digitAt 16 = .ok (.istore_n 2, 1) := by decide +kernel
theorem dX3_digitAt_17 : decode cX3_digitAt 17 = .ok (.iconst 0, 1) := by decide +kernel
theorem dX3_digitAt_18 : decode cX3_digitAt 18 = .ok (.istore_n 3, 1) := by decide +kernel
theorem dX3_digitAt_19 : decode cX3_digitAt 19 = .ok (.iload_n 3, 1) := by decide +kernel
theorem dX3_digitAt_20 : decode cX3_digitAt 20 = .ok (.iload_n 0, 1) := by decide +kernel
theorem dX3_digitAt_21 : decode cX3_digitAt 21 = .ok (.if_icmp .ge 14, 3) := by decide +kernel
theorem dX3_digitAt_24 : decode cX3_digitAt 24 = .ok (.iload_n 2, 1) := by decide +kernel
theorem dX3_digitAt_25 : decode cX3_digitAt 25 = .ok (.bipush 10, 2) := by decide +kernel
theorem dX3_digitAt_27 : decode cX3_digitAt 27 = .ok (.idiv, 1) := by decide +kernel
theorem dX3_digitAt_28 : decode cX3_digitAt 28 = .ok (.istore_n 2, 1) := by decide +kernel
theorem dX3_digitAt_29 : decode cX3_digitAt 29 = .ok (.iinc 3 1, 3) := by decide +kernel
theorem dX3_digitAt_32 : decode cX3_digitAt 32 = .ok (.goto (-13), 3) := by decide +kernel
theorem dX3_digitAt_35 : decode cX3_digitAt 35 = .ok (.iload_n 2, 1) := by decide +kernel
theorem dX3_digitAt_36 : decode cX3_digitAt 36 = .ok (.bipush 10, 2) := by decide +kernel
theorem dX3_digitAt_38 : decode cX3_digitAt 38 = .ok (.irem, 1) := by decide +kernel
theorem dX3_digitAt_39 : decode cX3_digitAt 39 = .ok (.ireturn, 1) := by decide +kernel
def lX3_digitAt_19 (F : Nat)  (a1 : Int32) (a2 : Int32) : Nat → mS → Int32 → Int32 → Option Int32
  | 0, _, _, _ => none
  | n + 1, S0, v2, v3 => if a1 ≤ v3 then (some (v2 - v2 / (10 : Int32) * (10 : Int32))) else (lX3_digitAt_19 F  a1 a2 n S0 (v2 / (10 : Int32)) (v3 + 1))
set_option maxHeartbeats 4000000 in
set_option maxRecDepth 100000 in
theorem gX3_digitAt_19 {x : mX} {F : Nat} {a1 : Int32} {a2 : Int32} {S0 : mS}   {R : Int32}   : ∀ (n : Nat) (v2 : Int32) (v3 : Int32), lX3_digitAt_19 F  a1 a2 n S0 v2 v3 = some R → mG x μX3_digitAt 1 0 0 (mQe S0 (some (.int R))) 0 0 E0 S0 19 [(0, .int (a1)), (2, .int (v2)), (3, .int (v3))] [] := by
  intro n
  induction n with
  | zero =>
    intro v2 v3 h
    cases h
  | succ n ih =>
    intro v2 v3 h
    unfold lX3_digitAt_19 at h
    refine mG.iload_n 2 dX3_digitAt_19 rfl ?_
    refine mG.iload_n 0 dX3_digitAt_20 rfl ?_
    refine mG.icmp_ge 35 dX3_digitAt_21 (by decide) (fun c1 => ?_) (fun c1 => ?_)
    · replace h := itp c1 h
      refine mG.iload_n 1 dX3_digitAt_35 rfl ?_
      refine mG.bipush (v := 10) dX3_digitAt_36 (by decide) ?_
      refine mG.irem dX3_digitAt_38 (by decide) ?_
      obtain rfl := Option.some.inj h
      exact mG.iret dX3_digitAt_39 rfl ⟨rfl, rfl, rfl⟩
    · replace h := itn c1 h
      refine mG.iload_n 1 dX3_digitAt_24 rfl ?_
      refine mG.bipush (v := 10) dX3_digitAt_25 (by decide) ?_
      refine mG.idiv dX3_digitAt_27 (by decide) ?_
      refine mG.istore_n (lv2 := [(2, .int (v2 / (10 : Int32))), (0, .int (a1)), (3, .int (v3))]) dX3_digitAt_28 rfl (by decide) rfl ?_
      refine mG.iinc 2 (u := v3 + 1) (lv2 := [(3, .int (v3 + 1)), (2, .int (v2 / (10 : Int32))), (0, .int (a1))]) dX3_digitAt_29 rfl rfl (by decide) rfl ?_
      refine mG.goto 19 dX3_digitAt_32 (by decide) ?_
      refine mG.sub (lv2 := [(0, .int (a1)), (2, .int (v2 / (10 : Int32))), (3, .int (v3 + 1))]) [2, 1, 0] rfl ?_
      exact ih  (v2 / (10 : Int32)) (v3 + 1)  h
def f_X3_digitAt (F : Nat) (S0 : mS) (a1 : Int32) (a2 : Int32) : Option Int32 := if a1 < 0 then (some (0 : Int32)) else (if a1 ≤ (9 : Int32) then (lX3_digitAt_19 F  a1 a2 F S0 (iabs a2) (0 : Int32)) else (some (0 : Int32)))
set_option maxHeartbeats 4000000 in
set_option maxRecDepth 100000 in
theorem c_X3_digitAt {F : Nat} {S0 : mS} {a1 : Int32} {a2 : Int32} {R : Int32}  (h : f_X3_digitAt F S0 a1 a2 = some R) : mCt μX3_digitAt 1 0 0 E0 S0 [.int (a1), .int (a2)] (mQe S0 (some (.int R))) := by
  unfold f_X3_digitAt at h
  refine mCt.of (by decide) (Nat.le_of_ble_eq_true rfl) ?_
  intro x
  refine mG.iload_n 0 dX3_digitAt_0 rfl ?_
  refine mG.if_lt 10 dX3_digitAt_1 (by decide) (fun c2 => ?_) (fun c2 => ?_)
  · replace h := itp c2 h
    refine mG.iconst (v := 0) dX3_digitAt_10 rfl ?_
    obtain rfl := Option.some.inj h
    exact mG.iret dX3_digitAt_11 rfl ⟨rfl, rfl, rfl⟩
  · replace h := itn c2 h
    refine mG.iload_n 0 dX3_digitAt_4 rfl ?_
    refine mG.bipush (v := 9) dX3_digitAt_5 (by decide) ?_
    refine mG.icmp_le 12 dX3_digitAt_7 (by decide) (fun c1 => ?_) (fun c1 => ?_)
    · replace h := itp c1 h
      refine mG.iload_n 1 dX3_digitAt_12 rfl ?_
      refine mG.mabs dX3_digitAt_13 wk32_10 (by decide) (Nat.le_of_ble_eq_true rfl) (Nat.le_refl _) (Nat.le_refl _) ?_
      refine mG.istore_n (lv2 := [(2, .int (iabs a2)), (0, .int (a1)), (1, .int (a2))]) dX3_digitAt_16 rfl (by decide) rfl ?_
      refine mG.iconst (v := 0) dX3_digitAt_17 rfl ?_
      refine mG.istore_n (lv2 := [(3, .int 0), (2, .int (iabs a2)), (0, .int (a1)), (1, .int (a2))]) dX3_digitAt_18 rfl (by decide) rfl ?_
      refine mG.sub (lv2 := [(0, .int (a1)), (2, .int (iabs a2)), (3, .int 0)]) [2, 1, 0] rfl ?_
      exact gX3_digitAt_19   F  (iabs a2) (0 : Int32)  h
    · replace h := itn c1 h
      refine mG.iconst (v := 0) dX3_digitAt_10 rfl ?_
      obtain rfl := Option.some.inj h
      exact mG.iret dX3_digitAt_11 rfl ⟨rfl, rfl, rfl⟩
theorem dX3_isSo_0 : decode cX3_isSo 0 = .ok (.iload_n 0, 1) := by decide +kernel
theorem dX3_isSo_1 : decode cX3_isSo 1 = .ok (.tableswitch 133 3 15 #[67, 78, 111, 122, 133, 133, 133, 133, 133, 133, 133, 89, 100], 67) := by decide +kernel
theorem dX3_isSo_68 : decode cX3_isSo 68 = .ok (.iload_n 1, 1) := by decide +kernel
theorem dX3_isSo_69 : decode cX3_isSo 69 = .ok (.iload_n 2, 1) := by decide +kernel
theorem dX3_isSo_70 : decode cX3_isSo 70 = .ok (.if_icmp .ge 7, 3) := by decide +kernel
theorem dX3_isSo_73 : decode cX3_isSo 73 = .ok (.iconst 1, 1) := by decide +kernel
theorem dX3_isSo_74 : decode cX3_isSo 74 = .ok (.goto 4, 3) := by decide +kernel
theorem dX3_isSo_77 : decode cX3_isSo 77 = .ok (.iconst 0, 1) := by decide +kernel
theorem dX3_isSo_78 : decode cX3_isSo 78 = .ok (.ireturn, 1) := by decide +kernel
theorem dX3_isSo_79 : decode cX3_isSo 79 = .ok (.iload_n 1, 1) := by decide +kernel
theorem dX3_isSo_80 : decode cX3_isSo 80 = .ok (.iload_n 2, 1) := by decide +kernel
theorem dX3_isSo_81 : decode cX3_isSo 81 = .ok (.if_icmp .le 7, 3) := by decide +kernel
theorem dX3_isSo_84 : decode cX3_isSo 84 = .ok (.iconst 1, 1) := by decide +kernel
theorem dX3_isSo_85 : decode cX3_isSo 85 = .ok (.goto 4, 3) := by decide +kernel
theorem dX3_isSo_88 : decode cX3_isSo 88 = .ok (.iconst 0, 1) := by decide +kernel
theorem dX3_isSo_89 : decode cX3_isSo 89 = .ok (.ireturn, 1) := by decide +kernel
theorem dX3_isSo_90 : decode cX3_isSo 90 = .ok (.iload_n 1, 1) := by decide +kernel
theorem dX3_isSo_91 : decode cX3_isSo 91 = .ok (.iload_n 2, 1) := by decide +kernel
theorem dX3_isSo_92 : decode cX3_isSo 92 = .ok (.if_icmp .gt 7, 3) := by decide +kernel
theorem dX3_isSo_95 : decode cX3_isSo 95 = .ok (.iconst 1, 1) := by decide +kernel
theorem dX3_isSo_96 : decode cX3_isSo 96 = .ok (.goto 4, 3) := by decide +kernel
theorem dX3_isSo_99 : decode cX3_isSo 99 = .ok (.iconst 0, 1) := by decide +kernel
theorem dX3_isSo_100 : decode cX3_isSo 100 = .ok (.ireturn, 1) := by decide +kernel
theorem dX3_isSo_101 : decode cX3_isSo 101 = .ok (.iload_n 1, 1) := by decide +kernel
theorem dX3_isSo_102 : decode cX3_isSo 102 = .ok (.iload_n 2, 1) := by decide +kernel
theorem dX3_isSo_103 : decode cX3_isSo 103 = .ok (.if_icmp .lt 7, 3) := by decide +kernel
theorem dX3_isSo_106 : decode cX3_isSo 106 = .ok (.iconst 1, 1) := by decide +kernel
theorem dX3_isSo_107 : decode cX3_isSo 107 = .ok (.goto 4, 3) := by decide +kernel
theorem dX3_isSo_110 : decode cX3_isSo 110 = .ok (.iconst 0, 1) := by decide +kernel
theorem dX3_isSo_111 : decode cX3_isSo 111 = .ok (.ireturn, 1) := by decide +kernel
theorem dX3_isSo_112 : decode cX3_isSo 112 = .ok (.iload_n 1, 1) := by decide +kernel
theorem dX3_isSo_113 : decode cX3_isSo 113 = .ok (.iload_n 2, 1) := by decide +kernel
theorem dX3_isSo_114 : decode cX3_isSo 114 = .ok (.if_icmp .ne 7, 3) := by decide +kernel
theorem dX3_isSo_117 : decode cX3_isSo 117 = .ok (.iconst 1, 1) := by decide +kernel
theorem dX3_isSo_118 : decode cX3_isSo 118 = .ok (.goto 4, 3) := by decide +kernel
theorem dX3_isSo_121 : decode cX3_isSo 121 = .ok (.iconst 0, 1) := by decide +kernel
theorem dX3_isSo_122 : decode cX3_isSo 122 = .ok (.ireturn, 1) := by decide +kernel
theorem dX3_isSo_123 : decode cX3_isSo 123 = .ok (.iload_n 1, 1) := by decide +kernel
theorem dX3_isSo_124 : decode cX3_isSo 124 = .ok (.iload_n 2, 1) := by decide +kernel
theorem dX3_isSo_125 : decode cX3_isSo 125 = .ok (.if_icmp .eq 7, 3) := by decide +kernel
theorem dX3_isSo_128 : decode cX3_isSo 128 = .ok (.iconst 1, 1) := by decide +kernel
theorem dX3_isSo_129 : decode cX3_isSo 129 = .ok (.goto 4, 3) := by decide +kernel
theorem dX3_isSo_132 : decode cX3_isSo 132 = .ok (.iconst 0, 1) := by decide +kernel
theorem dX3_isSo_133 : decode cX3_isSo 133 = .ok (.ireturn, 1) := by decide +kernel
theorem dX3_isSo_134 : decode cX3_isSo 134 = .ok (.iload_n 1, 1) := by decide +kernel
theorem dX3_isSo_135 : decode cX3_isSo 135 = .ok (.ifCond .ne 15, 3) := by decide +kernel
theorem dX3_isSo_138 : decode cX3_isSo 138 = .ok (.iload_n 2, 1) := by decide +kernel
theorem dX3_isSo_139 : decode cX3_isSo 139 = .ok (.ifCond .ne 7, 3) := by decide +kernel
theorem dX3_isSo_142 : decode cX3_isSo 142 = .ok (.iconst 1, 1) := by decide +kernel
theorem dX3_isSo_143 : decode cX3_isSo 143 = .ok (.goto 18, 3) := by decide +kernel
theorem dX3_isSo_146 : decode cX3_isSo 146 = .ok (.iconst 0, 1) := by decide +kernel
theorem dX3_isSo_147 : decode cX3_isSo 147 = .ok (.goto 14, 3) := by decide +kernel
theorem dX3_isSo_150 : decode cX3_isSo 150 = .ok (.iload_n 2, 1) := by decide +kernel
theorem dX3_isSo_151 : decode cX3_isSo 151 = .ok (.iload_n 1, 1) := by decide +kernel
theorem dX3_isSo_152 : decode cX3_isSo 152 = .ok (.irem, 1) := by decide +kernel
theorem dX3_isSo_153 : decode cX3_isSo 153 = .ok (.ifCond .ne 7, 3) := by decide +kernel
theorem dX3_isSo_156 : decode cX3_isSo 156 = .ok (.iconst 1, 1) := by decide +kernel
theorem dX3_isSo_157 : decode cX3_isSo 157 = .ok (.goto 4, 3) := by decide +kernel
theorem dX3_isSo_160 : decode cX3_isSo 160 = .ok (.iconst 0, 1) := by decide +kernel
theorem dX3_isSo_161 : decode cX3_isSo 161 = .ok (.ireturn, 1) := by decide +kernel
def lX3_isSo_134 (F : Nat)  (a1 : Int32) (a2 : Int32) (a3 : Int32) (S0 : mS)  : Option Bool := if a2 = 0 then (if a3 = 0 then (some true) else (some false)) else (ck (nz a2) (if (a3 - a3 / a2 * a2) = 0 then (some true) else (some false)))
set_option maxHeartbeats 4000000 in
set_option maxRecDepth 100000 in
theorem gX3_isSo_134 {x : mX} {F : Nat} {a1 : Int32} {a2 : Int32} {a3 : Int32} {S0 : mS}  {R : Bool}     (h : lX3_isSo_134 F  a1 a2 a3 S0  = some R) : mG x μX3_isSo 1 0 0 (mQe S0 (some (.int (bI R)))) 0 0 E0 S0 134 [(1, .int (a2)), (2, .int (a3))] [] := by
  unfold lX3_isSo_134 at h
  refine mG.iload_n 0 dX3_isSo_134 rfl ?_
  refine mG.if_ne 150 dX3_isSo_135 (by decide) (fun c4 => ?_) (fun c4 => ?_)
  · replace h := itn c4 h
    refine mG.iload_n 1 dX3_isSo_150 rfl ?_
    refine mG.iload_n 0 dX3_isSo_151 rfl ?_
    obtain ⟨b2, h⟩ := ckp h
    refine mG.irem dX3_isSo_152 (nzp b2) ?_
    refine mG.if_ne 160 dX3_isSo_153 (by decide) (fun c1 => ?_) (fun c1 => ?_)
    · replace h := itn c1 h
      refine mG.iconst (v := 0) dX3_isSo_160 rfl ?_
      obtain rfl := Option.some.inj h
      exact mG.zret (b := false) dX3_isSo_161 rfl rfl ⟨rfl, rfl, rfl⟩
    · replace h := itp c1 h
      refine mG.iconst (v := 1) dX3_isSo_156 rfl ?_
      refine mG.goto 161 dX3_isSo_157 (by decide) ?_
      obtain rfl := Option.some.inj h
      exact mG.zret (b := true) dX3_isSo_161 rfl rfl ⟨rfl, rfl, rfl⟩
  · replace h := itp c4 h
    refine mG.iload_n 1 dX3_isSo_138 rfl ?_
    refine mG.if_ne 146 dX3_isSo_139 (by decide) (fun c3 => ?_) (fun c3 => ?_)
    · replace h := itn c3 h
      refine mG.iconst (v := 0) dX3_isSo_146 rfl ?_
      refine mG.goto 161 dX3_isSo_147 (by decide) ?_
      obtain rfl := Option.some.inj h
      exact mG.zret (b := false) dX3_isSo_161 rfl rfl ⟨rfl, rfl, rfl⟩
    · replace h := itp c3 h
      refine mG.iconst (v := 1) dX3_isSo_142 rfl ?_
      refine mG.goto 161 dX3_isSo_143 (by decide) ?_
      obtain rfl := Option.some.inj h
      exact mG.zret (b := true) dX3_isSo_161 rfl rfl ⟨rfl, rfl, rfl⟩
def f_X3_isSo (F : Nat) (S0 : mS) (a1 : Int32) (a2 : Int32) (a3 : Int32) : Option Bool := if a1 = (3 : Int32) then (if a3 ≤ a2 then (some false) else (some true)) else (if a1 = (4 : Int32) then (if a2 ≤ a3 then (some false) else (some true)) else (if a1 = (5 : Int32) then (if a2 = a3 then (some true) else (some false)) else (if a1 = (6 : Int32) then (if a2 = a3 then (some false) else (some true)) else (if a1 = (14 : Int32) then (if a3 < a2 then (some false) else (some true)) else (if a1 = (15 : Int32) then (if a2 < a3 then (some false) else (some true)) else (lX3_isSo_134 F  a1 a2 a3 S0 ))))))
set_option maxHeartbeats 4000000 in
set_option maxRecDepth 100000 in
theorem c_X3_isSo {F : Nat} {S0 : mS} {a1 : Int32} {a2 : Int32} {a3 : Int32} {R : Bool}  (h : f_X3_isSo F S0 a1 a2 a3 = some R) : mCt μX3_isSo 1 0 0 E0 S0 [.int (a1), .int (a2), .int (a3)] (mQe S0 (some (.int (bI R)))) := by
  unfold f_X3_isSo at h
  refine mCt.of (by decide) (Nat.le_of_ble_eq_true rfl) ?_
  intro x
  refine mG.iload_n 0 dX3_isSo_0 rfl ?_
  by_cases c1 : a1 = (3 : Int32)
  · replace h := itp c1 h
    refine mG.tblIn (67) 68 dX3_isSo_1 (by rw [c1]; decide) (by rw [c1]; decide) (by rw [c1]; decide) (by decide) ?_
    refine mG.iload_n 1 dX3_isSo_68 rfl ?_
    refine mG.iload_n 2 dX3_isSo_69 rfl ?_
    refine mG.icmp_ge 77 dX3_isSo_70 (by decide) (fun c2 => ?_) (fun c2 => ?_)
    · replace h := itp c2 h
      refine mG.iconst (v := 0) dX3_isSo_77 rfl ?_
      obtain rfl := Option.some.inj h
      exact mG.zret (b := false) dX3_isSo_78 rfl rfl ⟨rfl, rfl, rfl⟩
    · replace h := itn c2 h
      refine mG.iconst (v := 1) dX3_isSo_73 rfl ?_
      refine mG.goto 78 dX3_isSo_74 (by decide) ?_
      obtain rfl := Option.some.inj h
      exact mG.zret (b := true) dX3_isSo_78 rfl rfl ⟨rfl, rfl, rfl⟩
  replace h := itn c1 h
  by_cases c3 : a1 = (4 : Int32)
  · replace h := itp c3 h
    refine mG.tblIn (78) 79 dX3_isSo_1 (by rw [c3]; decide) (by rw [c3]; decide) (by rw [c3]; decide) (by decide) ?_
    refine mG.iload_n 1 dX3_isSo_79 rfl ?_
    refine mG.iload_n 2 dX3_isSo_80 rfl ?_
    refine mG.icmp_le 88 dX3_isSo_81 (by decide) (fun c4 => ?_) (fun c4 => ?_)
    · replace h := itp c4 h
      refine mG.iconst (v := 0) dX3_isSo_88 rfl ?_
      obtain rfl := Option.some.inj h
      exact mG.zret (b := false) dX3_isSo_89 rfl rfl ⟨rfl, rfl, rfl⟩
    · replace h := itn c4 h
      refine mG.iconst (v := 1) dX3_isSo_84 rfl ?_
      refine mG.goto 89 dX3_isSo_85 (by decide) ?_
      obtain rfl := Option.some.inj h
      exact mG.zret (b := true) dX3_isSo_89 rfl rfl ⟨rfl, rfl, rfl⟩
  replace h := itn c3 h
  by_cases c5 : a1 = (5 : Int32)
  · replace h := itp c5 h
    refine mG.tblIn (111) 112 dX3_isSo_1 (by rw [c5]; decide) (by rw [c5]; decide) (by rw [c5]; decide) (by decide) ?_
    refine mG.iload_n 1 dX3_isSo_112 rfl ?_
    refine mG.iload_n 2 dX3_isSo_113 rfl ?_
    refine mG.icmp_ne 121 dX3_isSo_114 (by decide) (fun c6 => ?_) (fun c6 => ?_)
    · replace h := itn c6 h
      refine mG.iconst (v := 0) dX3_isSo_121 rfl ?_
      obtain rfl := Option.some.inj h
      exact mG.zret (b := false) dX3_isSo_122 rfl rfl ⟨rfl, rfl, rfl⟩
    · replace h := itp c6 h
      refine mG.iconst (v := 1) dX3_isSo_117 rfl ?_
      refine mG.goto 122 dX3_isSo_118 (by decide) ?_
      obtain rfl := Option.some.inj h
      exact mG.zret (b := true) dX3_isSo_122 rfl rfl ⟨rfl, rfl, rfl⟩
  replace h := itn c5 h
  by_cases c7 : a1 = (6 : Int32)
  · replace h := itp c7 h
    refine mG.tblIn (122) 123 dX3_isSo_1 (by rw [c7]; decide) (by rw [c7]; decide) (by rw [c7]; decide) (by decide) ?_
    refine mG.iload_n 1 dX3_isSo_123 rfl ?_
    refine mG.iload_n 2 dX3_isSo_124 rfl ?_
    refine mG.icmp_eq 132 dX3_isSo_125 (by decide) (fun c8 => ?_) (fun c8 => ?_)
    · replace h := itp c8 h
      refine mG.iconst (v := 0) dX3_isSo_132 rfl ?_
      obtain rfl := Option.some.inj h
      exact mG.zret (b := false) dX3_isSo_133 rfl rfl ⟨rfl, rfl, rfl⟩
    · replace h := itn c8 h
      refine mG.iconst (v := 1) dX3_isSo_128 rfl ?_
      refine mG.goto 133 dX3_isSo_129 (by decide) ?_
      obtain rfl := Option.some.inj h
      exact mG.zret (b := true) dX3_isSo_133 rfl rfl ⟨rfl, rfl, rfl⟩
  replace h := itn c7 h
  by_cases c9 : a1 = (14 : Int32)
  · replace h := itp c9 h
    refine mG.tblIn (89) 90 dX3_isSo_1 (by rw [c9]; decide) (by rw [c9]; decide) (by rw [c9]; decide) (by decide) ?_
    refine mG.iload_n 1 dX3_isSo_90 rfl ?_
    refine mG.iload_n 2 dX3_isSo_91 rfl ?_
    refine mG.icmp_gt 99 dX3_isSo_92 (by decide) (fun c10 => ?_) (fun c10 => ?_)
    · replace h := itp c10 h
      refine mG.iconst (v := 0) dX3_isSo_99 rfl ?_
      obtain rfl := Option.some.inj h
      exact mG.zret (b := false) dX3_isSo_100 rfl rfl ⟨rfl, rfl, rfl⟩
    · replace h := itn c10 h
      refine mG.iconst (v := 1) dX3_isSo_95 rfl ?_
      refine mG.goto 100 dX3_isSo_96 (by decide) ?_
      obtain rfl := Option.some.inj h
      exact mG.zret (b := true) dX3_isSo_100 rfl rfl ⟨rfl, rfl, rfl⟩
  replace h := itn c9 h
  by_cases c11 : a1 = (15 : Int32)
  · replace h := itp c11 h
    refine mG.tblIn (100) 101 dX3_isSo_1 (by rw [c11]; decide) (by rw [c11]; decide) (by rw [c11]; decide) (by decide) ?_
    refine mG.iload_n 1 dX3_isSo_101 rfl ?_
    refine mG.iload_n 2 dX3_isSo_102 rfl ?_
    refine mG.icmp_lt 110 dX3_isSo_103 (by decide) (fun c12 => ?_) (fun c12 => ?_)
    · replace h := itp c12 h
      refine mG.iconst (v := 0) dX3_isSo_110 rfl ?_
      obtain rfl := Option.some.inj h
      exact mG.zret (b := false) dX3_isSo_111 rfl rfl ⟨rfl, rfl, rfl⟩
    · replace h := itn c12 h
      refine mG.iconst (v := 1) dX3_isSo_106 rfl ?_
      refine mG.goto 111 dX3_isSo_107 (by decide) ?_
      obtain rfl := Option.some.inj h
      exact mG.zret (b := true) dX3_isSo_111 rfl rfl ⟨rfl, rfl, rfl⟩
  replace h := itn c11 h
  have kd : mG x μX3_isSo 1 0 0 (mQe S0 (some (.int (bI R)))) 0 0 E0 S0 134 [(0, .int (a1)), (1, .int (a2)), (2, .int (a3))] [] := by
    refine mG.sub (lv2 := [(1, .int (a2)), (2, .int (a3))]) [1, 2] rfl ?_
    exact gX3_isSo_134       h
  by_cases c13 : a1 = (7 : Int32)
  · refine mG.tblIn (133) 134 dX3_isSo_1 (by rw [c13]; decide) (by rw [c13]; decide) (by rw [c13]; decide) (by decide) ?_
    exact kd
  by_cases c14 : a1 = (8 : Int32)
  · refine mG.tblIn (133) 134 dX3_isSo_1 (by rw [c14]; decide) (by rw [c14]; decide) (by rw [c14]; decide) (by decide) ?_
    exact kd
  by_cases c15 : a1 = (9 : Int32)
  · refine mG.tblIn (133) 134 dX3_isSo_1 (by rw [c15]; decide) (by rw [c15]; decide) (by rw [c15]; decide) (by decide) ?_
    exact kd
  by_cases c16 : a1 = (10 : Int32)
  · refine mG.tblIn (133) 134 dX3_isSo_1 (by rw [c16]; decide) (by rw [c16]; decide) (by rw [c16]; decide) (by decide) ?_
    exact kd
  by_cases c17 : a1 = (11 : Int32)
  · refine mG.tblIn (133) 134 dX3_isSo_1 (by rw [c17]; decide) (by rw [c17]; decide) (by rw [c17]; decide) (by decide) ?_
    exact kd
  by_cases c18 : a1 = (12 : Int32)
  · refine mG.tblIn (133) 134 dX3_isSo_1 (by rw [c18]; decide) (by rw [c18]; decide) (by rw [c18]; decide) (by decide) ?_
    exact kd
  by_cases c19 : a1 = (13 : Int32)
  · refine mG.tblIn (133) 134 dX3_isSo_1 (by rw [c19]; decide) (by rw [c19]; decide) (by rw [c19]; decide) (by decide) ?_
    exact kd
  refine mG.tblOut 134 dX3_isSo_1 (by have e0 : Int32.toInt a1 ≠ 3 := fun q => c1 (Int32.toInt_inj.mp (q.trans (by decide))); have e1 : Int32.toInt a1 ≠ 4 := fun q => c3 (Int32.toInt_inj.mp (q.trans (by decide))); have e2 : Int32.toInt a1 ≠ 5 := fun q => c5 (Int32.toInt_inj.mp (q.trans (by decide))); have e3 : Int32.toInt a1 ≠ 6 := fun q => c7 (Int32.toInt_inj.mp (q.trans (by decide))); have e4 : Int32.toInt a1 ≠ 14 := fun q => c9 (Int32.toInt_inj.mp (q.trans (by decide))); have e5 : Int32.toInt a1 ≠ 15 := fun q => c11 (Int32.toInt_inj.mp (q.trans (by decide))); have e6 : Int32.toInt a1 ≠ 7 := fun q => c13 (Int32.toInt_inj.mp (q.trans (by decide))); have e7 : Int32.toInt a1 ≠ 8 := fun q => c14 (Int32.toInt_inj.mp (q.trans (by decide))); have e8 : Int32.toInt a1 ≠ 9 := fun q => c15 (Int32.toInt_inj.mp (q.trans (by decide))); have e9 : Int32.toInt a1 ≠ 10 := fun q => c16 (Int32.toInt_inj.mp (q.trans (by decide))); have e10 : Int32.toInt a1 ≠ 11 := fun q => c17 (Int32.toInt_inj.mp (q.trans (by decide))); have e11 : Int32.toInt a1 ≠ 12 := fun q => c18 (Int32.toInt_inj.mp (q.trans (by decide))); have e12 : Int32.toInt a1 ≠ 13 := fun q => c19 (Int32.toInt_inj.mp (q.trans (by decide))); omega) (by decide) ?_
  exact kd
theorem dX3_joined_0 : decode cX3_joined 0 = .ok (.iload_n 0, 1) := by decide +kernel
theorem dX3_joined_1 : decode cX3_joined 1 = .ok (.lookupswitch 120 #[(7, 67), (8, 76), (9, 85), (10, 94), (33, 116), (34, 112), (37, 106)], 67) := by decide +kernel
theorem dX3_joined_68 : decode cX3_joined 68 = .ok (.iload_n 1, 1) := by decide +kernel
theorem dX3_joined_69 : decode cX3_joined 69 = .ok (.i2l, 1) := by decide +kernel
theorem dX3_joined_70 : decode cX3_joined 70 = .ok (.iload_n 2, 1) := by decide +kernel
theorem dX3_joined_71 : decode cX3_joined 71 = .ok (.i2l, 1) := by decide +kernel
theorem dX3_joined_72 : decode cX3_joined 72 = .ok (.ladd, 1) := by decide +kernel
theorem dX3_joined_73 : decode cX3_joined 73 = .ok (.invokestatic 107, 3) := by decide +kernel
theorem dX3_joined_76 : decode cX3_joined 76 = .ok (.ireturn, 1) := by decide +kernel
theorem dX3_joined_77 : decode cX3_joined 77 = .ok (.iload_n 1, 1) := by decide +kernel
theorem dX3_joined_78 : decode cX3_joined 78 = .ok (.i2l, 1) := by decide +kernel
theorem dX3_joined_79 : decode cX3_joined 79 = .ok (.iload_n 2, 1) := by decide +kernel
theorem dX3_joined_80 : decode cX3_joined 80 = .ok (.i2l, 1) := by decide +kernel
theorem dX3_joined_81 : decode cX3_joined 81 = .ok (.lsub, 1) := by decide +kernel
theorem dX3_joined_82 : decode cX3_joined 82 = .ok (.invokestatic 107, 3) := by decide +kernel
theorem dX3_joined_85 : decode cX3_joined 85 = .ok (.ireturn, 1) := by decide +kernel
theorem dX3_joined_86 : decode cX3_joined 86 = .ok (.iload_n 1, 1) := by decide +kernel
theorem dX3_joined_87 : decode cX3_joined 87 = .ok (.i2l, 1) := by decide +kernel
theorem dX3_joined_88 : decode cX3_joined 88 = .ok (.iload_n 2, 1) := by decide +kernel
theorem dX3_joined_89 : decode cX3_joined 89 = .ok (.i2l, 1) := by decide +kernel
theorem dX3_joined_90 : decode cX3_joined 90 = .ok (.lmul, 1) := by decide +kernel
theorem dX3_joined_91 : decode cX3_joined 91 = .ok (.invokestatic 107, 3) := by decide +kernel
theorem dX3_joined_94 : decode cX3_joined 94 = .ok (.ireturn, 1) := by decide +kernel
theorem dX3_joined_95 : decode cX3_joined 95 = .ok (.iload_n 2, 1) := by decide +kernel
theorem dX3_joined_96 : decode cX3_joined 96 = .ok (.ifCond .ne 7, 3) := by decide +kernel
theorem dX3_joined_99 : decode cX3_joined 99 = .ok (.iconst 0, 1) := by decide +kernel
theorem dX3_joined_100 : decode cX3_joined 100 = .ok (.goto 6, 3) := by decide +kernel
theorem dX3_joined_103 : decode cX3_joined 103 = .ok (.iload_n 1, 1) := by decide +kernel
theorem dX3_joined_104 : decode cX3_joined 104 = .ok (.iload_n 2, 1) := by decide +kernel
theorem dX3_joined_105 : decode cX3_joined 105 = .ok (.idiv, 1) := by decide +kernel
theorem dX3_joined_106 : decode cX3_joined 106 = .ok (.ireturn, 1) := by decide +kernel
theorem dX3_joined_107 : decode cX3_joined 107 = .ok (.iload_n 1, 1) := by decide +kernel
theorem dX3_joined_108 : decode cX3_joined 108 = .ok (.iload_n 2, 1) := by decide +kernel
theorem dX3_joined_109 : decode cX3_joined 109 = .ok (.invokestatic 111, 3) := by decide +kernel
theorem dX3_joined_112 : decode cX3_joined 112 = .ok (.ireturn, 1) := by decide +kernel
theorem dX3_joined_113 : decode cX3_joined 113 = .ok (.iload_n 1, 1) := by decide +kernel
theorem dX3_joined_114 : decode cX3_joined 114 = .ok (.iload_n 2, 1) := by decide +kernel
theorem dX3_joined_115 : decode cX3_joined 115 = .ok (.iand, 1) := by decide +kernel
theorem dX3_joined_116 : decode cX3_joined 116 = .ok (.ireturn, 1) := by decide +kernel
theorem dX3_joined_117 : decode cX3_joined 117 = .ok (.iload_n 1, 1) := by decide +kernel
theorem dX3_joined_118 : decode cX3_joined 118 = .ok (.iload_n 2, 1) := by decide +kernel
theorem dX3_joined_119 : decode cX3_joined 119 = .ok (.ior, 1) := by decide +kernel
theorem dX3_joined_120 : decode cX3_joined 120 = .ok (.ireturn, 1) := by decide +kernel
theorem dX3_joined_121 : decode cX3_joined 121 = .ok (.iload_n 0, 1) := by decide +kernel
theorem dX3_joined_122 : decode cX3_joined 122 = .ok (.iload_n 1, 1) := by decide +kernel
theorem dX3_joined_123 : decode cX3_joined 123 = .ok (.iload_n 2, 1) := by decide +kernel
theorem dX3_joined_124 : decode cX3_joined 124 = .ok (.invokestatic 114, 3) := by decide +kernel
theorem dX3_joined_127 : decode cX3_joined 127 = .ok (.ifCond .eq 7, 3) := by decide +kernel
theorem dX3_joined_130 : decode cX3_joined 130 = .ok (.iconst 1, 1) := by decide +kernel
theorem dX3_joined_131 : decode cX3_joined 131 = .ok (.goto 4, 3) := by decide +kernel
theorem dX3_joined_134 : decode cX3_joined 134 = .ok (.iconst 0, 1) := by decide +kernel
theorem dX3_joined_135 : decode cX3_joined 135 = .ok (.ireturn, 1) := by decide +kernel
def f_X3_joined (F : Nat) (S0 : mS) (a1 : Int32) (a2 : Int32) (a3 : Int32) : Option Int32 := if a1 = (7 : Int32) then (some (f_X3_limited S0 ((Int32.toInt64 a2) + (Int32.toInt64 a3)))) else (if a1 = (8 : Int32) then (some (f_X3_limited S0 ((Int32.toInt64 a2) - (Int32.toInt64 a3)))) else (if a1 = (9 : Int32) then (some (f_X3_limited S0 ((Int32.toInt64 a2) * (Int32.toInt64 a3)))) else (if a1 = (10 : Int32) then (if a3 = 0 then (some (0 : Int32)) else (ck (nz a3) (some (a2 / a3)))) else (if a1 = (33 : Int32) then (some (a2 ||| a3)) else (if a1 = (34 : Int32) then (some (a2 &&& a3)) else (if a1 = (37 : Int32) then (bd (f_X3_digitAt F S0 a2 a3) fun q10 => some q10) else (bd (f_X3_isSo F S0 a1 a2 a3) fun q11 => if q11 = true then (some (1 : Int32)) else (some (0 : Int32)))))))))
set_option maxHeartbeats 4000000 in
set_option maxRecDepth 100000 in
theorem c_X3_joined {F : Nat} {S0 : mS} {a1 : Int32} {a2 : Int32} {a3 : Int32} {R : Int32}  (h : f_X3_joined F S0 a1 a2 a3 = some R) : mCt μX3_joined 2 0 0 E0 S0 [.int (a1), .int (a2), .int (a3)] (mQe S0 (some (.int R))) := by
  unfold f_X3_joined at h
  refine mCt.of (by decide) (Nat.le_of_ble_eq_true rfl) ?_
  intro x
  refine mG.iload_n 0 dX3_joined_0 rfl ?_
  by_cases c1 : a1 = (7 : Int32)
  · replace h := itp c1 h
    refine mG.lookup (67) 68 dX3_joined_1 (by decide) (by rw [c1]; decide) (by decide) ?_
    refine mG.iload_n 1 dX3_joined_68 rfl ?_
    refine mG.i2l dX3_joined_69 ?_
    refine mG.iload_n 2 dX3_joined_70 rfl ?_
    refine mG.i2l dX3_joined_71 ?_
    refine mG.ladd dX3_joined_72 ?_
    refine mG.callS0 (as := [.long ((Int32.toInt64 a2) + (Int32.toInt64 a3))]) (st := []) (S2 := S0) (r := some (.int (f_X3_limited S0 ((Int32.toInt64 a2) + (Int32.toInt64 a3))))) dX3_joined_73 mbX3_limited wk31_21 wk31_20 rfl rfl (by decide) (Nat.le_of_ble_eq_true rfl) (c_X3_limited  rfl) ?_
    obtain rfl := Option.some.inj h
    exact mG.iret dX3_joined_76 rfl ⟨rfl, rfl, rfl⟩
  replace h := itn c1 h
  by_cases c2 : a1 = (8 : Int32)
  · replace h := itp c2 h
    refine mG.lookup (76) 77 dX3_joined_1 (by decide) (by rw [c2]; decide) (by decide) ?_
    refine mG.iload_n 1 dX3_joined_77 rfl ?_
    refine mG.i2l dX3_joined_78 ?_
    refine mG.iload_n 2 dX3_joined_79 rfl ?_
    refine mG.i2l dX3_joined_80 ?_
    refine mG.lsub dX3_joined_81 ?_
    refine mG.callS0 (as := [.long ((Int32.toInt64 a2) - (Int32.toInt64 a3))]) (st := []) (S2 := S0) (r := some (.int (f_X3_limited S0 ((Int32.toInt64 a2) - (Int32.toInt64 a3))))) dX3_joined_82 mbX3_limited wk31_21 wk31_20 rfl rfl (by decide) (Nat.le_of_ble_eq_true rfl) (c_X3_limited  rfl) ?_
    obtain rfl := Option.some.inj h
    exact mG.iret dX3_joined_85 rfl ⟨rfl, rfl, rfl⟩
  replace h := itn c2 h
  by_cases c3 : a1 = (9 : Int32)
  · replace h := itp c3 h
    refine mG.lookup (85) 86 dX3_joined_1 (by decide) (by rw [c3]; decide) (by decide) ?_
    refine mG.iload_n 1 dX3_joined_86 rfl ?_
    refine mG.i2l dX3_joined_87 ?_
    refine mG.iload_n 2 dX3_joined_88 rfl ?_
    refine mG.i2l dX3_joined_89 ?_
    refine mG.lmul dX3_joined_90 ?_
    refine mG.callS0 (as := [.long ((Int32.toInt64 a2) * (Int32.toInt64 a3))]) (st := []) (S2 := S0) (r := some (.int (f_X3_limited S0 ((Int32.toInt64 a2) * (Int32.toInt64 a3))))) dX3_joined_91 mbX3_limited wk31_21 wk31_20 rfl rfl (by decide) (Nat.le_of_ble_eq_true rfl) (c_X3_limited  rfl) ?_
    obtain rfl := Option.some.inj h
    exact mG.iret dX3_joined_94 rfl ⟨rfl, rfl, rfl⟩
  replace h := itn c3 h
  by_cases c4 : a1 = (10 : Int32)
  · replace h := itp c4 h
    refine mG.lookup (94) 95 dX3_joined_1 (by decide) (by rw [c4]; decide) (by decide) ?_
    refine mG.iload_n 2 dX3_joined_95 rfl ?_
    refine mG.if_ne 103 dX3_joined_96 (by decide) (fun c6 => ?_) (fun c6 => ?_)
    · replace h := itn c6 h
      refine mG.iload_n 1 dX3_joined_103 rfl ?_
      refine mG.iload_n 2 dX3_joined_104 rfl ?_
      obtain ⟨b5, h⟩ := ckp h
      refine mG.idiv dX3_joined_105 (nzp b5) ?_
      obtain rfl := Option.some.inj h
      exact mG.iret dX3_joined_106 rfl ⟨rfl, rfl, rfl⟩
    · replace h := itp c6 h
      refine mG.iconst (v := 0) dX3_joined_99 rfl ?_
      refine mG.goto 106 dX3_joined_100 (by decide) ?_
      obtain rfl := Option.some.inj h
      exact mG.iret dX3_joined_106 rfl ⟨rfl, rfl, rfl⟩
  replace h := itn c4 h
  by_cases c7 : a1 = (33 : Int32)
  · replace h := itp c7 h
    refine mG.lookup (116) 117 dX3_joined_1 (by decide) (by rw [c7]; decide) (by decide) ?_
    refine mG.iload_n 1 dX3_joined_117 rfl ?_
    refine mG.iload_n 2 dX3_joined_118 rfl ?_
    refine mG.ior dX3_joined_119 ?_
    obtain rfl := Option.some.inj h
    exact mG.iret dX3_joined_120 rfl ⟨rfl, rfl, rfl⟩
  replace h := itn c7 h
  by_cases c8 : a1 = (34 : Int32)
  · replace h := itp c8 h
    refine mG.lookup (112) 113 dX3_joined_1 (by decide) (by rw [c8]; decide) (by decide) ?_
    refine mG.iload_n 1 dX3_joined_113 rfl ?_
    refine mG.iload_n 2 dX3_joined_114 rfl ?_
    refine mG.iand dX3_joined_115 ?_
    obtain rfl := Option.some.inj h
    exact mG.iret dX3_joined_116 rfl ⟨rfl, rfl, rfl⟩
  replace h := itn c8 h
  by_cases c9 : a1 = (37 : Int32)
  · replace h := itp c9 h
    refine mG.lookup (106) 107 dX3_joined_1 (by decide) (by rw [c9]; decide) (by decide) ?_
    refine mG.iload_n 1 dX3_joined_107 rfl ?_
    refine mG.iload_n 2 dX3_joined_108 rfl ?_
    obtain ⟨q10, hq10, h⟩ := bdp h
    refine mG.callS0 (as := [.int (a2), .int (a3)]) (st := []) (S2 := S0) (r := some (.int (q10))) dX3_joined_109 mbX3_digitAt wk32_8 wk32_7 rfl rfl (by decide) (Nat.le_of_ble_eq_true rfl) (c_X3_digitAt  hq10) ?_
    obtain rfl := Option.some.inj h
    exact mG.iret dX3_joined_112 rfl ⟨rfl, rfl, rfl⟩
  replace h := itn c9 h
  refine mG.lookup (120) 121 dX3_joined_1 (by decide) (by have e0 : Int32.toInt a1 ≠ 7 := fun q => c1 (Int32.toInt_inj.mp (q.trans (by decide))); have e1 : Int32.toInt a1 ≠ 8 := fun q => c2 (Int32.toInt_inj.mp (q.trans (by decide))); have e2 : Int32.toInt a1 ≠ 9 := fun q => c3 (Int32.toInt_inj.mp (q.trans (by decide))); have e3 : Int32.toInt a1 ≠ 10 := fun q => c4 (Int32.toInt_inj.mp (q.trans (by decide))); have e4 : Int32.toInt a1 ≠ 33 := fun q => c7 (Int32.toInt_inj.mp (q.trans (by decide))); have e5 : Int32.toInt a1 ≠ 34 := fun q => c8 (Int32.toInt_inj.mp (q.trans (by decide))); have e6 : Int32.toInt a1 ≠ 37 := fun q => c9 (Int32.toInt_inj.mp (q.trans (by decide))); simp [Op.lookupswitch.offset, e0, e1, e2, e3, e4, e5, e6, Ne.symm e0, Ne.symm e1, Ne.symm e2, Ne.symm e3, Ne.symm e4, Ne.symm e5, Ne.symm e6]) (by decide) ?_
  refine mG.iload_n 0 dX3_joined_121 rfl ?_
  refine mG.iload_n 1 dX3_joined_122 rfl ?_
  refine mG.iload_n 2 dX3_joined_123 rfl ?_
  obtain ⟨q11, hq11, h⟩ := bdp h
  refine mG.callS0 (as := [.int (a1), .int (a2), .int (a3)]) (st := []) (S2 := S0) (r := some (.int (bI (q11)))) dX3_joined_124 mbX3_isSo wk32_14 wk32_13 rfl rfl (by decide) (Nat.le_of_ble_eq_true rfl) (c_X3_isSo  hq11) ?_
  refine mG.ifz_eq (b := q11) 134 dX3_joined_127 (by decide) (fun c12 => ?_) (fun c12 => ?_)
  · replace h := itn c12 h
    refine mG.iconst (v := 0) dX3_joined_134 rfl ?_
    obtain rfl := Option.some.inj h
    exact mG.iret dX3_joined_135 rfl ⟨rfl, rfl, rfl⟩
  · replace h := itp c12 h
    refine mG.iconst (v := 1) dX3_joined_130 rfl ?_
    refine mG.goto 135 dX3_joined_131 (by decide) ?_
    obtain rfl := Option.some.inj h
    exact mG.iret dX3_joined_135 rfl ⟨rfl, rfl, rfl⟩
theorem dX3_valueOf_0 : decode cX3_valueOf 0 = .ok (.aload_n 3, 1) := by decide +kernel
theorem dX3_valueOf_1 : decode cX3_valueOf 1 = .ok (.iload 4, 2) := by decide +kernel
theorem dX3_valueOf_3 : decode cX3_valueOf 3 = .ok (.invokevirtual 58, 3) := by decide +kernel
theorem dX3_valueOf_6 : decode cX3_valueOf 6 = .ok (.ifCond .ne 5, 3) := by decide +kernel
theorem dX3_valueOf_9 : decode cX3_valueOf 9 = .ok (.iconst 0, 1) := by decide +kernel
theorem dX3_valueOf_10 : decode cX3_valueOf 10 = .ok (.ireturn, 1) := by decide +kernel
theorem dX3_valueOf_11 : decode cX3_valueOf 11 = .ok (.aload_n 0, 1) := by decide +kernel
theorem dX3_valueOf_12 : decode cX3_valueOf 12 = .ok (.getfield 9, 3) := by decide +kernel
theorem dX3_valueOf_15 : decode cX3_valueOf 15 = .ok (.iconst 2, 1) := by decide +kernel
theorem dX3_valueOf_16 : decode cX3_valueOf 16 = .ok (.iload 4, 2) := by decide +kernel
theorem dX3_valueOf_18 : decode cX3_valueOf 18 = .ok (.iastore, 1) := by decide +kernel
theorem dX3_valueOf_19 : decode cX3_valueOf 19 = .ok (.aload_n 0, 1) := by decide +kernel
theorem dX3_valueOf_20 : decode cX3_valueOf 20 = .ok (.getfield 9, 3) := by decide +kernel
theorem dX3_valueOf_23 : decode cX3_valueOf 23 = .ok (.iconst 3, 1) := by decide +kernel
theorem dX3_valueOf_24 : decode cX3_valueOf 24 = .ok (.aload_n 3, 1) := by decide +kernel
theorem dX3_valueOf_25 : decode cX3_valueOf 25 = .ok (.getfield 74, 3) := by decide +kernel
theorem dX3_valueOf_28 : decode cX3_valueOf 28 = .ok (.iload 4, 2) := by decide +kernel
theorem dX3_valueOf_30 : decode cX3_valueOf 30 = .ok (.iaload, 1) := by decide +kernel
theorem dX3_valueOf_31 : decode cX3_valueOf 31 = .ok (.iastore, 1) := by decide +kernel
theorem dX3_valueOf_32 : decode cX3_valueOf 32 = .ok (.aload_n 0, 1) := by decide +kernel
theorem dX3_valueOf_33 : decode cX3_valueOf 33 = .ok (.getfield 9, 3) := by decide +kernel
theorem dX3_valueOf_36 : decode cX3_valueOf 36 = .ok (.iconst 4, 1) := by decide +kernel
theorem dX3_valueOf_37 : decode cX3_valueOf 37 = .ok (.aload_n 3, 1) := by decide +kernel
theorem dX3_valueOf_38 : decode cX3_valueOf 38 = .ok (.getfield 61, 3) := by decide +kernel
theorem dX3_valueOf_41 : decode cX3_valueOf 41 = .ok (.iload 4, 2) := by decide +kernel
theorem dX3_valueOf_43 : decode cX3_valueOf 43 = .ok (.iaload, 1) := by decide +kernel
theorem dX3_valueOf_44 : decode cX3_valueOf 44 = .ok (.iastore, 1) := by decide +kernel
theorem dX3_valueOf_45 : decode cX3_valueOf 45 = .ok (.aload_n 0, 1) := by decide +kernel
theorem dX3_valueOf_46 : decode cX3_valueOf 46 = .ok (.getfield 9, 3) := by decide +kernel
theorem dX3_valueOf_49 : decode cX3_valueOf 49 = .ok (.iconst 5, 1) := by decide +kernel
theorem dX3_valueOf_50 : decode cX3_valueOf 50 = .ok (.aload_n 3, 1) := by decide +kernel
theorem dX3_valueOf_51 : decode cX3_valueOf 51 = .ok (.getfield 87, 3) := by decide +kernel
theorem dX3_valueOf_54 : decode cX3_valueOf 54 = .ok (.iload 4, 2) := by decide +kernel
theorem dX3_valueOf_56 : decode cX3_valueOf 56 = .ok (.iaload, 1) := by decide +kernel
theorem dX3_valueOf_57 : decode cX3_valueOf 57 = .ok (.invokestatic 28, 3) := by decide +kernel
theorem dX3_valueOf_60 : decode cX3_valueOf 60 = .ok (.iastore, 1) := by decide +kernel
theorem dX3_valueOf_61 : decode cX3_valueOf 61 = .ok (.aload_n 0, 1) := by decide +kernel
theorem dX3_valueOf_62 : decode cX3_valueOf 62 = .ok (.getfield 9, 3) := by decide +kernel
theorem dX3_valueOf_65 : decode cX3_valueOf 65 = .ok (.bipush 7, 2) := by decide +kernel
theorem dX3_valueOf_67 : decode cX3_valueOf 67 = .ok (.aload_n 0, 1) := by decide +kernel
theorem dX3_valueOf_68 : decode cX3_valueOf 68 = .ok (.iload 4, 2) := by decide +kernel
theorem dX3_valueOf_70 : decode cX3_valueOf 70 = .ok (.invokevirtual 42, 3) := by decide +kernel
theorem dX3_valueOf_73 : decode cX3_valueOf 73 = .ok (.iastore, 1) := by decide +kernel
theorem dX3_valueOf_74 : decode cX3_valueOf 74 = .ok (.sipush 300, 3) := by decide +kernel
theorem dX3_valueOf_77 : decode cX3_valueOf 77 = .ok (.aload_n 1, 1) := by decide +kernel
theorem dX3_valueOf_78 : decode cX3_valueOf 78 = .ok (.getfield 90, 3) := by decide +kernel
theorem dX3_valueOf_81 : decode cX3_valueOf 81 = .ok (.iload_n 2, 1) := by decide +kernel
theorem dX3_valueOf_82 : decode cX3_valueOf 82 = .ok (.bipush 24, 2) := by decide +kernel
theorem dX3_valueOf_84 : decode cX3_valueOf 84 = .ok (.isub, 1) := by decide +kernel
theorem dX3_valueOf_85 : decode cX3_valueOf 85 = .ok (.iaload, 1) := by decide +kernel
theorem dX3_valueOf_86 : decode cX3_valueOf 86 = .ok (.invokestatic 49, 3) := by decide +kernel
theorem dX3_valueOf_89 : decode cX3_valueOf 89 = .ok (.istore 5, 2) := by decide +kernel
theorem dX3_valueOf_91 : decode cX3_valueOf 91 = .ok (.iconst 0, 1) := by decide +kernel
theorem dX3_valueOf_92 : decode cX3_valueOf 92 = .ok (.istore 6, 2) := by decide +kernel
theorem dX3_valueOf_94 : decode cX3_valueOf 94 = .ok (.aload_n 1, 1) := by decide +kernel
theorem dX3_valueOf_95 : decode cX3_valueOf 95 = .ok (.getfield 93, 3) := by decide +kernel
theorem dX3_valueOf_98 : decode cX3_valueOf 98 = .ok (.iload_n 2, 1) := by decide +kernel
theorem dX3_valueOf_99 : decode cX3_valueOf 99 = .ok (.bipush 24, 2) := by decide +kernel
theorem dX3_valueOf_101 : decode cX3_valueOf 101 = .ok (.isub, 1) := by decide +kernel
theorem dX3_valueOf_102 : decode cX3_valueOf 102 = .ok (.iaload, 1) := by decide +kernel
theorem dX3_valueOf_103 : decode cX3_valueOf 103 = .ok (.istore 7, 2) := by decide +kernel
theorem dX3_valueOf_105 : decode cX3_valueOf 105 = .ok (.iload 7, 2) := by decide +kernel
theorem dX3_valueOf_107 : decode cX3_valueOf 107 = .ok (.iload 5, 2) := by decide +kernel
theorem dX3_valueOf_109 : decode cX3_valueOf 109 = .ok (.if_icmp .ge 198, 3) := by decide +kernel
theorem dX3_valueOf_112 : decode cX3_valueOf 112 = .ok (.iload 6, 2) := by decide +kernel
theorem dX3_valueOf_114 : decode cX3_valueOf 114 = .ok (.sipush 300, 3) := by decide +kernel
theorem dX3_valueOf_117 : decode cX3_valueOf 117 = .ok (.if_icmp .ge 190, 3) := by decide +kernel
theorem dX3_valueOf_120 : decode cX3_valueOf 120 = .ok (.aload_n 1, 1) := by decide +kernel
theorem dX3_valueOf_121 : decode cX3_valueOf 121 = .ok (.getfield 96, 3) := by decide +kernel
theorem dX3_valueOf_124 : decode cX3_valueOf 124 = .ok (.iload 7, 2) := by decide +kernel
theorem dX3_valueOf_126 : decode cX3_valueOf 126 = .ok (.iaload, 1) := by decide +kernel
theorem dX3_valueOf_127 : decode cX3_valueOf 127 = .ok (.sipush 10000, 3) := by decide +kernel
theorem dX3_valueOf_130 : decode cX3_valueOf 130 = .ok (.isub, 1) := by decide +kernel
theorem dX3_valueOf_131 : decode cX3_valueOf 131 = .ok (.istore 8, 2) := by decide +kernel
theorem dX3_valueOf_133 : decode cX3_valueOf 133 = .ok (.iload 8, 2) := by decide +kernel
theorem dX3_valueOf_135 : decode cX3_valueOf 135 = .ok (.ifCond .ge 23, 3) := by decide +kernel
theorem dX3_valueOf_138 : decode cX3_valueOf 138 = .ok (.aload_n 0, 1) := by decide +kernel
theorem dX3_valueOf_139 : decode cX3_valueOf 139 = .ok (.getfield 15, 3) := by decide +kernel
theorem dX3_valueOf_142 : decode cX3_valueOf 142 = .ok (.iload 6, 2) := by decide +kernel
theorem dX3_valueOf_144 : decode cX3_valueOf 144 = .ok (.aload_n 1, 1) := by decide +kernel
theorem dX3_valueOf_145 : decode cX3_valueOf 145 = .ok (.getfield 96, 3) := by decide +kernel
theorem dX3_valueOf_148 : decode cX3_valueOf 148 = .ok (.iload 7, 2) := by decide +kernel
theorem dX3_valueOf_150 : decode cX3_valueOf 150 = .ok (.iaload, 1) := by decide +kernel
theorem dX3_valueOf_151 : decode cX3_valueOf 151 = .ok (.iastore, 1) := by decide +kernel
theorem dX3_valueOf_152 : decode cX3_valueOf 152 = .ok (.iinc 6 1, 3) := by decide +kernel
theorem dX3_valueOf_155 : decode cX3_valueOf 155 = .ok (.goto 146, 3) := by decide +kernel
theorem dX3_valueOf_158 : decode cX3_valueOf 158 = .ok (.iload 8, 2) := by decide +kernel
theorem dX3_valueOf_160 : decode cX3_valueOf 160 = .ok (.bipush 16, 2) := by decide +kernel
theorem dX3_valueOf_162 : decode cX3_valueOf 162 = .ok (.bipush 23, 2) := by decide +kernel
theorem dX3_valueOf_164 : decode cX3_valueOf 164 = .ok (.invokestatic 99, 3) := by decide +kernel
theorem dX3_valueOf_167 : decode cX3_valueOf 167 = .ok (.ifCond .eq 26, 3) := by decide +kernel
theorem dX3_valueOf_170 : decode cX3_valueOf 170 = .ok (.aload_n 0, 1) := by decide +kernel
theorem dX3_valueOf_171 : decode cX3_valueOf 171 = .ok (.getfield 15, 3) := by decide +kernel
theorem dX3_valueOf_174 : decode cX3_valueOf 174 = .ok (.iload 6, 2) := by decide +kernel
theorem dX3_valueOf_176 : decode cX3_valueOf 176 = .ok (.aload_n 0, 1) := by decide +kernel
theorem dX3_valueOf_177 : decode cX3_valueOf 177 = .ok (.getfield 9, 3) := by decide +kernel
theorem dX3_valueOf_180 : decode cX3_valueOf 180 = .ok (.iload 8, 2) := by decide +kernel
theorem dX3_valueOf_182 : decode cX3_valueOf 182 = .ok (.bipush 16, 2) := by decide +kernel
theorem dX3_valueOf_184 : decode cX3_valueOf 184 = .ok (.isub, 1) := by decide +kernel
theorem dX3_valueOf_185 : decode cX3_valueOf 185 = .ok (.iaload, 1) := by decide +kernel
theorem dX3_valueOf_186 : decode cX3_valueOf 186 = .ok (.iastore, 1) := by decide +kernel
theorem dX3_valueOf_187 : decode cX3_valueOf 187 = .ok (.iinc 6 1, 3) := by decide +kernel
theorem dX3_valueOf_190 : decode cX3_valueOf 190 = .ok (.goto 111, 3) := by decide +kernel
theorem dX3_valueOf_193 : decode cX3_valueOf 193 = .ok (.iload 8, 2) := by decide +kernel
theorem dX3_valueOf_195 : decode cX3_valueOf 195 = .ok (.bipush 38, 2) := by decide +kernel
theorem dX3_valueOf_197 : decode cX3_valueOf 197 = .ok (.if_icmp .ne 30, 3) := by decide +kernel
theorem dX3_valueOf_200 : decode cX3_valueOf 200 = .ok (.iload 6, 2) := by decide +kernel
theorem dX3_valueOf_202 : decode cX3_valueOf 202 = .ok (.ifCond .le 25, 3) := by decide +kernel
theorem dX3_valueOf_205 : decode cX3_valueOf 205 = .ok (.aload_n 0, 1) := by decide +kernel
theorem dX3_valueOf_206 : decode cX3_valueOf 206 = .ok (.getfield 15, 3) := by decide +kernel
theorem dX3_valueOf_209 : decode cX3_valueOf 209 = .ok (.iload 6, 2) := by decide +kernel
theorem dX3_valueOf_211 : decode cX3_valueOf 211 = .ok (.iconst 1, 1) := by decide +kernel
theorem dX3_valueOf_212 : decode cX3_valueOf 212 = .ok (.isub, 1) := by decide +kernel
theorem dX3_valueOf_213 : decode cX3_valueOf 213 = .ok (.aload_n 0, 1) := by decide +kernel
theorem dX3_valueOf_214 : decode cX3_valueOf 214 = .ok (.getfield 15, 3) := by decide +kernel
theorem dX3_valueOf_217 : decode cX3_valueOf 217 = .ok (.iload 6, 2) := by decide +kernel
theorem dX3_valueOf_219 : decode cX3_valueOf 219 = .ok (.iconst 1, 1) := by decide +kernel
theorem dX3_valueOf_220 : decode cX3_valueOf 220 = .ok (.isub, 1) := by decide +kernel
theorem dX3_valueOf_221 : decode cX3_valueOf 221 = .ok (.iaload, 1) := by decide +kernel
theorem dX3_valueOf_222 : decode cX3_valueOf 222 = .ok (.ineg, 1) := by decide +kernel
theorem dX3_valueOf_223 : decode cX3_valueOf 223 = .ok (.iastore, 1) := by decide +kernel
theorem dX3_valueOf_224 : decode cX3_valueOf 224 = .ok (.goto 77, 3) := by decide +kernel
theorem dX3_valueOf_227 : decode cX3_valueOf 227 = .ok (.iload 8, 2) := by decide +kernel
theorem dX3_valueOf_229 : decode cX3_valueOf 229 = .ok (.bipush 35, 2) := by decide +kernel
theorem dX3_valueOf_231 : decode cX3_valueOf 231 = .ok (.if_icmp .ne 31, 3) := by decide +kernel
theorem dX3_valueOf_234 : decode cX3_valueOf 234 = .ok (.iload 6, 2) := by decide +kernel
theorem dX3_valueOf_236 : decode cX3_valueOf 236 = .ok (.ifCond .le 26, 3) := by decide +kernel
theorem dX3_valueOf_239 : decode cX3_valueOf 239 = .ok (.aload_n 0, 1) := by decide +kernel
theorem dX3_valueOf_240 : decode cX3_valueOf 240 = .ok (.getfield 15, 3) := by decide +kernel
theorem dX3_valueOf_243 : decode cX3_valueOf 243 = .ok (.iload 6, 2) := by decide +kernel
theorem dX3_valueOf_245 : decode cX3_valueOf 245 = .ok (.iconst 1, 1) := by decide +kernel
theorem dX3_valueOf_246 : decode cX3_valueOf 246 = .ok (.isub, 1) := by decide +kernel
theorem dX3_valueOf_247 : decode cX3_valueOf 247 = .ok (.iconst 1, 1) := by decide +kernel
theorem dX3_valueOf_248 : decode cX3_valueOf 248 = .ok (.aload_n 0, 1) := by decide +kernel
theorem dX3_valueOf_249 : decode cX3_valueOf 249 = .ok (.getfield 15, 3) := by decide +kernel
theorem dX3_valueOf_252 : decode cX3_valueOf 252 = .ok (.iload 6, 2) := by decide +kernel
theorem dX3_valueOf_254 : decode cX3_valueOf 254 = .ok (.iconst 1, 1) := by decide +kernel
theorem dX3_valueOf_255 : decode cX3_valueOf 255 = .ok (.isub, 1) := by decide +kernel
theorem dX3_valueOf_256 : decode cX3_valueOf 256 = .ok (.iaload, 1) := by decide +kernel
theorem dX3_valueOf_257 : decode cX3_valueOf 257 = .ok (.isub, 1) := by decide +kernel
theorem dX3_valueOf_258 : decode cX3_valueOf 258 = .ok (.iastore, 1) := by decide +kernel
theorem dX3_valueOf_259 : decode cX3_valueOf 259 = .ok (.goto 42, 3) := by decide +kernel
theorem dX3_valueOf_262 : decode cX3_valueOf 262 = .ok (.iload 6, 2) := by decide +kernel
theorem dX3_valueOf_264 : decode cX3_valueOf 264 = .ok (.iconst 1, 1) := by decide +kernel
theorem dX3_valueOf_265 : decode cX3_valueOf 265 = .ok (.if_icmp .le 36, 3) := by decide +kernel
theorem dX3_valueOf_268 : decode cX3_valueOf 268 = .ok (.iinc 6 (-1), 3) := by decide +kernel
theorem dX3_valueOf_271 : decode cX3_valueOf 271 = .ok (.aload_n 0, 1) := by decide +kernel
theorem dX3_valueOf_272 : decode cX3_valueOf 272 = .ok (.getfield 15, 3) := by decide +kernel
theorem dX3_valueOf_275 : decode cX3_valueOf 275 = .ok (.iload 6, 2) := by decide +kernel
theorem dX3_valueOf_277 : decode cX3_valueOf 277 = .ok (.iconst 1, 1) := by decide +kernel
theorem dX3_valueOf_278 : decode cX3_valueOf 278 = .ok (.isub, 1) := by decide +kernel
theorem dX3_valueOf_279 : decode cX3_valueOf 279 = .ok (.iload 8, 2) := by decide +kernel
theorem dX3_valueOf_281 : decode cX3_valueOf 281 = .ok (.aload_n 0, 1) := by decide +kernel
theorem dX3_valueOf_282 : decode cX3_valueOf 282 = .ok (.getfield 15, 3) := by decide +kernel
theorem dX3_valueOf_285 : decode cX3_valueOf 285 = .ok (.iload 6, 2) := by decide +kernel
theorem dX3_valueOf_287 : decode cX3_valueOf 287 = .ok (.iconst 1, 1) := by decide +kernel
theorem dX3_valueOf_288 : decode cX3_valueOf 288 = .ok (.isub, 1) := by decide +kernel
theorem dX3_valueOf_289 : decode cX3_valueOf 289 = .ok (.iaload, 1) := by decide +kernel
theorem dX3_valueOf_290 : decode cX3_valueOf 290 = .ok (.aload_n 0, 1) := by decide +kernel
theorem dX3_valueOf_291 : decode cX3_valueOf 291 = .ok (.getfield 15, 3) := by decide +kernel
theorem dX3_valueOf_294 : decode cX3_valueOf 294 = .ok (.iload 6, 2) := by decide +kernel
theorem dX3_valueOf_296 : decode cX3_valueOf 296 = .ok (.iaload, 1) := by decide +kernel
theorem dX3_valueOf_297 : decode cX3_valueOf 297 = .ok (.invokestatic 103, 3) := by decide +kernel
theorem dX3_valueOf_300 : decode cX3_valueOf 300 = .ok (.iastore, 1) := by decide +kernel
theorem dX3_valueOf_301 : decode cX3_valueOf 301 = .ok (.iinc 7 1, 3) := by decide +kernel
theorem dX3_valueOf_304 : decode cX3_valueOf 304 = .ok (.goto (-199), 3) := by decide +kernel
theorem dX3_valueOf_307 : decode cX3_valueOf 307 = .ok (.aload_n 0, 1) := by decide +kernel
theorem dX3_valueOf_308 : decode cX3_valueOf 308 = .ok (.getfield 15, 3) := by decide +kernel
theorem dX3_valueOf_311 : decode cX3_valueOf 311 = .ok (.iconst 0, 1) := by decide +kernel
theorem dX3_valueOf_312 : decode cX3_valueOf 312 = .ok (.iaload, 1) := by decide +kernel
theorem dX3_valueOf_313 : decode cX3_valueOf 313 = .ok (.ireturn, 1) := by decide +kernel
def lX3_valueOf_227 (F : Nat) (K105 : mS → Int32 → Int32 → Int32 → Option (mS × Int32)) (K262 : mS → Int32 → Int32 → Int32 → Int32 → Option (mS × Int32)) (t : Nat) (a1 : Nat) (a2 : Int32) (a3 : Nat) (a4 : Int32) (S : mS) (v5 : Int32) (v6 : Int32) (v7 : Int32) (v8 : Int32) : Option (mS × Int32) := if v8 = (35 : Int32) then (if v6 ≤ 0 then (K262 S v5 v6 v7 v8) else (ck (inb (v6 - (1 : Int32)) 300) (ck (inb (v6 - (1 : Int32)) 300) (stp (sI S (t + 2) (v6 - (1 : Int32)).toNatClampNeg ((1 : Int32) - (S.1 (t + 2) (v6 - (1 : Int32)).toNatClampNeg))) fun S3 => K105 S3 v5 v6 (v7 + 1))))) else (K262 S v5 v6 v7 v8)
set_option maxHeartbeats 4000000 in
set_option maxRecDepth 100000 in
theorem gX3_valueOf_227 {x : mX} {F : Nat} {t : Nat} {a1 : Nat} {a2 : Int32} {a3 : Nat} {a4 : Int32} {K105 : mS → Int32 → Int32 → Int32 → Option (mS × Int32)} {K262 : mS → Int32 → Int32 → Int32 → Int32 → Option (mS × Int32)} {R : mS × Int32} (ht : kd0 t = 3) (ha1 : kd0 a1 = 5) (ha3 : kd0 a3 = 6) (hK105 : ∀ (S : mS) (v5 : Int32) (v6 : Int32) (v7 : Int32) , K105 S v5 v6 v7 = some R → mG x μX3_valueOf 3 0 0 (mQe R.1 (some (.int R.2))) 0 0 E0 S 105 [(0, .ref (t)), (1, .ref (a1)), (5, .int (v5)), (6, .int (v6)), (7, .int (v7))] []) (hK262 : ∀ (S : mS) (v5 : Int32) (v6 : Int32) (v7 : Int32) (v8 : Int32) , K262 S v5 v6 v7 v8 = some R → mG x μX3_valueOf 3 0 0 (mQe R.1 (some (.int R.2))) 0 0 E0 S 262 [(0, .ref (t)), (1, .ref (a1)), (5, .int (v5)), (6, .int (v6)), (7, .int (v7)), (8, .int (v8))] []) (S : mS) (v5 : Int32) (v6 : Int32) (v7 : Int32) (v8 : Int32)  (h : lX3_valueOf_227 F K105 K262 t a1 a2 a3 a4 S v5 v6 v7 v8 = some R) : mG x μX3_valueOf 3 0 0 (mQe R.1 (some (.int R.2))) 0 0 E0 S 227 [(0, .ref (t)), (1, .ref (a1)), (5, .int (v5)), (6, .int (v6)), (7, .int (v7)), (8, .int (v8))] [] := by
  unfold lX3_valueOf_227 at h
  refine mG.iload 5 dX3_valueOf_227 rfl ?_
  refine mG.bipush (v := 35) dX3_valueOf_229 (by decide) ?_
  refine mG.icmp_ne 262 dX3_valueOf_231 (by decide) (fun c5 => ?_) (fun c5 => ?_)
  · replace h := itn c5 h
    refine mG.sub (lv2 := [(0, .ref (t)), (1, .ref (a1)), (5, .int (v5)), (6, .int (v6)), (7, .int (v7)), (8, .int (v8))]) [0, 1, 2, 3, 4, 5] rfl ?_
    exact hK262 S v5 v6 v7 v8  h
  · replace h := itp c5 h
    refine mG.iload 3 dX3_valueOf_234 rfl ?_
    refine mG.if_le 262 dX3_valueOf_236 (by decide) (fun c4 => ?_) (fun c4 => ?_)
    · replace h := itp c4 h
      refine mG.sub (lv2 := [(0, .ref (t)), (1, .ref (a1)), (5, .int (v5)), (6, .int (v6)), (7, .int (v7)), (8, .int (v8))]) [0, 1, 2, 3, 4, 5] rfl ?_
      exact hK262 S v5 v6 v7 v8  h
    · replace h := itn c4 h
      refine mG.aload_n 0 dX3_valueOf_239 rfl ?_
      refine mG.get (v := .ref (t + 2)) dX3_valueOf_240 mfX3_15 ht (lr3_stack ht) ?_
      refine mG.iload 3 dX3_valueOf_243 rfl ?_
      refine mG.iconst (v := 1) dX3_valueOf_245 rfl ?_
      refine mG.isub dX3_valueOf_246 ?_
      refine mG.iconst (v := 1) dX3_valueOf_247 rfl ?_
      refine mG.aload_n 0 dX3_valueOf_248 rfl ?_
      refine mG.get (v := .ref (t + 2)) dX3_valueOf_249 mfX3_15 ht (lr3_stack ht) ?_
      refine mG.iload 3 dX3_valueOf_252 rfl ?_
      refine mG.iconst (v := 1) dX3_valueOf_254 rfl ?_
      refine mG.isub dX3_valueOf_255 ?_
      obtain ⟨b1, h⟩ := ckp h
      refine mG.iald dX3_valueOf_256 (lk3_stack ht) (ll3_stack ht) (inbp b1) ?_
      refine mG.isub dX3_valueOf_257 ?_
      obtain ⟨b2, h⟩ := ckp h
      obtain ⟨S3, hS3, h⟩ := stpp h
      refine mG.iast dX3_valueOf_258 (lk3_stack ht) (ll3_stack ht) (inbp b2) hS3 ?_
      refine mG.goto 301 dX3_valueOf_259 (by decide) ?_
      refine mG.iinc 4 (u := v7 + 1) (lv2 := [(7, .int (v7 + 1)), (0, .ref (t)), (1, .ref (a1)), (5, .int (v5)), (6, .int (v6)), (8, .int (v8))]) dX3_valueOf_301 rfl rfl (by decide) rfl ?_
      refine mG.goto 105 dX3_valueOf_304 (by decide) ?_
      refine mG.sub (lv2 := [(0, .ref (t)), (1, .ref (a1)), (5, .int (v5)), (6, .int (v6)), (7, .int (v7 + 1))]) [1, 2, 3, 4, 0] rfl ?_
      exact hK105 S3 v5 v6 (v7 + 1)  h
def lX3_valueOf_262 (F : Nat) (K105 : mS → Int32 → Int32 → Int32 → Option (mS × Int32)) (t : Nat) (a1 : Nat) (a2 : Int32) (a3 : Nat) (a4 : Int32) (S : mS) (v5 : Int32) (v6 : Int32) (v7 : Int32) (v8 : Int32) : Option (mS × Int32) := if v6 ≤ (1 : Int32) then (K105 S v5 v6 (v7 + 1)) else (ck (inb ((v6 + (-1)) - (1 : Int32)) 300) (ck (inb (v6 + (-1)) 300) (bd (f_X3_joined F S v8 (S.1 (t + 2) ((v6 + (-1)) - (1 : Int32)).toNatClampNeg) (S.1 (t + 2) (v6 + (-1)).toNatClampNeg)) fun q3 => ck (inb ((v6 + (-1)) - (1 : Int32)) 300) (stp (sI S (t + 2) ((v6 + (-1)) - (1 : Int32)).toNatClampNeg q3) fun S5 => K105 S5 v5 (v6 + (-1)) (v7 + 1)))))
set_option maxHeartbeats 4000000 in
set_option maxRecDepth 100000 in
theorem gX3_valueOf_262 {x : mX} {F : Nat} {t : Nat} {a1 : Nat} {a2 : Int32} {a3 : Nat} {a4 : Int32} {K105 : mS → Int32 → Int32 → Int32 → Option (mS × Int32)} {R : mS × Int32} (ht : kd0 t = 3) (ha1 : kd0 a1 = 5) (ha3 : kd0 a3 = 6) (hK105 : ∀ (S : mS) (v5 : Int32) (v6 : Int32) (v7 : Int32) , K105 S v5 v6 v7 = some R → mG x μX3_valueOf 3 0 0 (mQe R.1 (some (.int R.2))) 0 0 E0 S 105 [(0, .ref (t)), (1, .ref (a1)), (5, .int (v5)), (6, .int (v6)), (7, .int (v7))] []) (S : mS) (v5 : Int32) (v6 : Int32) (v7 : Int32) (v8 : Int32)  (h : lX3_valueOf_262 F K105 t a1 a2 a3 a4 S v5 v6 v7 v8 = some R) : mG x μX3_valueOf 3 0 0 (mQe R.1 (some (.int R.2))) 0 0 E0 S 262 [(0, .ref (t)), (1, .ref (a1)), (5, .int (v5)), (6, .int (v6)), (7, .int (v7)), (8, .int (v8))] [] := by
  unfold lX3_valueOf_262 at h
  refine mG.iload 3 dX3_valueOf_262 rfl ?_
  refine mG.iconst (v := 1) dX3_valueOf_264 rfl ?_
  refine mG.icmp_le 301 dX3_valueOf_265 (by decide) (fun c6 => ?_) (fun c6 => ?_)
  · replace h := itp c6 h
    refine mG.iinc 4 (u := v7 + 1) (lv2 := [(7, .int (v7 + 1)), (0, .ref (t)), (1, .ref (a1)), (5, .int (v5)), (6, .int (v6)), (8, .int (v8))]) dX3_valueOf_301 rfl rfl (by decide) rfl ?_
    refine mG.goto 105 dX3_valueOf_304 (by decide) ?_
    refine mG.sub (lv2 := [(0, .ref (t)), (1, .ref (a1)), (5, .int (v5)), (6, .int (v6)), (7, .int (v7 + 1))]) [1, 2, 3, 4, 0] rfl ?_
    exact hK105 S v5 v6 (v7 + 1)  h
  · replace h := itn c6 h
    refine mG.iinc 3 (u := v6 + (-1)) (lv2 := [(6, .int (v6 + (-1))), (0, .ref (t)), (1, .ref (a1)), (5, .int (v5)), (7, .int (v7)), (8, .int (v8))]) dX3_valueOf_268 rfl rfl (by decide) rfl ?_
    refine mG.aload_n 1 dX3_valueOf_271 rfl ?_
    refine mG.get (v := .ref (t + 2)) dX3_valueOf_272 mfX3_15 ht (lr3_stack ht) ?_
    refine mG.iload 0 dX3_valueOf_275 rfl ?_
    refine mG.iconst (v := 1) dX3_valueOf_277 rfl ?_
    refine mG.isub dX3_valueOf_278 ?_
    refine mG.iload 5 dX3_valueOf_279 rfl ?_
    refine mG.aload_n 1 dX3_valueOf_281 rfl ?_
    refine mG.get (v := .ref (t + 2)) dX3_valueOf_282 mfX3_15 ht (lr3_stack ht) ?_
    refine mG.iload 0 dX3_valueOf_285 rfl ?_
    refine mG.iconst (v := 1) dX3_valueOf_287 rfl ?_
    refine mG.isub dX3_valueOf_288 ?_
    obtain ⟨b1, h⟩ := ckp h
    refine mG.iald dX3_valueOf_289 (lk3_stack ht) (ll3_stack ht) (inbp b1) ?_
    refine mG.aload_n 1 dX3_valueOf_290 rfl ?_
    refine mG.get (v := .ref (t + 2)) dX3_valueOf_291 mfX3_15 ht (lr3_stack ht) ?_
    refine mG.iload 0 dX3_valueOf_294 rfl ?_
    obtain ⟨b2, h⟩ := ckp h
    refine mG.iald dX3_valueOf_296 (lk3_stack ht) (ll3_stack ht) (inbp b2) ?_
    obtain ⟨q3, hq3, h⟩ := bdp h
    refine mG.callS0 (as := [.int (v8), .int (S.1 (t + 2) ((v6 + (-1)) - (1 : Int32)).toNatClampNeg), .int (S.1 (t + 2) (v6 + (-1)).toNatClampNeg)]) (st := [.int ((v6 + (-1)) - (1 : Int32)), .ref (t + 2)]) (S2 := S) (r := some (.int (q3))) dX3_valueOf_297 mbX3_joined wk31_18 wk31_17 rfl rfl (by decide) (Nat.le_of_ble_eq_true rfl) (c_X3_joined  hq3) ?_
    obtain ⟨b4, h⟩ := ckp h
    obtain ⟨S5, hS5, h⟩ := stpp h
    refine mG.iast dX3_valueOf_300 (lk3_stack ht) (ll3_stack ht) (inbp b4) hS5 ?_
    refine mG.iinc 4 (u := v7 + 1) (lv2 := [(7, .int (v7 + 1)), (6, .int (v6 + (-1))), (0, .ref (t)), (1, .ref (a1)), (5, .int (v5)), (8, .int (v8))]) dX3_valueOf_301 rfl rfl (by decide) rfl ?_
    refine mG.goto 105 dX3_valueOf_304 (by decide) ?_
    refine mG.sub (lv2 := [(0, .ref (t)), (1, .ref (a1)), (5, .int (v5)), (6, .int (v6 + (-1))), (7, .int (v7 + 1))]) [2, 3, 4, 1, 0] rfl ?_
    exact hK105 S5 v5 (v6 + (-1)) (v7 + 1)  h
def lX3_valueOf_105 (F : Nat)  (t : Nat) (a1 : Nat) (a2 : Int32) (a3 : Nat) (a4 : Int32) : Nat → mS → Int32 → Int32 → Int32 → Option (mS × Int32)
  | 0, _, _, _, _ => none
  | n + 1, S, v5, v6, v7 => if v5 ≤ v7 then (ck (inb (0 : Int32) 300) (some (S, S.1 (t + 2) (0 : Int32).toNatClampNeg))) else (if (300 : Int32) ≤ v6 then (ck (inb (0 : Int32) 300) (some (S, S.1 (t + 2) (0 : Int32).toNatClampNeg))) else (ck (inb v7 300) (if 0 ≤ ((S.1 (a1 + 1) v7.toNatClampNeg) - (10000 : Int32)) then (if (f_X8_isWithin S ((S.1 (a1 + 1) v7.toNatClampNeg) - (10000 : Int32)) (16 : Int32) (23 : Int32)) = true then (ck (inb (((S.1 (a1 + 1) v7.toNatClampNeg) - (10000 : Int32)) - (16 : Int32)) 8) (ck (inb v6 300) (stp (sI S (t + 2) v6.toNatClampNeg (S.1 (t + 1) (((S.1 (a1 + 1) v7.toNatClampNeg) - (10000 : Int32)) - (16 : Int32)).toNatClampNeg)) fun S11 => lX3_valueOf_105 F  t a1 a2 a3 a4 n S11 v5 (v6 + 1) (v7 + 1)))) else (if ((S.1 (a1 + 1) v7.toNatClampNeg) - (10000 : Int32)) = (38 : Int32) then (if v6 ≤ 0 then (lX3_valueOf_227 F (fun (S : mS) (v5 : Int32) (v6 : Int32) (v7 : Int32) => lX3_valueOf_105 F  t a1 a2 a3 a4 n S v5 v6 v7) (fun (S : mS) (v5 : Int32) (v6 : Int32) (v7 : Int32) (v8 : Int32) => lX3_valueOf_262 F (fun (S : mS) (v5 : Int32) (v6 : Int32) (v7 : Int32) => lX3_valueOf_105 F  t a1 a2 a3 a4 n S v5 v6 v7) t a1 a2 a3 a4 S v5 v6 v7 v8) t a1 a2 a3 a4 S v5 v6 v7 ((S.1 (a1 + 1) v7.toNatClampNeg) - (10000 : Int32))) else (ck (inb (v6 - (1 : Int32)) 300) (ck (inb (v6 - (1 : Int32)) 300) (stp (sI S (t + 2) (v6 - (1 : Int32)).toNatClampNeg (-(S.1 (t + 2) (v6 - (1 : Int32)).toNatClampNeg))) fun S6 => lX3_valueOf_105 F  t a1 a2 a3 a4 n S6 v5 v6 (v7 + 1))))) else (lX3_valueOf_227 F (fun (S : mS) (v5 : Int32) (v6 : Int32) (v7 : Int32) => lX3_valueOf_105 F  t a1 a2 a3 a4 n S v5 v6 v7) (fun (S : mS) (v5 : Int32) (v6 : Int32) (v7 : Int32) (v8 : Int32) => lX3_valueOf_262 F (fun (S : mS) (v5 : Int32) (v6 : Int32) (v7 : Int32) => lX3_valueOf_105 F  t a1 a2 a3 a4 n S v5 v6 v7) t a1 a2 a3 a4 S v5 v6 v7 v8) t a1 a2 a3 a4 S v5 v6 v7 ((S.1 (a1 + 1) v7.toNatClampNeg) - (10000 : Int32))))) else (ck (inb v7 300) (ck (inb v6 300) (stp (sI S (t + 2) v6.toNatClampNeg (S.1 (a1 + 1) v7.toNatClampNeg)) fun S15 => lX3_valueOf_105 F  t a1 a2 a3 a4 n S15 v5 (v6 + 1) (v7 + 1)))))))
set_option maxHeartbeats 4000000 in
set_option maxRecDepth 100000 in
theorem gX3_valueOf_105 {x : mX} {F : Nat} {t : Nat} {a1 : Nat} {a2 : Int32} {a3 : Nat} {a4 : Int32}   {R : mS × Int32} (ht : kd0 t = 3) (ha1 : kd0 a1 = 5) (ha3 : kd0 a3 = 6)  : ∀ (n : Nat) (S : mS) (v5 : Int32) (v6 : Int32) (v7 : Int32), lX3_valueOf_105 F  t a1 a2 a3 a4 n S v5 v6 v7 = some R → mG x μX3_valueOf 3 0 0 (mQe R.1 (some (.int R.2))) 0 0 E0 S 105 [(0, .ref (t)), (1, .ref (a1)), (5, .int (v5)), (6, .int (v6)), (7, .int (v7))] [] := by
  intro n
  induction n with
  | zero =>
    intro S v5 v6 v7 h
    cases h
  | succ n ih =>
    intro S v5 v6 v7 h
    unfold lX3_valueOf_105 at h
    refine mG.iload 4 dX3_valueOf_105 rfl ?_
    refine mG.iload 2 dX3_valueOf_107 rfl ?_
    refine mG.icmp_ge 307 dX3_valueOf_109 (by decide) (fun c18 => ?_) (fun c18 => ?_)
    · replace h := itp c18 h
      refine mG.aload_n 0 dX3_valueOf_307 rfl ?_
      refine mG.get (v := .ref (t + 2)) dX3_valueOf_308 mfX3_15 ht (lr3_stack ht) ?_
      refine mG.iconst (v := 0) dX3_valueOf_311 rfl ?_
      obtain ⟨b1, h⟩ := ckp h
      refine mG.iald dX3_valueOf_312 (lk3_stack ht) (ll3_stack ht) (inbp b1) ?_
      obtain rfl := Option.some.inj h
      exact mG.iret dX3_valueOf_313 rfl ⟨rfl, rfl, rfl⟩
    · replace h := itn c18 h
      refine mG.iload 3 dX3_valueOf_112 rfl ?_
      refine mG.sipush (v := 300) dX3_valueOf_114 (by decide) ?_
      refine mG.icmp_ge 307 dX3_valueOf_117 (by decide) (fun c17 => ?_) (fun c17 => ?_)
      · replace h := itp c17 h
        refine mG.aload_n 0 dX3_valueOf_307 rfl ?_
        refine mG.get (v := .ref (t + 2)) dX3_valueOf_308 mfX3_15 ht (lr3_stack ht) ?_
        refine mG.iconst (v := 0) dX3_valueOf_311 rfl ?_
        obtain ⟨b2, h⟩ := ckp h
        refine mG.iald dX3_valueOf_312 (lk3_stack ht) (ll3_stack ht) (inbp b2) ?_
        obtain rfl := Option.some.inj h
        exact mG.iret dX3_valueOf_313 rfl ⟨rfl, rfl, rfl⟩
      · replace h := itn c17 h
        refine mG.aload_n 1 dX3_valueOf_120 rfl ?_
        refine mG.get (v := .ref (a1 + 1)) dX3_valueOf_121 mfX3_96 ha1 (lr5_code ha1) ?_
        refine mG.iload 4 dX3_valueOf_124 rfl ?_
        obtain ⟨b3, h⟩ := ckp h
        refine mG.iald dX3_valueOf_126 (lk5_code ha1) (ll5_code ha1) (inbp b3) ?_
        refine mG.sipush (v := 10000) dX3_valueOf_127 (by decide) ?_
        refine mG.isub dX3_valueOf_130 ?_
        refine mG.istore (lv2 := [(8, .int ((S.1 (a1 + 1) v7.toNatClampNeg) - (10000 : Int32))), (0, .ref (t)), (1, .ref (a1)), (5, .int (v5)), (6, .int (v6)), (7, .int (v7))]) dX3_valueOf_131 (by decide) rfl ?_
        refine mG.iload 0 dX3_valueOf_133 rfl ?_
        refine mG.if_ge 158 dX3_valueOf_135 (by decide) (fun c16 => ?_) (fun c16 => ?_)
        · replace h := itp c16 h
          refine mG.iload 0 dX3_valueOf_158 rfl ?_
          refine mG.bipush (v := 16) dX3_valueOf_160 (by decide) ?_
          refine mG.bipush (v := 23) dX3_valueOf_162 (by decide) ?_
          refine mG.callSN0 (as := [.int ((S.1 (a1 + 1) v7.toNatClampNeg) - (10000 : Int32)), .int 16, .int 23]) (st := []) (S2 := S) (r := some (.int (bI (f_X8_isWithin S ((S.1 (a1 + 1) v7.toNatClampNeg) - (10000 : Int32)) (16 : Int32) (23 : Int32))))) dX3_valueOf_164 mbX8_isWithin wk6_19 (List.mem_of_getElem? (i := 7) rfl) rfl rfl (by decide) (Nat.le_of_ble_eq_true rfl) (c_X8_isWithin  rfl) ?_
          refine mG.ifz_eq (b := f_X8_isWithin S ((S.1 (a1 + 1) v7.toNatClampNeg) - (10000 : Int32)) (16 : Int32) (23 : Int32)) 193 dX3_valueOf_167 (by decide) (fun c12 => ?_) (fun c12 => ?_)
          · replace h := itn c12 h
            refine mG.iload 0 dX3_valueOf_193 rfl ?_
            refine mG.bipush (v := 38) dX3_valueOf_195 (by decide) ?_
            refine mG.icmp_ne 227 dX3_valueOf_197 (by decide) (fun c8 => ?_) (fun c8 => ?_)
            · replace h := itn c8 h
              refine mG.sub (lv2 := [(0, .ref (t)), (1, .ref (a1)), (5, .int (v5)), (6, .int (v6)), (7, .int (v7)), (8, .int ((S.1 (a1 + 1) v7.toNatClampNeg) - (10000 : Int32)))]) [1, 2, 3, 4, 5, 0] rfl ?_
              exact gX3_valueOf_227 ht ha1 ha3 (fun S v5 v6 v7 h => by exact ih S v5 v6 v7  h) (fun S v5 v6 v7 v8 h => by exact gX3_valueOf_262 ht ha1 ha3 (fun S v5 v6 v7 h => by exact ih S v5 v6 v7  h)  S v5 v6 v7 v8  h)  S v5 v6 v7 ((S.1 (a1 + 1) v7.toNatClampNeg) - (10000 : Int32))  h
            · replace h := itp c8 h
              refine mG.iload 4 dX3_valueOf_200 rfl ?_
              refine mG.if_le 227 dX3_valueOf_202 (by decide) (fun c7 => ?_) (fun c7 => ?_)
              · replace h := itp c7 h
                refine mG.sub (lv2 := [(0, .ref (t)), (1, .ref (a1)), (5, .int (v5)), (6, .int (v6)), (7, .int (v7)), (8, .int ((S.1 (a1 + 1) v7.toNatClampNeg) - (10000 : Int32)))]) [1, 2, 3, 4, 5, 0] rfl ?_
                exact gX3_valueOf_227 ht ha1 ha3 (fun S v5 v6 v7 h => by exact ih S v5 v6 v7  h) (fun S v5 v6 v7 v8 h => by exact gX3_valueOf_262 ht ha1 ha3 (fun S v5 v6 v7 h => by exact ih S v5 v6 v7  h)  S v5 v6 v7 v8  h)  S v5 v6 v7 ((S.1 (a1 + 1) v7.toNatClampNeg) - (10000 : Int32))  h
              · replace h := itn c7 h
                refine mG.aload_n 1 dX3_valueOf_205 rfl ?_
                refine mG.get (v := .ref (t + 2)) dX3_valueOf_206 mfX3_15 ht (lr3_stack ht) ?_
                refine mG.iload 4 dX3_valueOf_209 rfl ?_
                refine mG.iconst (v := 1) dX3_valueOf_211 rfl ?_
                refine mG.isub dX3_valueOf_212 ?_
                refine mG.aload_n 1 dX3_valueOf_213 rfl ?_
                refine mG.get (v := .ref (t + 2)) dX3_valueOf_214 mfX3_15 ht (lr3_stack ht) ?_
                refine mG.iload 4 dX3_valueOf_217 rfl ?_
                refine mG.iconst (v := 1) dX3_valueOf_219 rfl ?_
                refine mG.isub dX3_valueOf_220 ?_
                obtain ⟨b4, h⟩ := ckp h
                refine mG.iald dX3_valueOf_221 (lk3_stack ht) (ll3_stack ht) (inbp b4) ?_
                refine mG.ineg dX3_valueOf_222 ?_
                obtain ⟨b5, h⟩ := ckp h
                obtain ⟨S6, hS6, h⟩ := stpp h
                refine mG.iast dX3_valueOf_223 (lk3_stack ht) (ll3_stack ht) (inbp b5) hS6 ?_
                refine mG.goto 301 dX3_valueOf_224 (by decide) ?_
                refine mG.iinc 5 (u := v7 + 1) (lv2 := [(7, .int (v7 + 1)), (8, .int ((S.1 (a1 + 1) v7.toNatClampNeg) - (10000 : Int32))), (0, .ref (t)), (1, .ref (a1)), (5, .int (v5)), (6, .int (v6))]) dX3_valueOf_301 rfl rfl (by decide) rfl ?_
                refine mG.goto 105 dX3_valueOf_304 (by decide) ?_
                refine mG.sub (lv2 := [(0, .ref (t)), (1, .ref (a1)), (5, .int (v5)), (6, .int (v6)), (7, .int (v7 + 1))]) [2, 3, 4, 5, 0] rfl ?_
                exact ih S6 v5 v6 (v7 + 1)  h
          · replace h := itp c12 h
            refine mG.aload_n 1 dX3_valueOf_170 rfl ?_
            refine mG.get (v := .ref (t + 2)) dX3_valueOf_171 mfX3_15 ht (lr3_stack ht) ?_
            refine mG.iload 4 dX3_valueOf_174 rfl ?_
            refine mG.aload_n 1 dX3_valueOf_176 rfl ?_
            refine mG.get (v := .ref (t + 1)) dX3_valueOf_177 mfX3_9 ht (lr3_names ht) ?_
            refine mG.iload 0 dX3_valueOf_180 rfl ?_
            refine mG.bipush (v := 16) dX3_valueOf_182 (by decide) ?_
            refine mG.isub dX3_valueOf_184 ?_
            obtain ⟨b9, h⟩ := ckp h
            refine mG.iald dX3_valueOf_185 (lk3_names ht) (ll3_names ht) (inbp b9) ?_
            obtain ⟨b10, h⟩ := ckp h
            obtain ⟨S11, hS11, h⟩ := stpp h
            refine mG.iast dX3_valueOf_186 (lk3_stack ht) (ll3_stack ht) (inbp b10) hS11 ?_
            refine mG.iinc 4 (u := v6 + 1) (lv2 := [(6, .int (v6 + 1)), (8, .int ((S.1 (a1 + 1) v7.toNatClampNeg) - (10000 : Int32))), (0, .ref (t)), (1, .ref (a1)), (5, .int (v5)), (7, .int (v7))]) dX3_valueOf_187 rfl rfl (by decide) rfl ?_
            refine mG.goto 301 dX3_valueOf_190 (by decide) ?_
            refine mG.iinc 5 (u := v7 + 1) (lv2 := [(7, .int (v7 + 1)), (6, .int (v6 + 1)), (8, .int ((S.1 (a1 + 1) v7.toNatClampNeg) - (10000 : Int32))), (0, .ref (t)), (1, .ref (a1)), (5, .int (v5))]) dX3_valueOf_301 rfl rfl (by decide) rfl ?_
            refine mG.goto 105 dX3_valueOf_304 (by decide) ?_
            refine mG.sub (lv2 := [(0, .ref (t)), (1, .ref (a1)), (5, .int (v5)), (6, .int (v6 + 1)), (7, .int (v7 + 1))]) [3, 4, 5, 1, 0] rfl ?_
            exact ih S11 v5 (v6 + 1) (v7 + 1)  h
        · replace h := itn c16 h
          refine mG.aload_n 1 dX3_valueOf_138 rfl ?_
          refine mG.get (v := .ref (t + 2)) dX3_valueOf_139 mfX3_15 ht (lr3_stack ht) ?_
          refine mG.iload 4 dX3_valueOf_142 rfl ?_
          refine mG.aload_n 2 dX3_valueOf_144 rfl ?_
          refine mG.get (v := .ref (a1 + 1)) dX3_valueOf_145 mfX3_96 ha1 (lr5_code ha1) ?_
          refine mG.iload 5 dX3_valueOf_148 rfl ?_
          obtain ⟨b13, h⟩ := ckp h
          refine mG.iald dX3_valueOf_150 (lk5_code ha1) (ll5_code ha1) (inbp b13) ?_
          obtain ⟨b14, h⟩ := ckp h
          obtain ⟨S15, hS15, h⟩ := stpp h
          refine mG.iast dX3_valueOf_151 (lk3_stack ht) (ll3_stack ht) (inbp b14) hS15 ?_
          refine mG.iinc 4 (u := v6 + 1) (lv2 := [(6, .int (v6 + 1)), (8, .int ((S.1 (a1 + 1) v7.toNatClampNeg) - (10000 : Int32))), (0, .ref (t)), (1, .ref (a1)), (5, .int (v5)), (7, .int (v7))]) dX3_valueOf_152 rfl rfl (by decide) rfl ?_
          refine mG.goto 301 dX3_valueOf_155 (by decide) ?_
          refine mG.iinc 5 (u := v7 + 1) (lv2 := [(7, .int (v7 + 1)), (6, .int (v6 + 1)), (8, .int ((S.1 (a1 + 1) v7.toNatClampNeg) - (10000 : Int32))), (0, .ref (t)), (1, .ref (a1)), (5, .int (v5))]) dX3_valueOf_301 rfl rfl (by decide) rfl ?_
          refine mG.goto 105 dX3_valueOf_304 (by decide) ?_
          refine mG.sub (lv2 := [(0, .ref (t)), (1, .ref (a1)), (5, .int (v5)), (6, .int (v6 + 1)), (7, .int (v7 + 1))]) [3, 4, 5, 1, 0] rfl ?_
          exact ih S15 v5 (v6 + 1) (v7 + 1)  h
def f_X3_valueOf (F : Nat) (S : mS) (t : Nat) (a1 : Nat) (a2 : Int32) (a3 : Nat) (a4 : Int32) : Option (mS × Int32) := if (f_X6_told S a3 a4) = true then (ck (inb (2 : Int32) 8) (stp (sI S (t + 1) (2 : Int32).toNatClampNeg a4) fun S2 => ck (inb a4 7) (ck (inb (3 : Int32) 8) (stp (sI S2 (t + 1) (3 : Int32).toNatClampNeg (S2.1 (a3 + 2) a4.toNatClampNeg)) fun S5 => ck (inb a4 7) (ck (inb (4 : Int32) 8) (stp (sI S5 (t + 1) (4 : Int32).toNatClampNeg (S5.1 (a3 + 3) a4.toNatClampNeg)) fun S8 => ck (inb a4 7) (ck (inb (5 : Int32) 8) (stp (sI S8 (t + 1) (5 : Int32).toNatClampNeg (f_J6_bitCount_0f7a4 S8 (S8.1 (a3 + 1) a4.toNatClampNeg))) fun S11 => ck (inb (7 : Int32) 8) (stp (sI S11 (t + 1) (7 : Int32).toNatClampNeg (f_X3_openBeside S11 t a4)) fun S13 => ck (inb (a2 - (24 : Int32)) 3) (ck (inb (a2 - (24 : Int32)) 3) (lX3_valueOf_105 F  t a1 a2 a3 a4 F S13 (imin (300 : Int32) (S13.1 (a1 + 3) (a2 - (24 : Int32)).toNatClampNeg)) (0 : Int32) (S13.1 (a1 + 2) (a2 - (24 : Int32)).toNatClampNeg)))))))))))) else (some (S, (0 : Int32)))
set_option maxHeartbeats 4000000 in
set_option maxRecDepth 100000 in
theorem c_X3_valueOf {F : Nat} {S : mS} {t : Nat} {a1 : Nat} {a2 : Int32} {a3 : Nat} {a4 : Int32} {R : mS × Int32} (ht : kd0 t = 3) (ha1 : kd0 a1 = 5) (ha3 : kd0 a3 = 6) (h : f_X3_valueOf F S t a1 a2 a3 a4 = some R) : mCt μX3_valueOf 3 0 0 E0 S [.ref (t), .ref (a1), .int (a2), .ref (a3), .int (a4)] (mQe R.1 (some (.int R.2))) := by
  unfold f_X3_valueOf at h
  refine mCt.of (by decide) (Nat.le_of_ble_eq_true rfl) ?_
  intro x
  refine mG.aload_n 3 dX3_valueOf_0 rfl ?_
  refine mG.iload 4 dX3_valueOf_1 rfl ?_
  refine mG.callV0 (as := [.int (a4)]) (st := []) (S2 := S) (r := some (.int (bI (f_X6_told S a3 a4)))) dX3_valueOf_3 mvX6_told wk30_22 rfl ha3 rfl (by decide) (Nat.le_of_ble_eq_true rfl) (c_X6_told ha3 rfl) ?_
  refine mG.ifz_ne (b := f_X6_told S a3 a4) 11 dX3_valueOf_6 (by decide) (fun c16 => ?_) (fun c16 => ?_)
  · replace h := itp c16 h
    refine mG.aload_n 0 dX3_valueOf_11 rfl ?_
    refine mG.get (v := .ref (t + 1)) dX3_valueOf_12 mfX3_9 ht (lr3_names ht) ?_
    refine mG.iconst (v := 2) dX3_valueOf_15 rfl ?_
    refine mG.iload 4 dX3_valueOf_16 rfl ?_
    obtain ⟨b1, h⟩ := ckp h
    obtain ⟨S2, hS2, h⟩ := stpp h
    refine mG.iast dX3_valueOf_18 (lk3_names ht) (ll3_names ht) (inbp b1) hS2 ?_
    refine mG.aload_n 0 dX3_valueOf_19 rfl ?_
    refine mG.get (v := .ref (t + 1)) dX3_valueOf_20 mfX3_9 ht (lr3_names ht) ?_
    refine mG.iconst (v := 3) dX3_valueOf_23 rfl ?_
    refine mG.aload_n 3 dX3_valueOf_24 rfl ?_
    refine mG.get (v := .ref (a3 + 2)) dX3_valueOf_25 mfX3_74 ha3 (lr6_purse ha3) ?_
    refine mG.iload 4 dX3_valueOf_28 rfl ?_
    obtain ⟨b3, h⟩ := ckp h
    refine mG.iald dX3_valueOf_30 (lk6_purse ha3) (ll6_purse ha3) (inbp b3) ?_
    obtain ⟨b4, h⟩ := ckp h
    obtain ⟨S5, hS5, h⟩ := stpp h
    refine mG.iast dX3_valueOf_31 (lk3_names ht) (ll3_names ht) (inbp b4) hS5 ?_
    refine mG.aload_n 0 dX3_valueOf_32 rfl ?_
    refine mG.get (v := .ref (t + 1)) dX3_valueOf_33 mfX3_9 ht (lr3_names ht) ?_
    refine mG.iconst (v := 4) dX3_valueOf_36 rfl ?_
    refine mG.aload_n 3 dX3_valueOf_37 rfl ?_
    refine mG.get (v := .ref (a3 + 3)) dX3_valueOf_38 mfX3_61 ha3 (lr6_friends ha3) ?_
    refine mG.iload 4 dX3_valueOf_41 rfl ?_
    obtain ⟨b6, h⟩ := ckp h
    refine mG.iald dX3_valueOf_43 (lk6_friends ha3) (ll6_friends ha3) (inbp b6) ?_
    obtain ⟨b7, h⟩ := ckp h
    obtain ⟨S8, hS8, h⟩ := stpp h
    refine mG.iast dX3_valueOf_44 (lk3_names ht) (ll3_names ht) (inbp b7) hS8 ?_
    refine mG.aload_n 0 dX3_valueOf_45 rfl ?_
    refine mG.get (v := .ref (t + 1)) dX3_valueOf_46 mfX3_9 ht (lr3_names ht) ?_
    refine mG.iconst (v := 5) dX3_valueOf_49 rfl ?_
    refine mG.aload_n 3 dX3_valueOf_50 rfl ?_
    refine mG.get (v := .ref (a3 + 1)) dX3_valueOf_51 mfX3_87 ha3 (lr6_shut ha3) ?_
    refine mG.iload 4 dX3_valueOf_54 rfl ?_
    obtain ⟨b9, h⟩ := ckp h
    refine mG.iald dX3_valueOf_56 (lk6_shut ha3) (ll6_shut ha3) (inbp b9) ?_
    refine mG.callS0 (as := [.int (S8.1 (a3 + 1) a4.toNatClampNeg)]) (st := [.int 5, .ref (t + 1)]) (S2 := S8) (r := some (.int (f_J6_bitCount_0f7a4 S8 (S8.1 (a3 + 1) a4.toNatClampNeg)))) dX3_valueOf_57 mbJ6_bitCount_0f7a4 wk30_6 wk30_5 rfl rfl (by decide) (Nat.le_of_ble_eq_true rfl) (c_J6_bitCount_0f7a4  rfl) ?_
    obtain ⟨b10, h⟩ := ckp h
    obtain ⟨S11, hS11, h⟩ := stpp h
    refine mG.iast dX3_valueOf_60 (lk3_names ht) (ll3_names ht) (inbp b10) hS11 ?_
    refine mG.aload_n 0 dX3_valueOf_61 rfl ?_
    refine mG.get (v := .ref (t + 1)) dX3_valueOf_62 mfX3_9 ht (lr3_names ht) ?_
    refine mG.bipush (v := 7) dX3_valueOf_65 (by decide) ?_
    refine mG.aload_n 0 dX3_valueOf_67 rfl ?_
    refine mG.iload 4 dX3_valueOf_68 rfl ?_
    refine mG.callV0 (as := [.int (a4)]) (st := [.int 7, .ref (t + 1)]) (S2 := S11) (r := some (.int (f_X3_openBeside S11 t a4))) dX3_valueOf_70 mvX3_openBeside wk31_9 rfl ht rfl (by decide) (Nat.le_of_ble_eq_true rfl) (c_X3_openBeside ht rfl) ?_
    obtain ⟨b12, h⟩ := ckp h
    obtain ⟨S13, hS13, h⟩ := stpp h
    refine mG.iast dX3_valueOf_73 (lk3_names ht) (ll3_names ht) (inbp b12) hS13 ?_
    refine mG.sipush (v := 300) dX3_valueOf_74 (by decide) ?_
    refine mG.aload_n 1 dX3_valueOf_77 rfl ?_
    refine mG.get (v := .ref (a1 + 3)) dX3_valueOf_78 mfX3_90 ha1 (lr5_lawTo ha1) ?_
    refine mG.iload_n 2 dX3_valueOf_81 rfl ?_
    refine mG.bipush (v := 24) dX3_valueOf_82 (by decide) ?_
    refine mG.isub dX3_valueOf_84 ?_
    obtain ⟨b14, h⟩ := ckp h
    refine mG.iald dX3_valueOf_85 (lk5_lawTo ha1) (ll5_lawTo ha1) (inbp b14) ?_
    refine mG.mmin dX3_valueOf_86 wk31_6 (by decide) (Nat.le_of_ble_eq_true rfl) (Nat.le_refl _) (Nat.le_refl _) ?_
    refine mG.istore (lv2 := [(5, .int (imin (300 : Int32) (S13.1 (a1 + 3) (a2 - (24 : Int32)).toNatClampNeg))), (0, .ref (t)), (1, .ref (a1)), (2, .int (a2)), (3, .ref (a3)), (4, .int (a4))]) dX3_valueOf_89 (by decide) rfl ?_
    refine mG.iconst (v := 0) dX3_valueOf_91 rfl ?_
    refine mG.istore (lv2 := [(6, .int 0), (5, .int (imin (300 : Int32) (S13.1 (a1 + 3) (a2 - (24 : Int32)).toNatClampNeg))), (0, .ref (t)), (1, .ref (a1)), (2, .int (a2)), (3, .ref (a3)), (4, .int (a4))]) dX3_valueOf_92 (by decide) rfl ?_
    refine mG.aload_n 3 dX3_valueOf_94 rfl ?_
    refine mG.get (v := .ref (a1 + 2)) dX3_valueOf_95 mfX3_93 ha1 (lr5_lawFrom ha1) ?_
    refine mG.iload_n 4 dX3_valueOf_98 rfl ?_
    refine mG.bipush (v := 24) dX3_valueOf_99 (by decide) ?_
    refine mG.isub dX3_valueOf_101 ?_
    obtain ⟨b15, h⟩ := ckp h
    refine mG.iald dX3_valueOf_102 (lk5_lawFrom ha1) (ll5_lawFrom ha1) (inbp b15) ?_
    refine mG.istore (lv2 := [(7, .int (S13.1 (a1 + 2) (a2 - (24 : Int32)).toNatClampNeg)), (6, .int 0), (5, .int (imin (300 : Int32) (S13.1 (a1 + 3) (a2 - (24 : Int32)).toNatClampNeg))), (0, .ref (t)), (1, .ref (a1)), (2, .int (a2)), (3, .ref (a3)), (4, .int (a4))]) dX3_valueOf_103 (by decide) rfl ?_
    refine mG.sub (lv2 := [(0, .ref (t)), (1, .ref (a1)), (5, .int (imin (300 : Int32) (S13.1 (a1 + 3) (a2 - (24 : Int32)).toNatClampNeg))), (6, .int 0), (7, .int (S13.1 (a1 + 2) (a2 - (24 : Int32)).toNatClampNeg))]) [3, 4, 2, 1, 0] rfl ?_
    exact gX3_valueOf_105 ht ha1 ha3  F S13 (imin (300 : Int32) (S13.1 (a1 + 3) (a2 - (24 : Int32)).toNatClampNeg)) (0 : Int32) (S13.1 (a1 + 2) (a2 - (24 : Int32)).toNatClampNeg)  h
  · replace h := itn c16 h
    refine mG.iconst (v := 0) dX3_valueOf_9 rfl ?_
    obtain rfl := Option.some.inj h
    exact mG.iret dX3_valueOf_10 rfl ⟨rfl, rfl, rfl⟩
theorem dX3_earnedBy_0 : decode cX3_earnedBy 0 = .ok (.aload_n 1, 1) := by decide +kernel
theorem dX3_earnedBy_1 : decode cX3_earnedBy 1 = .ok (.bipush 24, 2) := by decide +kernel
theorem dX3_earnedBy_3 : decode cX3_earnedBy 3 = .ok (.invokevirtual 37, 3) := by decide +kernel
theorem dX3_earnedBy_6 : decode cX3_earnedBy 6 = .ok (.ifCond .ne 11, 3) := by decide +kernel
theorem dX3_earnedBy_9 : decode cX3_earnedBy 9 = .ok (.iconst 1, 1) := by decide +kernel
theorem dX3_earnedBy_10 : decode cX3_earnedBy 10 = .ok (.aload_n 0, 1) := by decide +kernel
theorem dX3_earnedBy_11 : decode cX3_earnedBy 11 = .ok (.iload_n 3, 1) := by decide +kernel
theorem dX3_earnedBy_12 : decode cX3_earnedBy 12 = .ok (.invokevirtual 42, 3) := by decide +kernel
theorem dX3_earnedBy_15 : decode cX3_earnedBy 15 = .ok (.iadd, 1) := by decide +kernel
theorem dX3_earnedBy_16 : decode cX3_earnedBy 16 = .ok (.ireturn, 1) := by decide +kernel
theorem dX3_earnedBy_17 : decode cX3_earnedBy 17 = .ok (.iconst 0, 1) := by decide +kernel
theorem dX3_earnedBy_18 : decode cX3_earnedBy 18 = .ok (.bipush 99, 2) := by decide +kernel
theorem dX3_earnedBy_20 : decode cX3_earnedBy 20 = .ok (.aload_n 0, 1) := by decide +kernel
theorem dX3_earnedBy_21 : decode cX3_earnedBy 21 = .ok (.aload_n 1, 1) := by decide +kernel
theorem dX3_earnedBy_22 : decode cX3_earnedBy 22 = .ok (.bipush 24, 2) := by decide +kernel
theorem dX3_earnedBy_24 : decode cX3_earnedBy 24 = .ok (.aload_n 2, 1) := by decide +kernel
theorem dX3_earnedBy_25 : decode cX3_earnedBy 25 = .ok (.iload_n 3, 1) := by decide +kernel
theorem dX3_earnedBy_26 : decode cX3_earnedBy 26 = .ok (.invokevirtual 45, 3) := by decide +kernel
theorem dX3_earnedBy_29 : decode cX3_earnedBy 29 = .ok (.invokestatic 49, 3) := by decide +kernel
theorem dX3_earnedBy_32 : decode cX3_earnedBy 32 = .ok (.invokestatic 55, 3) := by decide +kernel
theorem dX3_earnedBy_35 : decode cX3_earnedBy 35 = .ok (.ireturn, 1) := by decide +kernel
def f_X3_earnedBy (F : Nat) (S : mS) (t : Nat) (a1 : Nat) (a2 : Nat) (a3 : Int32) : Option (mS × Int32) := bd (f_X5_has F S a1 (24 : Int32)) fun q1 => if q1 = true then (bd (f_X3_valueOf F S t a1 (24 : Int32) a2 a3) fun q2 => some (q2.1, imax (0 : Int32) (imin (99 : Int32) q2.2))) else (some (S, (1 : Int32) + (f_X3_openBeside S t a3)))
set_option maxHeartbeats 4000000 in
set_option maxRecDepth 100000 in
theorem c_X3_earnedBy {F : Nat} {S : mS} {t : Nat} {a1 : Nat} {a2 : Nat} {a3 : Int32} {R : mS × Int32} (ht : kd0 t = 3) (ha1 : kd0 a1 = 5) (ha2 : kd0 a2 = 6) (h : f_X3_earnedBy F S t a1 a2 a3 = some R) : mCt μX3_earnedBy 4 0 0 E0 S [.ref (t), .ref (a1), .ref (a2), .int (a3)] (mQe R.1 (some (.int R.2))) := by
  unfold f_X3_earnedBy at h
  refine mCt.of (by decide) (Nat.le_of_ble_eq_true rfl) ?_
  intro x
  refine mG.aload_n 1 dX3_earnedBy_0 rfl ?_
  refine mG.bipush (v := 24) dX3_earnedBy_1 (by decide) ?_
  obtain ⟨q1, hq1, h⟩ := bdp h
  refine mG.callV0 (as := [.int 24]) (st := []) (S2 := S) (r := some (.int (bI (q1)))) dX3_earnedBy_3 mvX5_has wk30_21 rfl ha1 rfl (by decide) (Nat.le_of_ble_eq_true rfl) (c_X5_has ha1 hq1) ?_
  refine mG.ifz_ne (b := q1) 17 dX3_earnedBy_6 (by decide) (fun c3 => ?_) (fun c3 => ?_)
  · replace h := itp c3 h
    refine mG.iconst (v := 0) dX3_earnedBy_17 rfl ?_
    refine mG.bipush (v := 99) dX3_earnedBy_18 (by decide) ?_
    refine mG.aload_n 0 dX3_earnedBy_20 rfl ?_
    refine mG.aload_n 1 dX3_earnedBy_21 rfl ?_
    refine mG.bipush (v := 24) dX3_earnedBy_22 (by decide) ?_
    refine mG.aload_n 2 dX3_earnedBy_24 rfl ?_
    refine mG.iload_n 3 dX3_earnedBy_25 rfl ?_
    obtain ⟨q2, hq2, h⟩ := bdp h
    refine mG.callV0 (as := [.ref (a1), .int 24, .ref (a2), .int (a3)]) (st := [.int 99, .int 0]) (S2 := q2.1) (r := some (.int (q2.2))) dX3_earnedBy_26 mvX3_valueOf wk30_23 rfl ht rfl (by decide) (Nat.le_of_ble_eq_true rfl) (c_X3_valueOf ht ha1 ha2 hq2) ?_
    refine mG.mmin dX3_earnedBy_29 wk31_6 (by decide) (Nat.le_of_ble_eq_true rfl) (Nat.le_refl _) (Nat.le_refl _) ?_
    refine mG.mmax dX3_earnedBy_32 wk40_2 (by decide) (Nat.le_of_ble_eq_true rfl) (Nat.le_refl _) (Nat.le_refl _) ?_
    obtain rfl := Option.some.inj h
    exact mG.iret dX3_earnedBy_35 rfl ⟨rfl, rfl, rfl⟩
  · replace h := itn c3 h
    refine mG.iconst (v := 1) dX3_earnedBy_9 rfl ?_
    refine mG.aload_n 0 dX3_earnedBy_10 rfl ?_
    refine mG.iload_n 3 dX3_earnedBy_11 rfl ?_
    refine mG.callV0 (as := [.int (a3)]) (st := [.int 1]) (S2 := S) (r := some (.int (f_X3_openBeside S t a3))) dX3_earnedBy_12 mvX3_openBeside wk31_9 rfl ht rfl (by decide) (Nat.le_of_ble_eq_true rfl) (c_X3_openBeside ht rfl) ?_
    refine mG.iadd dX3_earnedBy_15 ?_
    obtain rfl := Option.some.inj h
    exact mG.iret dX3_earnedBy_16 rfl ⟨rfl, rfl, rfl⟩
theorem dX3_lostBy_0 : decode cX3_lostBy 0 = .ok (.aload_n 1, 1) := by decide +kernel
theorem dX3_lostBy_1 : decode cX3_lostBy 1 = .ok (.bipush 25, 2) := by decide +kernel
theorem dX3_lostBy_3 : decode cX3_lostBy 3 = .ok (.invokevirtual 37, 3) := by decide +kernel
theorem dX3_lostBy_6 : decode cX3_lostBy 6 = .ok (.ifCond .ne 5, 3) := by decide +kernel
theorem dX3_lostBy_9 : decode cX3_lostBy 9 = .ok (.iconst 2, 1) := by decide +kernel
theorem dX3_lostBy_10 : decode cX3_lostBy 10 = .ok (.ireturn, 1) := by decide +kernel
theorem dX3_lostBy_11 : decode cX3_lostBy 11 = .ok (.iconst 0, 1) := by decide +kernel
theorem dX3_lostBy_12 : decode cX3_lostBy 12 = .ok (.bipush 99, 2) := by decide +kernel
theorem dX3_lostBy_14 : decode cX3_lostBy 14 = .ok (.aload_n 0, 1) := by decide +kernel
theorem dX3_lostBy_15 : decode cX3_lostBy 15 = .ok (.aload_n 1, 1) := by decide +kernel
theorem dX3_lostBy_16 : decode cX3_lostBy 16 = .ok (.bipush 25, 2) := by decide +kernel
theorem dX3_lostBy_18 : decode cX3_lostBy 18 = .ok (.aload_n 2, 1) := by decide +kernel
theorem dX3_lostBy_19 : decode cX3_lostBy 19 = .ok (.iload_n 3, 1) := by decide +kernel
theorem dX3_lostBy_20 : decode cX3_lostBy 20 = .ok (.invokevirtual 45, 3) := by decide +kernel
theorem dX3_lostBy_23 : decode cX3_lostBy 23 = .ok (.invokestatic 49, 3) := by decide +kernel
theorem dX3_lostBy_26 : decode cX3_lostBy 26 = .ok (.invokestatic 55, 3) := by decide +kernel
theorem dX3_lostBy_29 : decode cX3_lostBy 29 = .ok (.ireturn, 1) := by decide +kernel
def f_X3_lostBy (F : Nat) (S : mS) (t : Nat) (a1 : Nat) (a2 : Nat) (a3 : Int32) : Option (mS × Int32) := bd (f_X5_has F S a1 (25 : Int32)) fun q1 => if q1 = true then (bd (f_X3_valueOf F S t a1 (25 : Int32) a2 a3) fun q2 => some (q2.1, imax (0 : Int32) (imin (99 : Int32) q2.2))) else (some (S, (2 : Int32)))
set_option maxHeartbeats 4000000 in
set_option maxRecDepth 100000 in
theorem c_X3_lostBy {F : Nat} {S : mS} {t : Nat} {a1 : Nat} {a2 : Nat} {a3 : Int32} {R : mS × Int32} (ht : kd0 t = 3) (ha1 : kd0 a1 = 5) (ha2 : kd0 a2 = 6) (h : f_X3_lostBy F S t a1 a2 a3 = some R) : mCt μX3_lostBy 4 0 0 E0 S [.ref (t), .ref (a1), .ref (a2), .int (a3)] (mQe R.1 (some (.int R.2))) := by
  unfold f_X3_lostBy at h
  refine mCt.of (by decide) (Nat.le_of_ble_eq_true rfl) ?_
  intro x
  refine mG.aload_n 1 dX3_lostBy_0 rfl ?_
  refine mG.bipush (v := 25) dX3_lostBy_1 (by decide) ?_
  obtain ⟨q1, hq1, h⟩ := bdp h
  refine mG.callV0 (as := [.int 25]) (st := []) (S2 := S) (r := some (.int (bI (q1)))) dX3_lostBy_3 mvX5_has wk30_21 rfl ha1 rfl (by decide) (Nat.le_of_ble_eq_true rfl) (c_X5_has ha1 hq1) ?_
  refine mG.ifz_ne (b := q1) 11 dX3_lostBy_6 (by decide) (fun c3 => ?_) (fun c3 => ?_)
  · replace h := itp c3 h
    refine mG.iconst (v := 0) dX3_lostBy_11 rfl ?_
    refine mG.bipush (v := 99) dX3_lostBy_12 (by decide) ?_
    refine mG.aload_n 0 dX3_lostBy_14 rfl ?_
    refine mG.aload_n 1 dX3_lostBy_15 rfl ?_
    refine mG.bipush (v := 25) dX3_lostBy_16 (by decide) ?_
    refine mG.aload_n 2 dX3_lostBy_18 rfl ?_
    refine mG.iload_n 3 dX3_lostBy_19 rfl ?_
    obtain ⟨q2, hq2, h⟩ := bdp h
    refine mG.callV0 (as := [.ref (a1), .int 25, .ref (a2), .int (a3)]) (st := [.int 99, .int 0]) (S2 := q2.1) (r := some (.int (q2.2))) dX3_lostBy_20 mvX3_valueOf wk30_23 rfl ht rfl (by decide) (Nat.le_of_ble_eq_true rfl) (c_X3_valueOf ht ha1 ha2 hq2) ?_
    refine mG.mmin dX3_lostBy_23 wk31_6 (by decide) (Nat.le_of_ble_eq_true rfl) (Nat.le_refl _) (Nat.le_refl _) ?_
    refine mG.mmax dX3_lostBy_26 wk40_2 (by decide) (Nat.le_of_ble_eq_true rfl) (Nat.le_refl _) (Nat.le_refl _) ?_
    obtain rfl := Option.some.inj h
    exact mG.iret dX3_lostBy_29 rfl ⟨rfl, rfl, rfl⟩
  · replace h := itn c3 h
    refine mG.iconst (v := 2) dX3_lostBy_9 rfl ?_
    obtain rfl := Option.some.inj h
    exact mG.iret dX3_lostBy_10 rfl ⟨rfl, rfl, rfl⟩
theorem dX3_letsIn_0 : decode cX3_letsIn 0 = .ok (.aload_n 1, 1) := by decide +kernel
theorem dX3_letsIn_1 : decode cX3_letsIn 1 = .ok (.bipush 26, 2) := by decide +kernel
theorem dX3_letsIn_3 : decode cX3_letsIn 3 = .ok (.invokevirtual 37, 3) := by decide +kernel
theorem dX3_letsIn_6 : decode cX3_letsIn 6 = .ok (.ifCond .ne 28, 3) := by decide +kernel
theorem dX3_letsIn_9 : decode cX3_letsIn 9 = .ok (.aload_n 2, 1) := by decide +kernel
theorem dX3_letsIn_10 : decode cX3_letsIn 10 = .ok (.iload_n 3, 1) := by decide +kernel
theorem dX3_letsIn_11 : decode cX3_letsIn 11 = .ok (.invokevirtual 58, 3) := by decide +kernel
theorem dX3_letsIn_14 : decode cX3_letsIn 14 = .ok (.ifCond .eq 18, 3) := by decide +kernel
theorem dX3_letsIn_17 : decode cX3_letsIn 17 = .ok (.aload_n 2, 1) := by decide +kernel
theorem dX3_letsIn_18 : decode cX3_letsIn 18 = .ok (.getfield 61, 3) := by decide +kernel
theorem dX3_letsIn_21 : decode cX3_letsIn 21 = .ok (.iload_n 3, 1) := by decide +kernel
theorem dX3_letsIn_22 : decode cX3_letsIn 22 = .ok (.iaload, 1) := by decide +kernel
theorem dX3_letsIn_23 : decode cX3_letsIn 23 = .ok (.bipush 50, 2) := by decide +kernel
theorem dX3_letsIn_25 : decode cX3_letsIn 25 = .ok (.if_icmp .ge 7, 3) := by decide +kernel
theorem dX3_letsIn_28 : decode cX3_letsIn 28 = .ok (.iconst 1, 1) := by decide +kernel
theorem dX3_letsIn_29 : decode cX3_letsIn 29 = .ok (.goto 4, 3) := by decide +kernel
theorem dX3_letsIn_32 : decode cX3_letsIn 32 = .ok (.iconst 0, 1) := by decide +kernel
theorem dX3_letsIn_33 : decode cX3_letsIn 33 = .ok (.ireturn, 1) := by decide +kernel
theorem dX3_letsIn_34 : decode cX3_letsIn 34 = .ok (.aload_n 0, 1) := by decide +kernel
theorem dX3_letsIn_35 : decode cX3_letsIn 35 = .ok (.aload_n 1, 1) := by decide +kernel
theorem dX3_letsIn_36 : decode cX3_letsIn 36 = .ok (.bipush 26, 2) := by decide +kernel
theorem dX3_letsIn_38 : decode cX3_letsIn 38 = .ok (.aload_n 2, 1) := by decide +kernel
theorem dX3_letsIn_39 : decode cX3_letsIn 39 = .ok (.iload_n 3, 1) := by decide +kernel
theorem dX3_letsIn_40 : decode cX3_letsIn 40 = .ok (.invokevirtual 45, 3) := by decide +kernel
theorem dX3_letsIn_43 : decode cX3_letsIn 43 = .ok (.ifCond .eq 7, 3) := by decide +kernel
theorem dX3_letsIn_46 : decode cX3_letsIn 46 = .ok (.iconst 1, 1) := by decide +kernel
theorem dX3_letsIn_47 : decode cX3_letsIn 47 = .ok (.goto 4, 3) := by decide +kernel
theorem dX3_letsIn_50 : decode cX3_letsIn 50 = .ok (.iconst 0, 1) := by decide +kernel
theorem dX3_letsIn_51 : decode cX3_letsIn 51 = .ok (.ireturn, 1) := by decide +kernel
def f_X3_letsIn (F : Nat) (S : mS) (t : Nat) (a1 : Nat) (a2 : Nat) (a3 : Int32) : Option (mS × Bool) := bd (f_X5_has F S a1 (26 : Int32)) fun q1 => if q1 = true then (bd (f_X3_valueOf F S t a1 (26 : Int32) a2 a3) fun q2 => if q2.2 = 0 then (some (q2.1, false)) else (some (q2.1, true))) else (if (f_X6_told S a2 a3) = true then (ck (inb a3 7) (if (50 : Int32) ≤ (S.1 (a2 + 3) a3.toNatClampNeg) then (some (S, false)) else (some (S, true)))) else (some (S, false)))
set_option maxHeartbeats 4000000 in
set_option maxRecDepth 100000 in
theorem c_X3_letsIn {F : Nat} {S : mS} {t : Nat} {a1 : Nat} {a2 : Nat} {a3 : Int32} {R : mS × Bool} (ht : kd0 t = 3) (ha1 : kd0 a1 = 5) (ha2 : kd0 a2 = 6) (h : f_X3_letsIn F S t a1 a2 a3 = some R) : mCt μX3_letsIn 4 0 0 E0 S [.ref (t), .ref (a1), .ref (a2), .int (a3)] (mQe R.1 (some (.int (bI R.2)))) := by
  unfold f_X3_letsIn at h
  refine mCt.of (by decide) (Nat.le_of_ble_eq_true rfl) ?_
  intro x
  refine mG.aload_n 1 dX3_letsIn_0 rfl ?_
  refine mG.bipush (v := 26) dX3_letsIn_1 (by decide) ?_
  obtain ⟨q1, hq1, h⟩ := bdp h
  refine mG.callV0 (as := [.int 26]) (st := []) (S2 := S) (r := some (.int (bI (q1)))) dX3_letsIn_3 mvX5_has wk30_21 rfl ha1 rfl (by decide) (Nat.le_of_ble_eq_true rfl) (c_X5_has ha1 hq1) ?_
  refine mG.ifz_ne (b := q1) 34 dX3_letsIn_6 (by decide) (fun c7 => ?_) (fun c7 => ?_)
  · replace h := itp c7 h
    refine mG.aload_n 0 dX3_letsIn_34 rfl ?_
    refine mG.aload_n 1 dX3_letsIn_35 rfl ?_
    refine mG.bipush (v := 26) dX3_letsIn_36 (by decide) ?_
    refine mG.aload_n 2 dX3_letsIn_38 rfl ?_
    refine mG.iload_n 3 dX3_letsIn_39 rfl ?_
    obtain ⟨q2, hq2, h⟩ := bdp h
    refine mG.callV0 (as := [.ref (a1), .int 26, .ref (a2), .int (a3)]) (st := []) (S2 := q2.1) (r := some (.int (q2.2))) dX3_letsIn_40 mvX3_valueOf wk30_23 rfl ht rfl (by decide) (Nat.le_of_ble_eq_true rfl) (c_X3_valueOf ht ha1 ha2 hq2) ?_
    refine mG.if_eq 50 dX3_letsIn_43 (by decide) (fun c3 => ?_) (fun c3 => ?_)
    · replace h := itp c3 h
      refine mG.iconst (v := 0) dX3_letsIn_50 rfl ?_
      obtain rfl := Option.some.inj h
      exact mG.zret (b := false) dX3_letsIn_51 rfl rfl ⟨rfl, rfl, rfl⟩
    · replace h := itn c3 h
      refine mG.iconst (v := 1) dX3_letsIn_46 rfl ?_
      refine mG.goto 51 dX3_letsIn_47 (by decide) ?_
      obtain rfl := Option.some.inj h
      exact mG.zret (b := true) dX3_letsIn_51 rfl rfl ⟨rfl, rfl, rfl⟩
  · replace h := itn c7 h
    refine mG.aload_n 2 dX3_letsIn_9 rfl ?_
    refine mG.iload_n 3 dX3_letsIn_10 rfl ?_
    refine mG.callV0 (as := [.int (a3)]) (st := []) (S2 := S) (r := some (.int (bI (f_X6_told S a2 a3)))) dX3_letsIn_11 mvX6_told wk30_22 rfl ha2 rfl (by decide) (Nat.le_of_ble_eq_true rfl) (c_X6_told ha2 rfl) ?_
    refine mG.ifz_eq (b := f_X6_told S a2 a3) 32 dX3_letsIn_14 (by decide) (fun c6 => ?_) (fun c6 => ?_)
    · replace h := itn c6 h
      refine mG.iconst (v := 0) dX3_letsIn_32 rfl ?_
      obtain rfl := Option.some.inj h
      exact mG.zret (b := false) dX3_letsIn_33 rfl rfl ⟨rfl, rfl, rfl⟩
    · replace h := itp c6 h
      refine mG.aload_n 2 dX3_letsIn_17 rfl ?_
      refine mG.get (v := .ref (a2 + 3)) dX3_letsIn_18 mfX3_61 ha2 (lr6_friends ha2) ?_
      refine mG.iload_n 3 dX3_letsIn_21 rfl ?_
      obtain ⟨b4, h⟩ := ckp h
      refine mG.iald dX3_letsIn_22 (lk6_friends ha2) (ll6_friends ha2) (inbp b4) ?_
      refine mG.bipush (v := 50) dX3_letsIn_23 (by decide) ?_
      refine mG.icmp_ge 32 dX3_letsIn_25 (by decide) (fun c5 => ?_) (fun c5 => ?_)
      · replace h := itp c5 h
        refine mG.iconst (v := 0) dX3_letsIn_32 rfl ?_
        obtain rfl := Option.some.inj h
        exact mG.zret (b := false) dX3_letsIn_33 rfl rfl ⟨rfl, rfl, rfl⟩
      · replace h := itn c5 h
        refine mG.iconst (v := 1) dX3_letsIn_28 rfl ?_
        refine mG.goto 33 dX3_letsIn_29 (by decide) ?_
        obtain rfl := Option.some.inj h
        exact mG.zret (b := true) dX3_letsIn_33 rfl rfl ⟨rfl, rfl, rfl⟩
theorem dX6_isGone_0 : decode cX6_isGone 0 = .ok (.aload_n 0, 1) := by decide +kernel
theorem dX6_isGone_1 : decode cX6_isGone 1 = .ok (.getfield 50, 3) := by decide +kernel
theorem dX6_isGone_4 : decode cX6_isGone 4 = .ok (.iload_n 1, 1) := by decide +kernel
theorem dX6_isGone_5 : decode cX6_isGone 5 = .ok (.ishr, 1) := by decide +kernel
theorem dX6_isGone_6 : decode cX6_isGone 6 = .ok (.iconst 1, 1) := by decide +kernel
theorem dX6_isGone_7 : decode cX6_isGone 7 = .ok (.iand, 1) := by decide +kernel
theorem dX6_isGone_8 : decode cX6_isGone 8 = .ok (.iconst 1, 1) := by decide +kernel
theorem dX6_isGone_9 : decode cX6_isGone 9 = .ok (.if_icmp .ne 7, 3) := by decide +kernel
theorem dX6_isGone_12 : decode cX6_isGone 12 = .ok (.iconst 1, 1) := by decide +kernel
theorem dX6_isGone_13 : decode cX6_isGone 13 = .ok (.goto 4, 3) := by decide +kernel
theorem dX6_isGone_16 : decode cX6_isGone 16 = .ok (.iconst 0, 1) := by decide +kernel
theorem dX6_isGone_17 : decode cX6_isGone 17 = .ok (.ireturn, 1) := by decide +kernel
def f_X6_isGone (S0 : mS) (t : Nat) (a1 : Int32) : Bool := if (((S0.1 t 6) >>> (a1 &&& 31)) &&& (1 : Int32)) = (1 : Int32) then (true) else (false)
set_option maxHeartbeats 4000000 in
set_option maxRecDepth 100000 in
theorem c_X6_isGone {S0 : mS} {t : Nat} {a1 : Int32} {R : Bool} (ht : kd0 t = 6) (h : f_X6_isGone S0 t a1 = R) : mCt μX6_isGone 1 0 0 E0 S0 [.ref (t), .int (a1)] (mQe S0 (some (.int (bI R)))) := by
  unfold f_X6_isGone at h
  refine mCt.of (by decide) (Nat.le_of_ble_eq_true rfl) ?_
  intro x
  refine mG.aload_n 0 dX6_isGone_0 rfl ?_
  refine mG.get (v := .int (S0.1 t 6)) dX6_isGone_1 mfX6_50 ht rfl ?_
  refine mG.iload_n 1 dX6_isGone_4 rfl ?_
  refine mG.ishr dX6_isGone_5 ?_
  refine mG.iconst (v := 1) dX6_isGone_6 rfl ?_
  refine mG.iand dX6_isGone_7 ?_
  refine mG.iconst (v := 1) dX6_isGone_8 rfl ?_
  refine mG.icmp_ne 16 dX6_isGone_9 (by decide) (fun c1 => ?_) (fun c1 => ?_)
  · replace h := itn c1 h
    refine mG.iconst (v := 0) dX6_isGone_16 rfl ?_
    subst h
    exact mG.zret (b := false) dX6_isGone_17 rfl rfl ⟨rfl, rfl, rfl⟩
  · replace h := itp c1 h
    refine mG.iconst (v := 1) dX6_isGone_12 rfl ?_
    refine mG.goto 17 dX6_isGone_13 (by decide) ?_
    subst h
    exact mG.zret (b := true) dX6_isGone_17 rfl rfl ⟨rfl, rfl, rfl⟩
theorem dX6_lives_0 : decode cX6_lives 0 = .ok (.aload_n 0, 1) := by decide +kernel
theorem dX6_lives_1 : decode cX6_lives 1 = .ok (.iload_n 1, 1) := by decide +kernel
theorem dX6_lives_2 : decode cX6_lives 2 = .ok (.invokevirtual 56, 3) := by decide +kernel
theorem dX6_lives_5 : decode cX6_lives 5 = .ok (.ifCond .eq 15, 3) := by decide +kernel
theorem dX6_lives_8 : decode cX6_lives 8 = .ok (.aload_n 0, 1) := by decide +kernel
theorem dX6_lives_9 : decode cX6_lives 9 = .ok (.iload_n 1, 1) := by decide +kernel
theorem dX6_lives_10 : decode cX6_lives 10 = .ok (.invokevirtual 60, 3) := by decide +kernel
theorem dX6_lives_13 : decode cX6_lives 13 = .ok (.ifCond .ne 7, 3) := by decide +kernel
theorem dX6_lives_16 : decode cX6_lives 16 = .ok (.iconst 1, 1) := by decide +kernel
theorem dX6_lives_17 : decode cX6_lives 17 = .ok (.goto 4, 3) := by decide +kernel
theorem dX6_lives_20 : decode cX6_lives 20 = .ok (.iconst 0, 1) := by decide +kernel
theorem dX6_lives_21 : decode cX6_lives 21 = .ok (.ireturn, 1) := by decide +kernel
def f_X6_lives (S0 : mS) (t : Nat) (a1 : Int32) : Bool := if (f_X6_told S0 t a1) = true then (if (f_X6_isGone S0 t a1) = true then (false) else (true)) else (false)
set_option maxHeartbeats 4000000 in
set_option maxRecDepth 100000 in
theorem c_X6_lives {S0 : mS} {t : Nat} {a1 : Int32} {R : Bool} (ht : kd0 t = 6) (h : f_X6_lives S0 t a1 = R) : mCt μX6_lives 2 0 0 E0 S0 [.ref (t), .int (a1)] (mQe S0 (some (.int (bI R)))) := by
  unfold f_X6_lives at h
  refine mCt.of (by decide) (Nat.le_of_ble_eq_true rfl) ?_
  intro x
  refine mG.aload_n 0 dX6_lives_0 rfl ?_
  refine mG.iload_n 1 dX6_lives_1 rfl ?_
  refine mG.callV0 (as := [.int (a1)]) (st := []) (S2 := S0) (r := some (.int (bI (f_X6_told S0 t a1)))) dX6_lives_2 mvX6_told wk27_11 rfl ht rfl (by decide) (Nat.le_of_ble_eq_true rfl) (c_X6_told ht rfl) ?_
  refine mG.ifz_eq (b := f_X6_told S0 t a1) 20 dX6_lives_5 (by decide) (fun c2 => ?_) (fun c2 => ?_)
  · replace h := itn c2 h
    refine mG.iconst (v := 0) dX6_lives_20 rfl ?_
    subst h
    exact mG.zret (b := false) dX6_lives_21 rfl rfl ⟨rfl, rfl, rfl⟩
  · replace h := itp c2 h
    refine mG.aload_n 0 dX6_lives_8 rfl ?_
    refine mG.iload_n 1 dX6_lives_9 rfl ?_
    refine mG.callV0 (as := [.int (a1)]) (st := []) (S2 := S0) (r := some (.int (bI (f_X6_isGone S0 t a1)))) dX6_lives_10 mvX6_isGone wk27_15 rfl ht rfl (by decide) (Nat.le_of_ble_eq_true rfl) (c_X6_isGone ht rfl) ?_
    refine mG.ifz_ne (b := f_X6_isGone S0 t a1) 20 dX6_lives_13 (by decide) (fun c1 => ?_) (fun c1 => ?_)
    · replace h := itp c1 h
      refine mG.iconst (v := 0) dX6_lives_20 rfl ?_
      subst h
      exact mG.zret (b := false) dX6_lives_21 rfl rfl ⟨rfl, rfl, rfl⟩
    · replace h := itn c1 h
      refine mG.iconst (v := 1) dX6_lives_16 rfl ?_
      refine mG.goto 21 dX6_lives_17 (by decide) ?_
      subst h
      exact mG.zret (b := true) dX6_lives_21 rfl rfl ⟨rfl, rfl, rfl⟩
theorem dX3_passDay_0 : decode cX3_passDay 0 = .ok (.aload_n 0, 1) := by decide +kernel
theorem dX3_passDay_1 : decode cX3_passDay 1 = .ok (.aload_n 2, 1) := by decide +kernel
theorem dX3_passDay_2 : decode cX3_passDay 2 = .ok (.aload_n 2, 1) := by decide +kernel
theorem dX3_passDay_3 : decode cX3_passDay 3 = .ok (.getfield 64, 3) := by decide +kernel
theorem dX3_passDay_6 : decode cX3_passDay 6 = .ok (.invokevirtual 67, 3) := by decide +kernel
theorem dX3_passDay_9 : decode cX3_passDay 9 = .ok (.iconst 0, 1) := by decide +kernel
theorem dX3_passDay_10 : decode cX3_passDay 10 = .ok (.istore_n 3, 1) := by decide +kernel
theorem dX3_passDay_11 : decode cX3_passDay 11 = .ok (.iload_n 3, 1) := by decide +kernel
theorem dX3_passDay_12 : decode cX3_passDay 12 = .ok (.aload_n 2, 1) := by decide +kernel
theorem dX3_passDay_13 : decode cX3_passDay 13 = .ok (.getfield 71, 3) := by decide +kernel
theorem dX3_passDay_16 : decode cX3_passDay 16 = .ok (.if_icmp .ge 86, 3) := by decide +kernel
theorem dX3_passDay_19 : decode cX3_passDay 19 = .ok (.aload_n 0, 1) := by decide +kernel
theorem dX3_passDay_20 : decode cX3_passDay 20 = .ok (.iload_n 3, 1) := by decide +kernel
theorem dX3_passDay_21 : decode cX3_passDay 21 = .ok (.invokevirtual 33, 3) := by decide +kernel
theorem dX3_passDay_24 : decode cX3_passDay 24 = .ok (.ifCond .eq 36, 3) := by decide +kernel
theorem dX3_passDay_27 : decode cX3_passDay 27 = .ok (.aload_n 2, 1) := by decide +kernel
theorem dX3_passDay_28 : decode cX3_passDay 28 = .ok (.getfield 74, 3) := by decide +kernel
theorem dX3_passDay_31 : decode cX3_passDay 31 = .ok (.iload_n 3, 1) := by decide +kernel
theorem dX3_passDay_32 : decode cX3_passDay 32 = .ok (.iaload, 1) := by decide +kernel
theorem dX3_passDay_33 : decode cX3_passDay 33 = .ok (.aload_n 0, 1) := by decide +kernel
theorem dX3_passDay_34 : decode cX3_passDay 34 = .ok (.aload_n 1, 1) := by decide +kernel
theorem dX3_passDay_35 : decode cX3_passDay 35 = .ok (.aload_n 2, 1) := by decide +kernel
theorem dX3_passDay_36 : decode cX3_passDay 36 = .ok (.iload_n 3, 1) := by decide +kernel
theorem dX3_passDay_37 : decode cX3_passDay 37 = .ok (.invokevirtual 77, 3) := by decide +kernel
theorem dX3_passDay_40 : decode cX3_passDay 40 = .ok (.iadd, 1) := by decide +kernel
theorem dX3_passDay_41 : decode cX3_passDay 41 = .ok (.istore 4, 2) := by decide +kernel
theorem dX3_passDay_43 : decode cX3_passDay 43 = .ok (.aload_n 2, 1) := by decide +kernel
theorem dX3_passDay_44 : decode cX3_passDay 44 = .ok (.getfield 74, 3) := by decide +kernel
theorem dX3_passDay_47 : decode cX3_passDay 47 = .ok (.iload_n 3, 1) := by decide +kernel
theorem dX3_passDay_48 : decode cX3_passDay 48 = .ok (.sipush 9999, 3) := by decide +kernel
theorem dX3_passDay_51 : decode cX3_passDay 51 = .ok (.iload 4, 2) := by decide +kernel
theorem dX3_passDay_53 : decode cX3_passDay 53 = .ok (.invokestatic 49, 3) := by decide +kernel
theorem dX3_passDay_56 : decode cX3_passDay 56 = .ok (.iastore, 1) := by decide +kernel
theorem dX3_passDay_57 : decode cX3_passDay 57 = .ok (.goto 39, 3) := by decide +kernel
theorem dX3_passDay_60 : decode cX3_passDay 60 = .ok (.aload_n 2, 1) := by decide +kernel
theorem dX3_passDay_61 : decode cX3_passDay 61 = .ok (.iload_n 3, 1) := by decide +kernel
theorem dX3_passDay_62 : decode cX3_passDay 62 = .ok (.invokevirtual 81, 3) := by decide +kernel
theorem dX3_passDay_65 : decode cX3_passDay 65 = .ok (.ifCond .eq 31, 3) := by decide +kernel
theorem dX3_passDay_68 : decode cX3_passDay 68 = .ok (.aload_n 2, 1) := by decide +kernel
theorem dX3_passDay_69 : decode cX3_passDay 69 = .ok (.getfield 74, 3) := by decide +kernel
theorem dX3_passDay_72 : decode cX3_passDay 72 = .ok (.iload_n 3, 1) := by decide +kernel
theorem dX3_passDay_73 : decode cX3_passDay 73 = .ok (.iaload, 1) := by decide +kernel
theorem dX3_passDay_74 : decode cX3_passDay 74 = .ok (.aload_n 0, 1) := by decide +kernel
theorem dX3_passDay_75 : decode cX3_passDay 75 = .ok (.aload_n 1, 1) := by decide +kernel
theorem dX3_passDay_76 : decode cX3_passDay 76 = .ok (.aload_n 2, 1) := by decide +kernel
theorem dX3_passDay_77 : decode cX3_passDay 77 = .ok (.iload_n 3, 1) := by decide +kernel
theorem dX3_passDay_78 : decode cX3_passDay 78 = .ok (.invokevirtual 84, 3) := by decide +kernel
theorem dX3_passDay_81 : decode cX3_passDay 81 = .ok (.isub, 1) := by decide +kernel
theorem dX3_passDay_82 : decode cX3_passDay 82 = .ok (.istore 4, 2) := by decide +kernel
theorem dX3_passDay_84 : decode cX3_passDay 84 = .ok (.aload_n 2, 1) := by decide +kernel
theorem dX3_passDay_85 : decode cX3_passDay 85 = .ok (.getfield 74, 3) := by decide +kernel
theorem dX3_passDay_88 : decode cX3_passDay 88 = .ok (.iload_n 3, 1) := by decide +kernel
theorem dX3_passDay_89 : decode cX3_passDay 89 = .ok (.iconst 0, 1) := by decide +kernel
theorem dX3_passDay_90 : decode cX3_passDay 90 = .ok (.iload 4, 2) := by decide +kernel
theorem dX3_passDay_92 : decode cX3_passDay 92 = .ok (.invokestatic 55, 3) := by decide +kernel
theorem dX3_passDay_95 : decode cX3_passDay 95 = .ok (.iastore, 1) := by decide +kernel
theorem dX3_passDay_96 : decode cX3_passDay 96 = .ok (.iinc 3 1, 3) := by decide +kernel
theorem dX3_passDay_99 : decode cX3_passDay 99 = .ok (.goto (-88), 3) := by decide +kernel
theorem dX3_passDay_102 : decode cX3_passDay 102 = .ok (.aload_n 2, 1) := by decide +kernel
theorem dX3_passDay_103 : decode cX3_passDay 103 = .ok (.dup, 1) := by decide +kernel
theorem dX3_passDay_104 : decode cX3_passDay 104 = .ok (.getfield 64, 3) := by decide +kernel
theorem dX3_passDay_107 : decode cX3_passDay 107 = .ok (.iconst 1, 1) := by decide +kernel
theorem dX3_passDay_108 : decode cX3_passDay 108 = .ok (.iadd, 1) := by decide +kernel
theorem dX3_passDay_109 : decode cX3_passDay 109 = .ok (.putfield 64, 3) := by decide +kernel
theorem dX3_passDay_112 : decode cX3_passDay 112 = .ok (.return_, 1) := by decide +kernel
def lX3_passDay_11 (F : Nat)  (t : Nat) (a1 : Nat) (a2 : Nat) : Nat → mS → Int32 → Option mS
  | 0, _, _ => none
  | n + 1, S, v3 => if (S.1 a2 5) ≤ v3 then (stp (sI S a2 7 ((S.1 a2 7) + (1 : Int32))) fun S1 => some S1) else (if (f_X3_isOpen S t v3) = true then (ck (inb v3 7) (bd (f_X3_earnedBy F S t a1 a2 v3) fun q8 => ck (inb v3 7) (stp (sI q8.1 (a2 + 2) v3.toNatClampNeg (imin (9999 : Int32) ((S.1 (a2 + 2) v3.toNatClampNeg) + q8.2))) fun S10 => lX3_passDay_11 F  t a1 a2 n S10 (v3 + 1)))) else (if (f_X6_lives S a2 v3) = true then (ck (inb v3 7) (bd (f_X3_lostBy F S t a1 a2 v3) fun q3 => ck (inb v3 7) (stp (sI q3.1 (a2 + 2) v3.toNatClampNeg (imax (0 : Int32) ((S.1 (a2 + 2) v3.toNatClampNeg) - q3.2))) fun S5 => lX3_passDay_11 F  t a1 a2 n S5 (v3 + 1)))) else (lX3_passDay_11 F  t a1 a2 n S (v3 + 1))))
set_option maxHeartbeats 4000000 in
set_option maxRecDepth 100000 in
theorem gX3_passDay_11 {x : mX} {F : Nat} {t : Nat} {a1 : Nat} {a2 : Nat}   {R : mS} (ht : kd0 t = 3) (ha1 : kd0 a1 = 5) (ha2 : kd0 a2 = 6)  : ∀ (n : Nat) (S : mS) (v3 : Int32), lX3_passDay_11 F  t a1 a2 n S v3 = some R → mG x μX3_passDay 5 0 0 (mQe R none) 0 0 E0 S 11 [(0, .ref (t)), (1, .ref (a1)), (2, .ref (a2)), (3, .int (v3))] [] := by
  intro n
  induction n with
  | zero =>
    intro S v3 h
    cases h
  | succ n ih =>
    intro S v3 h
    unfold lX3_passDay_11 at h
    refine mG.iload_n 3 dX3_passDay_11 rfl ?_
    refine mG.aload_n 2 dX3_passDay_12 rfl ?_
    refine mG.get (v := .int (S.1 a2 5)) dX3_passDay_13 mfX3_71 ha2 rfl ?_
    refine mG.icmp_ge 102 dX3_passDay_16 (by decide) (fun c12 => ?_) (fun c12 => ?_)
    · replace h := itp c12 h
      refine mG.aload_n 2 dX3_passDay_102 rfl ?_
      refine mG.dup dX3_passDay_103 rfl ?_
      refine mG.get (v := .int (S.1 a2 7)) dX3_passDay_104 mfX3_64 ha2 rfl ?_
      refine mG.iconst (v := 1) dX3_passDay_107 rfl ?_
      refine mG.iadd dX3_passDay_108 ?_
      obtain ⟨S1, hS1, h⟩ := stpp h
      refine mG.putI dX3_passDay_109 mfX3_64 rfl (Or.inl rfl) ha2 hS1 ?_
      obtain rfl := Option.some.inj h
      exact mG.vret dX3_passDay_112 rfl ⟨rfl, rfl, rfl⟩
    · replace h := itn c12 h
      refine mG.aload_n 0 dX3_passDay_19 rfl ?_
      refine mG.iload_n 3 dX3_passDay_20 rfl ?_
      refine mG.callV0 (as := [.int (v3)]) (st := []) (S2 := S) (r := some (.int (bI (f_X3_isOpen S t v3)))) dX3_passDay_21 mvX3_isOpen wk31_13 rfl ht rfl (by decide) (Nat.le_of_ble_eq_true rfl) (c_X3_isOpen ht rfl) ?_
      refine mG.ifz_eq (b := f_X3_isOpen S t v3) 60 dX3_passDay_24 (by decide) (fun c11 => ?_) (fun c11 => ?_)
      · replace h := itn c11 h
        refine mG.aload_n 2 dX3_passDay_60 rfl ?_
        refine mG.iload_n 3 dX3_passDay_61 rfl ?_
        refine mG.callV0 (as := [.int (v3)]) (st := []) (S2 := S) (r := some (.int (bI (f_X6_lives S a2 v3)))) dX3_passDay_62 mvX6_lives wk40_8 rfl ha2 rfl (by decide) (Nat.le_of_ble_eq_true rfl) (c_X6_lives ha2 rfl) ?_
        refine mG.ifz_eq (b := f_X6_lives S a2 v3) 96 dX3_passDay_65 (by decide) (fun c6 => ?_) (fun c6 => ?_)
        · replace h := itn c6 h
          refine mG.iinc 3 (u := v3 + 1) (lv2 := [(3, .int (v3 + 1)), (0, .ref (t)), (1, .ref (a1)), (2, .ref (a2))]) dX3_passDay_96 rfl rfl (by decide) rfl ?_
          refine mG.goto 11 dX3_passDay_99 (by decide) ?_
          refine mG.sub (lv2 := [(0, .ref (t)), (1, .ref (a1)), (2, .ref (a2)), (3, .int (v3 + 1))]) [1, 2, 3, 0] rfl ?_
          exact ih S (v3 + 1)  h
        · replace h := itp c6 h
          refine mG.aload_n 2 dX3_passDay_68 rfl ?_
          refine mG.get (v := .ref (a2 + 2)) dX3_passDay_69 mfX3_74 ha2 (lr6_purse ha2) ?_
          refine mG.iload_n 3 dX3_passDay_72 rfl ?_
          obtain ⟨b2, h⟩ := ckp h
          refine mG.iald dX3_passDay_73 (lk6_purse ha2) (ll6_purse ha2) (inbp b2) ?_
          refine mG.aload_n 0 dX3_passDay_74 rfl ?_
          refine mG.aload_n 1 dX3_passDay_75 rfl ?_
          refine mG.aload_n 2 dX3_passDay_76 rfl ?_
          refine mG.iload_n 3 dX3_passDay_77 rfl ?_
          obtain ⟨q3, hq3, h⟩ := bdp h
          refine mG.callV0 (as := [.ref (a1), .ref (a2), .int (v3)]) (st := [.int (S.1 (a2 + 2) v3.toNatClampNeg)]) (S2 := q3.1) (r := some (.int (q3.2))) dX3_passDay_78 mvX3_lostBy wk40_9 rfl ht rfl (by decide) (Nat.le_of_ble_eq_true rfl) (c_X3_lostBy ht ha1 ha2 hq3) ?_
          refine mG.isub dX3_passDay_81 ?_
          refine mG.istore (lv2 := [(4, .int ((S.1 (a2 + 2) v3.toNatClampNeg) - q3.2)), (0, .ref (t)), (1, .ref (a1)), (2, .ref (a2)), (3, .int (v3))]) dX3_passDay_82 (by decide) rfl ?_
          refine mG.aload_n 3 dX3_passDay_84 rfl ?_
          refine mG.get (v := .ref (a2 + 2)) dX3_passDay_85 mfX3_74 ha2 (lr6_purse ha2) ?_
          refine mG.iload_n 4 dX3_passDay_88 rfl ?_
          refine mG.iconst (v := 0) dX3_passDay_89 rfl ?_
          refine mG.iload 0 dX3_passDay_90 rfl ?_
          refine mG.mmax dX3_passDay_92 wk40_2 (by decide) (Nat.le_of_ble_eq_true rfl) (Nat.le_refl _) (Nat.le_refl _) ?_
          obtain ⟨b4, h⟩ := ckp h
          obtain ⟨S5, hS5, h⟩ := stpp h
          refine mG.iast dX3_passDay_95 (lk6_purse ha2) (ll6_purse ha2) (inbp b4) hS5 ?_
          refine mG.iinc 4 (u := v3 + 1) (lv2 := [(3, .int (v3 + 1)), (4, .int ((S.1 (a2 + 2) v3.toNatClampNeg) - q3.2)), (0, .ref (t)), (1, .ref (a1)), (2, .ref (a2))]) dX3_passDay_96 rfl rfl (by decide) rfl ?_
          refine mG.goto 11 dX3_passDay_99 (by decide) ?_
          refine mG.sub (lv2 := [(0, .ref (t)), (1, .ref (a1)), (2, .ref (a2)), (3, .int (v3 + 1))]) [2, 3, 4, 0] rfl ?_
          exact ih S5 (v3 + 1)  h
      · replace h := itp c11 h
        refine mG.aload_n 2 dX3_passDay_27 rfl ?_
        refine mG.get (v := .ref (a2 + 2)) dX3_passDay_28 mfX3_74 ha2 (lr6_purse ha2) ?_
        refine mG.iload_n 3 dX3_passDay_31 rfl ?_
        obtain ⟨b7, h⟩ := ckp h
        refine mG.iald dX3_passDay_32 (lk6_purse ha2) (ll6_purse ha2) (inbp b7) ?_
        refine mG.aload_n 0 dX3_passDay_33 rfl ?_
        refine mG.aload_n 1 dX3_passDay_34 rfl ?_
        refine mG.aload_n 2 dX3_passDay_35 rfl ?_
        refine mG.iload_n 3 dX3_passDay_36 rfl ?_
        obtain ⟨q8, hq8, h⟩ := bdp h
        refine mG.callV0 (as := [.ref (a1), .ref (a2), .int (v3)]) (st := [.int (S.1 (a2 + 2) v3.toNatClampNeg)]) (S2 := q8.1) (r := some (.int (q8.2))) dX3_passDay_37 mvX3_earnedBy wk40_4 rfl ht rfl (by decide) (Nat.le_of_ble_eq_true rfl) (c_X3_earnedBy ht ha1 ha2 hq8) ?_
        refine mG.iadd dX3_passDay_40 ?_
        refine mG.istore (lv2 := [(4, .int ((S.1 (a2 + 2) v3.toNatClampNeg) + q8.2)), (0, .ref (t)), (1, .ref (a1)), (2, .ref (a2)), (3, .int (v3))]) dX3_passDay_41 (by decide) rfl ?_
        refine mG.aload_n 3 dX3_passDay_43 rfl ?_
        refine mG.get (v := .ref (a2 + 2)) dX3_passDay_44 mfX3_74 ha2 (lr6_purse ha2) ?_
        refine mG.iload_n 4 dX3_passDay_47 rfl ?_
        refine mG.sipush (v := 9999) dX3_passDay_48 (by decide) ?_
        refine mG.iload 0 dX3_passDay_51 rfl ?_
        refine mG.mmin dX3_passDay_53 wk31_6 (by decide) (Nat.le_of_ble_eq_true rfl) (Nat.le_refl _) (Nat.le_refl _) ?_
        obtain ⟨b9, h⟩ := ckp h
        obtain ⟨S10, hS10, h⟩ := stpp h
        refine mG.iast dX3_passDay_56 (lk6_purse ha2) (ll6_purse ha2) (inbp b9) hS10 ?_
        refine mG.goto 96 dX3_passDay_57 (by decide) ?_
        refine mG.iinc 4 (u := v3 + 1) (lv2 := [(3, .int (v3 + 1)), (4, .int ((S.1 (a2 + 2) v3.toNatClampNeg) + q8.2)), (0, .ref (t)), (1, .ref (a1)), (2, .ref (a2))]) dX3_passDay_96 rfl rfl (by decide) rfl ?_
        refine mG.goto 11 dX3_passDay_99 (by decide) ?_
        refine mG.sub (lv2 := [(0, .ref (t)), (1, .ref (a1)), (2, .ref (a2)), (3, .int (v3 + 1))]) [2, 3, 4, 0] rfl ?_
        exact ih S10 (v3 + 1)  h
def f_X3_passDay (F : Nat) (S : mS) (t : Nat) (a1 : Nat) (a2 : Nat) : Option mS := bd (f_X3_lookAt F S t a2 (S.1 a2 7)) fun q1 => lX3_passDay_11 F  t a1 a2 F q1 (0 : Int32)
set_option maxHeartbeats 4000000 in
set_option maxRecDepth 100000 in
theorem c_X3_passDay {F : Nat} {S : mS} {t : Nat} {a1 : Nat} {a2 : Nat} {R : mS} (ht : kd0 t = 3) (ha1 : kd0 a1 = 5) (ha2 : kd0 a2 = 6) (h : f_X3_passDay F S t a1 a2 = some R) : mCt μX3_passDay 5 0 0 E0 S [.ref (t), .ref (a1), .ref (a2)] (mQe R none) := by
  unfold f_X3_passDay at h
  refine mCt.of (by decide) (Nat.le_of_ble_eq_true rfl) ?_
  intro x
  refine mG.aload_n 0 dX3_passDay_0 rfl ?_
  refine mG.aload_n 2 dX3_passDay_1 rfl ?_
  refine mG.aload_n 2 dX3_passDay_2 rfl ?_
  refine mG.get (v := .int (S.1 a2 7)) dX3_passDay_3 mfX3_64 ha2 rfl ?_
  obtain ⟨q1, hq1, h⟩ := bdp h
  refine mG.callV0 (as := [.ref (a2), .int (S.1 a2 7)]) (st := []) (S2 := q1) (r := none) dX3_passDay_6 mvX3_lookAt wk40_3 rfl ht rfl (by decide) (Nat.le_of_ble_eq_true rfl) (c_X3_lookAt ht ha2 hq1) ?_
  refine mG.iconst (v := 0) dX3_passDay_9 rfl ?_
  refine mG.istore_n (lv2 := [(3, .int 0), (0, .ref (t)), (1, .ref (a1)), (2, .ref (a2))]) dX3_passDay_10 rfl (by decide) rfl ?_
  refine mG.sub (lv2 := [(0, .ref (t)), (1, .ref (a1)), (2, .ref (a2)), (3, .int 0)]) [1, 2, 3, 0] rfl ?_
  exact gX3_passDay_11 ht ha1 ha2  F q1 (0 : Int32)  h
theorem dX5_clear_0 : decode cX5_clear 0 = .ok (.aload_n 0, 1) := by decide +kernel
theorem dX5_clear_1 : decode cX5_clear 1 = .ok (.iconst 0, 1) := by decide +kernel
theorem dX5_clear_2 : decode cX5_clear 2 = .ok (.putfield 24, 3) := by decide +kernel
theorem dX5_clear_5 : decode cX5_clear 5 = .ok (.aload_n 0, 1) := by decide +kernel
theorem dX5_clear_6 : decode cX5_clear 6 = .ok (.iconst 0, 1) := by decide +kernel
theorem dX5_clear_7 : decode cX5_clear 7 = .ok (.putfield 28, 3) := by decide +kernel
theorem dX5_clear_10 : decode cX5_clear 10 = .ok (.iconst 0, 1) := by decide +kernel
theorem dX5_clear_11 : decode cX5_clear 11 = .ok (.istore_n 1, 1) := by decide +kernel
theorem dX5_clear_12 : decode cX5_clear 12 = .ok (.iload_n 1, 1) := by decide +kernel
theorem dX5_clear_13 : decode cX5_clear 13 = .ok (.iconst 3, 1) := by decide +kernel
theorem dX5_clear_14 : decode cX5_clear 14 = .ok (.if_icmp .ge 23, 3) := by decide +kernel
theorem dX5_clear_17 : decode cX5_clear 17 = .ok (.aload_n 0, 1) := by decide +kernel
theorem dX5_clear_18 : decode cX5_clear 18 = .ok (.getfield 15, 3) := by decide +kernel
theorem dX5_clear_21 : decode cX5_clear 21 = .ok (.iload_n 1, 1) := by decide +kernel
theorem dX5_clear_22 : decode cX5_clear 22 = .ok (.iconst 0, 1) := by decide +kernel
theorem dX5_clear_23 : decode cX5_clear 23 = .ok (.iastore, 1) := by decide +kernel
theorem dX5_clear_24 : decode cX5_clear 24 = .ok (.aload_n 0, 1) := by decide +kernel
theorem dX5_clear_25 : decode cX5_clear 25 = .ok (.getfield 18, 3) := by decide +kernel
theorem dX5_clear_28 : decode cX5_clear 28 = .ok (.iload_n 1, 1) := by decide +kernel
theorem dX5_clear_29 : decode cX5_clear 29 = .ok (.iconst 0, 1) := by decide +kernel
theorem dX5_clear_30 : decode cX5_clear 30 = .ok (.iastore, 1) := by decide +kernel
theorem dX5_clear_31 : decode cX5_clear 31 = .ok (.iinc 1 1, 3) := by decide +kernel
theorem dX5_clear_34 : decode cX5_clear 34 = .ok (.goto (-22), 3) := by decide +kernel
theorem dX5_clear_37 : decode cX5_clear 37 = .ok (.return_, 1) := by decide +kernel
def lX5_clear_12 (F : Nat)  (t : Nat) : Nat → mS → Int32 → Option mS
  | 0, _, _ => none
  | n + 1, S, v1 => if (3 : Int32) ≤ v1 then (some S) else (ck (inb v1 3) (stp (sI S (t + 2) v1.toNatClampNeg (0 : Int32)) fun S2 => ck (inb v1 3) (stp (sI S2 (t + 3) v1.toNatClampNeg (0 : Int32)) fun S4 => lX5_clear_12 F  t n S4 (v1 + 1))))
set_option maxHeartbeats 4000000 in
set_option maxRecDepth 100000 in
theorem gX5_clear_12 {x : mX} {F : Nat} {t : Nat}   {R : mS} (ht : kd0 t = 5)  : ∀ (n : Nat) (S : mS) (v1 : Int32), lX5_clear_12 F  t n S v1 = some R → mG x μX5_clear 1 0 0 (mQe R none) 0 0 E0 S 12 [(0, .ref (t)), (1, .int (v1))] [] := by
  intro n
  induction n with
  | zero =>
    intro S v1 h
    cases h
  | succ n ih =>
    intro S v1 h
    unfold lX5_clear_12 at h
    refine mG.iload_n 1 dX5_clear_12 rfl ?_
    refine mG.iconst (v := 3) dX5_clear_13 rfl ?_
    refine mG.icmp_ge 37 dX5_clear_14 (by decide) (fun c5 => ?_) (fun c5 => ?_)
    · replace h := itp c5 h
      obtain rfl := Option.some.inj h
      exact mG.vret dX5_clear_37 rfl ⟨rfl, rfl, rfl⟩
    · replace h := itn c5 h
      refine mG.aload_n 0 dX5_clear_17 rfl ?_
      refine mG.get (v := .ref (t + 2)) dX5_clear_18 mfX5_15 ht (lr5_lawFrom ht) ?_
      refine mG.iload_n 1 dX5_clear_21 rfl ?_
      refine mG.iconst (v := 0) dX5_clear_22 rfl ?_
      obtain ⟨b1, h⟩ := ckp h
      obtain ⟨S2, hS2, h⟩ := stpp h
      refine mG.iast dX5_clear_23 (lk5_lawFrom ht) (ll5_lawFrom ht) (inbp b1) hS2 ?_
      refine mG.aload_n 0 dX5_clear_24 rfl ?_
      refine mG.get (v := .ref (t + 3)) dX5_clear_25 mfX5_18 ht (lr5_lawTo ht) ?_
      refine mG.iload_n 1 dX5_clear_28 rfl ?_
      refine mG.iconst (v := 0) dX5_clear_29 rfl ?_
      obtain ⟨b3, h⟩ := ckp h
      obtain ⟨S4, hS4, h⟩ := stpp h
      refine mG.iast dX5_clear_30 (lk5_lawTo ht) (ll5_lawTo ht) (inbp b3) hS4 ?_
      refine mG.iinc 1 (u := v1 + 1) (lv2 := [(1, .int (v1 + 1)), (0, .ref (t))]) dX5_clear_31 rfl rfl (by decide) rfl ?_
      refine mG.goto 12 dX5_clear_34 (by decide) ?_
      refine mG.sub (lv2 := [(0, .ref (t)), (1, .int (v1 + 1))]) [1, 0] rfl ?_
      exact ih S4 (v1 + 1)  h
def f_X5_clear (F : Nat) (S : mS) (t : Nat) : Option mS := stp (sI S t 1 (0 : Int32)) fun S1 => stp (sI S1 t 5 (0 : Int32)) fun S2 => lX5_clear_12 F  t F S2 (0 : Int32)
set_option maxHeartbeats 4000000 in
set_option maxRecDepth 100000 in
theorem c_X5_clear {F : Nat} {S : mS} {t : Nat} {R : mS} (ht : kd0 t = 5) (h : f_X5_clear F S t = some R) : mCt μX5_clear 1 0 0 E0 S [.ref (t)] (mQe R none) := by
  unfold f_X5_clear at h
  refine mCt.of (by decide) (Nat.le_of_ble_eq_true rfl) ?_
  intro x
  refine mG.aload_n 0 dX5_clear_0 rfl ?_
  refine mG.iconst (v := 0) dX5_clear_1 rfl ?_
  obtain ⟨S1, hS1, h⟩ := stpp h
  refine mG.putI dX5_clear_2 mfX5_24 rfl (Or.inl rfl) ht hS1 ?_
  refine mG.aload_n 0 dX5_clear_5 rfl ?_
  refine mG.iconst (v := 0) dX5_clear_6 rfl ?_
  obtain ⟨S2, hS2, h⟩ := stpp h
  refine mG.putI dX5_clear_7 mfX5_28 rfl (Or.inl rfl) ht hS2 ?_
  refine mG.iconst (v := 0) dX5_clear_10 rfl ?_
  refine mG.istore_n (lv2 := [(1, .int 0), (0, .ref (t))]) dX5_clear_11 rfl (by decide) rfl ?_
  refine mG.sub (lv2 := [(0, .ref (t)), (1, .int 0)]) [1, 0] rfl ?_
  exact gX5_clear_12 ht  F S2 (0 : Int32)  h
theorem dX5_copyFrom_0 : decode cX5_copyFrom 0 = .ok (.aload_n 1, 1) := by decide +kernel
theorem dX5_copyFrom_1 : decode cX5_copyFrom 1 = .ok (.getfield 9, 3) := by decide +kernel
theorem dX5_copyFrom_4 : decode cX5_copyFrom 4 = .ok (.iconst 0, 1) := by decide +kernel
theorem dX5_copyFrom_5 : decode cX5_copyFrom 5 = .ok (.aload_n 0, 1) := by decide +kernel
theorem dX5_copyFrom_6 : decode cX5_copyFrom 6 = .ok (.getfield 9, 3) := by decide +kernel
theorem dX5_copyFrom_9 : decode cX5_copyFrom 9 = .ok (.iconst 0, 1) := by decide +kernel
theorem dX5_copyFrom_10 : decode cX5_copyFrom 10 = .ok (.sipush 300, 3) := by decide +kernel
theorem dX5_copyFrom_13 : decode cX5_copyFrom 13 = .ok (.invokestatic 31, 3) := by decide +kernel
theorem dX5_copyFrom_16 : decode cX5_copyFrom 16 = .ok (.aload_n 0, 1) := by decide +kernel
theorem dX5_copyFrom_17 : decode cX5_copyFrom 17 = .ok (.aload_n 1, 1) := by decide +kernel
theorem dX5_copyFrom_18 : decode cX5_copyFrom 18 = .ok (.getfield 24, 3) := by decide +kernel
theorem dX5_copyFrom_21 : decode cX5_copyFrom 21 = .ok (.putfield 24, 3) := by decide +kernel
theorem dX5_copyFrom_24 : decode cX5_copyFrom 24 = .ok (.aload_n 1, 1) := by decide +kernel
theorem dX5_copyFrom_25 : decode cX5_copyFrom 25 = .ok (.getfield 15, 3) := by decide +kernel
theorem dX5_copyFrom_28 : decode cX5_copyFrom 28 = .ok (.iconst 0, 1) := by decide +kernel
theorem dX5_copyFrom_29 : decode cX5_copyFrom 29 = .ok (.aload_n 0, 1) := by decide +kernel
theorem dX5_copyFrom_30 : decode cX5_copyFrom 30 = .ok (.getfield 15, 3) := by decide +kernel
theorem dX5_copyFrom_33 : decode cX5_copyFrom 33 = .ok (.iconst 0, 1) := by decide +kernel
theorem dX5_copyFrom_34 : decode cX5_copyFrom 34 = .ok (.iconst 3, 1) := by decide +kernel
theorem dX5_copyFrom_35 : decode cX5_copyFrom 35 = .ok (.invokestatic 31, 3) := by decide +kernel
theorem dX5_copyFrom_38 : decode cX5_copyFrom 38 = .ok (.aload_n 1, 1) := by decide +kernel
theorem dX5_copyFrom_39 : decode cX5_copyFrom 39 = .ok (.getfield 18, 3) := by decide +kernel
theorem dX5_copyFrom_42 : decode cX5_copyFrom 42 = .ok (.iconst 0, 1) := by decide +kernel
theorem dX5_copyFrom_43 : decode cX5_copyFrom 43 = .ok (.aload_n 0, 1) := by decide +kernel
theorem dX5_copyFrom_44 : decode cX5_copyFrom 44 = .ok (.getfield 18, 3) := by decide +kernel
theorem dX5_copyFrom_47 : decode cX5_copyFrom 47 = .ok (.iconst 0, 1) := by decide +kernel
theorem dX5_copyFrom_48 : decode cX5_copyFrom 48 = .ok (.iconst 3, 1) := by decide +kernel
theorem dX5_copyFrom_49 : decode cX5_copyFrom 49 = .ok (.invokestatic 31, 3) := by decide +kernel
theorem dX5_copyFrom_52 : decode cX5_copyFrom 52 = .ok (.aload_n 1, 1) := by decide +kernel
theorem dX5_copyFrom_53 : decode cX5_copyFrom 53 = .ok (.getfield 21, 3) := by decide +kernel
theorem dX5_copyFrom_56 : decode cX5_copyFrom 56 = .ok (.iconst 0, 1) := by decide +kernel
theorem dX5_copyFrom_57 : decode cX5_copyFrom 57 = .ok (.aload_n 0, 1) := by decide +kernel
theorem dX5_copyFrom_58 : decode cX5_copyFrom 58 = .ok (.getfield 21, 3) := by decide +kernel
theorem dX5_copyFrom_61 : decode cX5_copyFrom 61 = .ok (.iconst 0, 1) := by decide +kernel
theorem dX5_copyFrom_62 : decode cX5_copyFrom 62 = .ok (.bipush 96, 2) := by decide +kernel
theorem dX5_copyFrom_64 : decode cX5_copyFrom 64 = .ok (.invokestatic 31, 3) := by decide +kernel
theorem dX5_copyFrom_67 : decode cX5_copyFrom 67 = .ok (.aload_n 0, 1) := by decide +kernel
theorem dX5_copyFrom_68 : decode cX5_copyFrom 68 = .ok (.aload_n 1, 1) := by decide +kernel
theorem dX5_copyFrom_69 : decode cX5_copyFrom 69 = .ok (.getfield 28, 3) := by decide +kernel
theorem dX5_copyFrom_72 : decode cX5_copyFrom 72 = .ok (.putfield 28, 3) := by decide +kernel
theorem dX5_copyFrom_75 : decode cX5_copyFrom 75 = .ok (.return_, 1) := by decide +kernel
def f_X5_copyFrom (F : Nat) (S : mS) (t : Nat) (a1 : Nat) : Option mS := ck (cpo (0 : Int32) (0 : Int32) (300 : Int32) 300 300) (stp (sC S (a1 + 1) (t + 1) (0 : Int32).toNatClampNeg (0 : Int32).toNatClampNeg (300 : Int32).toNatClampNeg) fun S2 => stp (sI S2 t 1 (S2.1 a1 1)) fun S3 => ck (cpo (0 : Int32) (0 : Int32) (3 : Int32) 3 3) (stp (sC S3 (a1 + 2) (t + 2) (0 : Int32).toNatClampNeg (0 : Int32).toNatClampNeg (3 : Int32).toNatClampNeg) fun S5 => ck (cpo (0 : Int32) (0 : Int32) (3 : Int32) 3 3) (stp (sC S5 (a1 + 3) (t + 3) (0 : Int32).toNatClampNeg (0 : Int32).toNatClampNeg (3 : Int32).toNatClampNeg) fun S7 => ck (cpo (0 : Int32) (0 : Int32) (96 : Int32) 96 96) (stp (sC S7 (a1 + 4) (t + 4) (0 : Int32).toNatClampNeg (0 : Int32).toNatClampNeg (96 : Int32).toNatClampNeg) fun S9 => stp (sI S9 t 5 (S9.1 a1 5)) fun S10 => some S10))))
set_option maxHeartbeats 4000000 in
set_option maxRecDepth 100000 in
theorem c_X5_copyFrom {F : Nat} {S : mS} {t : Nat} {a1 : Nat} {R : mS} (ht : kd0 t = 5) (ha1 : kd0 a1 = 5) (h : f_X5_copyFrom F S t a1 = some R) : mCt μX5_copyFrom 1 0 0 E0 S [.ref (t), .ref (a1)] (mQe R none) := by
  unfold f_X5_copyFrom at h
  refine mCt.of (by decide) (Nat.le_of_ble_eq_true rfl) ?_
  intro x
  refine mG.aload_n 1 dX5_copyFrom_0 rfl ?_
  refine mG.get (v := .ref (a1 + 1)) dX5_copyFrom_1 mfX5_9 ha1 (lr5_code ha1) ?_
  refine mG.iconst (v := 0) dX5_copyFrom_4 rfl ?_
  refine mG.aload_n 0 dX5_copyFrom_5 rfl ?_
  refine mG.get (v := .ref (t + 1)) dX5_copyFrom_6 mfX5_9 ht (lr5_code ht) ?_
  refine mG.iconst (v := 0) dX5_copyFrom_9 rfl ?_
  refine mG.sipush (v := 300) dX5_copyFrom_10 (by decide) ?_
  obtain ⟨b1, h⟩ := ckp h
  obtain ⟨S2, hS2, h⟩ := stpp h
  refine mG.acopy dX5_copyFrom_13 wk19_16 (by decide) (Nat.le_of_ble_eq_true rfl) (lk5_code ha1) (lk5_code ht) (cpop b1).1 (cpop b1).2.1 (cpop b1).2.2.1 (by rw [show E0.2.2.1 _ = _ from (ll5_code ha1)]; exact (cpop b1).2.2.2.1) (by rw [show E0.2.2.1 _ = _ from (ll5_code ht)]; exact (cpop b1).2.2.2.2) hS2 ?_
  refine mG.aload_n 0 dX5_copyFrom_16 rfl ?_
  refine mG.aload_n 1 dX5_copyFrom_17 rfl ?_
  refine mG.get (v := .int (S2.1 a1 1)) dX5_copyFrom_18 mfX5_24 ha1 rfl ?_
  obtain ⟨S3, hS3, h⟩ := stpp h
  refine mG.putI dX5_copyFrom_21 mfX5_24 rfl (Or.inl rfl) ht hS3 ?_
  refine mG.aload_n 1 dX5_copyFrom_24 rfl ?_
  refine mG.get (v := .ref (a1 + 2)) dX5_copyFrom_25 mfX5_15 ha1 (lr5_lawFrom ha1) ?_
  refine mG.iconst (v := 0) dX5_copyFrom_28 rfl ?_
  refine mG.aload_n 0 dX5_copyFrom_29 rfl ?_
  refine mG.get (v := .ref (t + 2)) dX5_copyFrom_30 mfX5_15 ht (lr5_lawFrom ht) ?_
  refine mG.iconst (v := 0) dX5_copyFrom_33 rfl ?_
  refine mG.iconst (v := 3) dX5_copyFrom_34 rfl ?_
  obtain ⟨b4, h⟩ := ckp h
  obtain ⟨S5, hS5, h⟩ := stpp h
  refine mG.acopy dX5_copyFrom_35 wk19_16 (by decide) (Nat.le_of_ble_eq_true rfl) (lk5_lawFrom ha1) (lk5_lawFrom ht) (cpop b4).1 (cpop b4).2.1 (cpop b4).2.2.1 (by rw [show E0.2.2.1 _ = _ from (ll5_lawFrom ha1)]; exact (cpop b4).2.2.2.1) (by rw [show E0.2.2.1 _ = _ from (ll5_lawFrom ht)]; exact (cpop b4).2.2.2.2) hS5 ?_
  refine mG.aload_n 1 dX5_copyFrom_38 rfl ?_
  refine mG.get (v := .ref (a1 + 3)) dX5_copyFrom_39 mfX5_18 ha1 (lr5_lawTo ha1) ?_
  refine mG.iconst (v := 0) dX5_copyFrom_42 rfl ?_
  refine mG.aload_n 0 dX5_copyFrom_43 rfl ?_
  refine mG.get (v := .ref (t + 3)) dX5_copyFrom_44 mfX5_18 ht (lr5_lawTo ht) ?_
  refine mG.iconst (v := 0) dX5_copyFrom_47 rfl ?_
  refine mG.iconst (v := 3) dX5_copyFrom_48 rfl ?_
  obtain ⟨b6, h⟩ := ckp h
  obtain ⟨S7, hS7, h⟩ := stpp h
  refine mG.acopy dX5_copyFrom_49 wk19_16 (by decide) (Nat.le_of_ble_eq_true rfl) (lk5_lawTo ha1) (lk5_lawTo ht) (cpop b6).1 (cpop b6).2.1 (cpop b6).2.2.1 (by rw [show E0.2.2.1 _ = _ from (ll5_lawTo ha1)]; exact (cpop b6).2.2.2.1) (by rw [show E0.2.2.1 _ = _ from (ll5_lawTo ht)]; exact (cpop b6).2.2.2.2) hS7 ?_
  refine mG.aload_n 1 dX5_copyFrom_52 rfl ?_
  refine mG.get (v := .ref (a1 + 4)) dX5_copyFrom_53 mfX5_21 ha1 (lr5_rows ha1) ?_
  refine mG.iconst (v := 0) dX5_copyFrom_56 rfl ?_
  refine mG.aload_n 0 dX5_copyFrom_57 rfl ?_
  refine mG.get (v := .ref (t + 4)) dX5_copyFrom_58 mfX5_21 ht (lr5_rows ht) ?_
  refine mG.iconst (v := 0) dX5_copyFrom_61 rfl ?_
  refine mG.bipush (v := 96) dX5_copyFrom_62 (by decide) ?_
  obtain ⟨b8, h⟩ := ckp h
  obtain ⟨S9, hS9, h⟩ := stpp h
  refine mG.acopy dX5_copyFrom_64 wk19_16 (by decide) (Nat.le_of_ble_eq_true rfl) (lk5_rows ha1) (lk5_rows ht) (cpop b8).1 (cpop b8).2.1 (cpop b8).2.2.1 (by rw [show E0.2.2.1 _ = _ from (ll5_rows ha1)]; exact (cpop b8).2.2.2.1) (by rw [show E0.2.2.1 _ = _ from (ll5_rows ht)]; exact (cpop b8).2.2.2.2) hS9 ?_
  refine mG.aload_n 0 dX5_copyFrom_67 rfl ?_
  refine mG.aload_n 1 dX5_copyFrom_68 rfl ?_
  refine mG.get (v := .int (S9.1 a1 5)) dX5_copyFrom_69 mfX5_28 ha1 rfl ?_
  obtain ⟨S10, hS10, h⟩ := stpp h
  refine mG.putI dX5_copyFrom_72 mfX5_28 rfl (Or.inl rfl) ht hS10 ?_
  obtain rfl := Option.some.inj h
  exact mG.vret dX5_copyFrom_75 rfl ⟨rfl, rfl, rfl⟩
theorem dX5_append_0 : decode cX5_append 0 = .ok (.aload_n 0, 1) := by decide +kernel
theorem dX5_append_1 : decode cX5_append 1 = .ok (.getfield 24, 3) := by decide +kernel
theorem dX5_append_4 : decode cX5_append 4 = .ok (.sipush 300, 3) := by decide +kernel
theorem dX5_append_7 : decode cX5_append 7 = .ok (.if_icmp .ge 23, 3) := by decide +kernel
theorem dX5_append_10 : decode cX5_append 10 = .ok (.aload_n 0, 1) := by decide +kernel
theorem dX5_append_11 : decode cX5_append 11 = .ok (.getfield 9, 3) := by decide +kernel
theorem dX5_append_14 : decode cX5_append 14 = .ok (.aload_n 0, 1) := by decide +kernel
theorem dX5_append_15 : decode cX5_append 15 = .ok (.getfield 24, 3) := by decide +kernel
theorem dX5_append_18 : decode cX5_append 18 = .ok (.iload_n 1, 1) := by decide +kernel
theorem dX5_append_19 : decode cX5_append 19 = .ok (.iastore, 1) := by decide +kernel
theorem dX5_append_20 : decode cX5_append 20 = .ok (.aload_n 0, 1) := by decide +kernel
theorem dX5_append_21 : decode cX5_append 21 = .ok (.dup, 1) := by decide +kernel
theorem dX5_append_22 : decode cX5_append 22 = .ok (.getfield 24, 3) := by decide +kernel
theorem dX5_append_25 : decode cX5_append 25 = .ok (.iconst 1, 1) := by decide +kernel
theorem dX5_append_26 : decode cX5_append 26 = .ok (.iadd, 1) := by decide +kernel
theorem dX5_append_27 : decode cX5_append 27 = .ok (.putfield 24, 3) := by decide +kernel
theorem dX5_append_30 : decode cX5_append 30 = .ok (.return_, 1) := by decide +kernel
def f_X5_append (F : Nat) (S : mS) (t : Nat) (a1 : Int32) : Option mS := if (300 : Int32) ≤ (S.1 t 1) then (some S) else (ck (inb (S.1 t 1) 300) (stp (sI S (t + 1) (S.1 t 1).toNatClampNeg a1) fun S2 => stp (sI S2 t 1 ((S2.1 t 1) + (1 : Int32))) fun S3 => some S3))
set_option maxHeartbeats 4000000 in
set_option maxRecDepth 100000 in
theorem c_X5_append {F : Nat} {S : mS} {t : Nat} {a1 : Int32} {R : mS} (ht : kd0 t = 5) (h : f_X5_append F S t a1 = some R) : mCt μX5_append 1 0 0 E0 S [.ref (t), .int (a1)] (mQe R none) := by
  unfold f_X5_append at h
  refine mCt.of (by decide) (Nat.le_of_ble_eq_true rfl) ?_
  intro x
  refine mG.aload_n 0 dX5_append_0 rfl ?_
  refine mG.get (v := .int (S.1 t 1)) dX5_append_1 mfX5_24 ht rfl ?_
  refine mG.sipush (v := 300) dX5_append_4 (by decide) ?_
  refine mG.icmp_ge 30 dX5_append_7 (by decide) (fun c4 => ?_) (fun c4 => ?_)
  · replace h := itp c4 h
    obtain rfl := Option.some.inj h
    exact mG.vret dX5_append_30 rfl ⟨rfl, rfl, rfl⟩
  · replace h := itn c4 h
    refine mG.aload_n 0 dX5_append_10 rfl ?_
    refine mG.get (v := .ref (t + 1)) dX5_append_11 mfX5_9 ht (lr5_code ht) ?_
    refine mG.aload_n 0 dX5_append_14 rfl ?_
    refine mG.get (v := .int (S.1 t 1)) dX5_append_15 mfX5_24 ht rfl ?_
    refine mG.iload_n 1 dX5_append_18 rfl ?_
    obtain ⟨b1, h⟩ := ckp h
    obtain ⟨S2, hS2, h⟩ := stpp h
    refine mG.iast dX5_append_19 (lk5_code ht) (ll5_code ht) (inbp b1) hS2 ?_
    refine mG.aload_n 0 dX5_append_20 rfl ?_
    refine mG.dup dX5_append_21 rfl ?_
    refine mG.get (v := .int (S2.1 t 1)) dX5_append_22 mfX5_24 ht rfl ?_
    refine mG.iconst (v := 1) dX5_append_25 rfl ?_
    refine mG.iadd dX5_append_26 ?_
    obtain ⟨S3, hS3, h⟩ := stpp h
    refine mG.putI dX5_append_27 mfX5_24 rfl (Or.inl rfl) ht hS3 ?_
    obtain rfl := Option.some.inj h
    exact mG.vret dX5_append_30 rfl ⟨rfl, rfl, rfl⟩
theorem dX5_appendClause_0 : decode cX5_appendClause 0 = .ok (.aload_n 0, 1) := by decide +kernel
theorem dX5_appendClause_1 : decode cX5_appendClause 1 = .ok (.getfield 28, 3) := by decide +kernel
theorem dX5_appendClause_4 : decode cX5_appendClause 4 = .ok (.bipush 24, 2) := by decide +kernel
theorem dX5_appendClause_6 : decode cX5_appendClause 6 = .ok (.if_icmp .ge 60, 3) := by decide +kernel
theorem dX5_appendClause_9 : decode cX5_appendClause 9 = .ok (.aload_n 0, 1) := by decide +kernel
theorem dX5_appendClause_10 : decode cX5_appendClause 10 = .ok (.getfield 28, 3) := by decide +kernel
theorem dX5_appendClause_13 : decode cX5_appendClause 13 = .ok (.iconst 4, 1) := by decide +kernel
theorem dX5_appendClause_14 : decode cX5_appendClause 14 = .ok (.imul, 1) := by decide +kernel
theorem dX5_appendClause_15 : decode cX5_appendClause 15 = .ok (.istore 5, 2) := by decide +kernel
theorem dX5_appendClause_17 : decode cX5_appendClause 17 = .ok (.aload_n 0, 1) := by decide +kernel
theorem dX5_appendClause_18 : decode cX5_appendClause 18 = .ok (.getfield 21, 3) := by decide +kernel
theorem dX5_appendClause_21 : decode cX5_appendClause 21 = .ok (.iload 5, 2) := by decide +kernel
theorem dX5_appendClause_23 : decode cX5_appendClause 23 = .ok (.iload_n 1, 1) := by decide +kernel
theorem dX5_appendClause_24 : decode cX5_appendClause 24 = .ok (.iastore, 1) := by decide +kernel
theorem dX5_appendClause_25 : decode cX5_appendClause 25 = .ok (.aload_n 0, 1) := by decide +kernel
theorem dX5_appendClause_26 : decode cX5_appendClause 26 = .ok (.getfield 21, 3) := by decide +kernel
theorem dX5_appendClause_29 : decode cX5_appendClause 29 = .ok (.iload 5, 2) := by decide +kernel
theorem dX5_appendClause_31 : decode cX5_appendClause 31 = .ok (.iconst 1, 1) := by decide +kernel
theorem dX5_appendClause_32 : decode cX5_appendClause 32 = .ok (.iadd, 1) := by decide +kernel
theorem dX5_appendClause_33 : decode cX5_appendClause 33 = .ok (.iload_n 2, 1) := by decide +kernel
theorem dX5_appendClause_34 : decode cX5_appendClause 34 = .ok (.iastore, 1) := by decide +kernel
theorem dX5_appendClause_35 : decode cX5_appendClause 35 = .ok (.aload_n 0, 1) := by decide +kernel
theorem dX5_appendClause_36 : decode cX5_appendClause 36 = .ok (.getfield 21, 3) := by decide +kernel
theorem dX5_appendClause_39 : decode cX5_appendClause 39 = .ok (.iload 5, 2) := by decide +kernel
theorem dX5_appendClause_41 : decode cX5_appendClause 41 = .ok (.iconst 2, 1) := by decide +kernel
theorem dX5_appendClause_42 : decode cX5_appendClause 42 = .ok (.iadd, 1) := by decide +kernel
theorem dX5_appendClause_43 : decode cX5_appendClause 43 = .ok (.iload_n 3, 1) := by decide +kernel
theorem dX5_appendClause_44 : decode cX5_appendClause 44 = .ok (.iastore, 1) := by decide +kernel
theorem dX5_appendClause_45 : decode cX5_appendClause 45 = .ok (.aload_n 0, 1) := by decide +kernel
theorem dX5_appendClause_46 : decode cX5_appendClause 46 = .ok (.getfield 21, 3) := by decide +kernel
theorem dX5_appendClause_49 : decode cX5_appendClause 49 = .ok (.iload 5, 2) := by decide +kernel
theorem dX5_appendClause_51 : decode cX5_appendClause 51 = .ok (.iconst 3, 1) := by decide +kernel
theorem dX5_appendClause_52 : decode cX5_appendClause 52 = .ok (.iadd, 1) := by decide +kernel
theorem dX5_appendClause_53 : decode cX5_appendClause 53 = .ok (.iload 4, 2) := by decide +kernel
theorem dX5_appendClause_55 : decode cX5_appendClause 55 = .ok (.iastore, 1) := by decide +kernel
theorem dX5_appendClause_56 : decode cX5_appendClause 56 = .ok (.aload_n 0, 1) := by decide +kernel
theorem dX5_appendClause_57 : decode cX5_appendClause 57 = .ok (.dup, 1) := by decide +kernel
theorem dX5_appendClause_58 : decode cX5_appendClause 58 = .ok (.getfield 28, 3) := by decide +kernel
theorem dX5_appendClause_61 : decode cX5_appendClause 61 = .ok (.iconst 1, 1) := by decide +kernel
theorem dX5_appendClause_62 : decode cX5_appendClause 62 = .ok (.iadd, 1) := by decide +kernel
theorem dX5_appendClause_63 : decode cX5_appendClause 63 = .ok (.putfield 28, 3) := by decide +kernel
theorem dX5_appendClause_66 : decode cX5_appendClause 66 = .ok (.return_, 1) := by decide +kernel
def f_X5_appendClause (F : Nat) (S : mS) (t : Nat) (a1 : Int32) (a2 : Int32) (a3 : Int32) (a4 : Int32) : Option mS := if (24 : Int32) ≤ (S.1 t 5) then (some S) else (ck (inb ((S.1 t 5) * (4 : Int32)) 96) (stp (sI S (t + 4) ((S.1 t 5) * (4 : Int32)).toNatClampNeg a1) fun S2 => ck (inb (((S.1 t 5) * (4 : Int32)) + (1 : Int32)) 96) (stp (sI S2 (t + 4) (((S.1 t 5) * (4 : Int32)) + (1 : Int32)).toNatClampNeg a2) fun S4 => ck (inb (((S.1 t 5) * (4 : Int32)) + (2 : Int32)) 96) (stp (sI S4 (t + 4) (((S.1 t 5) * (4 : Int32)) + (2 : Int32)).toNatClampNeg a3) fun S6 => ck (inb (((S.1 t 5) * (4 : Int32)) + (3 : Int32)) 96) (stp (sI S6 (t + 4) (((S.1 t 5) * (4 : Int32)) + (3 : Int32)).toNatClampNeg a4) fun S8 => stp (sI S8 t 5 ((S8.1 t 5) + (1 : Int32))) fun S9 => some S9)))))
set_option maxHeartbeats 4000000 in
set_option maxRecDepth 100000 in
theorem c_X5_appendClause {F : Nat} {S : mS} {t : Nat} {a1 : Int32} {a2 : Int32} {a3 : Int32} {a4 : Int32} {R : mS} (ht : kd0 t = 5) (h : f_X5_appendClause F S t a1 a2 a3 a4 = some R) : mCt μX5_appendClause 1 0 0 E0 S [.ref (t), .int (a1), .int (a2), .int (a3), .int (a4)] (mQe R none) := by
  unfold f_X5_appendClause at h
  refine mCt.of (by decide) (Nat.le_of_ble_eq_true rfl) ?_
  intro x
  refine mG.aload_n 0 dX5_appendClause_0 rfl ?_
  refine mG.get (v := .int (S.1 t 5)) dX5_appendClause_1 mfX5_28 ht rfl ?_
  refine mG.bipush (v := 24) dX5_appendClause_4 (by decide) ?_
  refine mG.icmp_ge 66 dX5_appendClause_6 (by decide) (fun c10 => ?_) (fun c10 => ?_)
  · replace h := itp c10 h
    obtain rfl := Option.some.inj h
    exact mG.vret dX5_appendClause_66 rfl ⟨rfl, rfl, rfl⟩
  · replace h := itn c10 h
    refine mG.aload_n 0 dX5_appendClause_9 rfl ?_
    refine mG.get (v := .int (S.1 t 5)) dX5_appendClause_10 mfX5_28 ht rfl ?_
    refine mG.iconst (v := 4) dX5_appendClause_13 rfl ?_
    refine mG.imul dX5_appendClause_14 ?_
    refine mG.istore (lv2 := [(5, .int ((S.1 t 5) * (4 : Int32))), (0, .ref (t)), (1, .int (a1)), (2, .int (a2)), (3, .int (a3)), (4, .int (a4))]) dX5_appendClause_15 (by decide) rfl ?_
    refine mG.aload_n 1 dX5_appendClause_17 rfl ?_
    refine mG.get (v := .ref (t + 4)) dX5_appendClause_18 mfX5_21 ht (lr5_rows ht) ?_
    refine mG.iload 0 dX5_appendClause_21 rfl ?_
    refine mG.iload_n 2 dX5_appendClause_23 rfl ?_
    obtain ⟨b1, h⟩ := ckp h
    obtain ⟨S2, hS2, h⟩ := stpp h
    refine mG.iast dX5_appendClause_24 (lk5_rows ht) (ll5_rows ht) (inbp b1) hS2 ?_
    refine mG.aload_n 1 dX5_appendClause_25 rfl ?_
    refine mG.get (v := .ref (t + 4)) dX5_appendClause_26 mfX5_21 ht (lr5_rows ht) ?_
    refine mG.iload 0 dX5_appendClause_29 rfl ?_
    refine mG.iconst (v := 1) dX5_appendClause_31 rfl ?_
    refine mG.iadd dX5_appendClause_32 ?_
    refine mG.iload_n 3 dX5_appendClause_33 rfl ?_
    obtain ⟨b3, h⟩ := ckp h
    obtain ⟨S4, hS4, h⟩ := stpp h
    refine mG.iast dX5_appendClause_34 (lk5_rows ht) (ll5_rows ht) (inbp b3) hS4 ?_
    refine mG.aload_n 1 dX5_appendClause_35 rfl ?_
    refine mG.get (v := .ref (t + 4)) dX5_appendClause_36 mfX5_21 ht (lr5_rows ht) ?_
    refine mG.iload 0 dX5_appendClause_39 rfl ?_
    refine mG.iconst (v := 2) dX5_appendClause_41 rfl ?_
    refine mG.iadd dX5_appendClause_42 ?_
    refine mG.iload_n 4 dX5_appendClause_43 rfl ?_
    obtain ⟨b5, h⟩ := ckp h
    obtain ⟨S6, hS6, h⟩ := stpp h
    refine mG.iast dX5_appendClause_44 (lk5_rows ht) (ll5_rows ht) (inbp b5) hS6 ?_
    refine mG.aload_n 1 dX5_appendClause_45 rfl ?_
    refine mG.get (v := .ref (t + 4)) dX5_appendClause_46 mfX5_21 ht (lr5_rows ht) ?_
    refine mG.iload 0 dX5_appendClause_49 rfl ?_
    refine mG.iconst (v := 3) dX5_appendClause_51 rfl ?_
    refine mG.iadd dX5_appendClause_52 ?_
    refine mG.iload 5 dX5_appendClause_53 rfl ?_
    obtain ⟨b7, h⟩ := ckp h
    obtain ⟨S8, hS8, h⟩ := stpp h
    refine mG.iast dX5_appendClause_55 (lk5_rows ht) (ll5_rows ht) (inbp b7) hS8 ?_
    refine mG.aload_n 1 dX5_appendClause_56 rfl ?_
    refine mG.dup dX5_appendClause_57 rfl ?_
    refine mG.get (v := .int (S8.1 t 5)) dX5_appendClause_58 mfX5_28 ht rfl ?_
    refine mG.iconst (v := 1) dX5_appendClause_61 rfl ?_
    refine mG.iadd dX5_appendClause_62 ?_
    obtain ⟨S9, hS9, h⟩ := stpp h
    refine mG.putI dX5_appendClause_63 mfX5_28 rfl (Or.inl rfl) ht hS9 ?_
    obtain rfl := Option.some.inj h
    exact mG.vret dX5_appendClause_66 rfl ⟨rfl, rfl, rfl⟩
theorem dX5_kindOf_0 : decode cX5_kindOf 0 = .ok (.iload_n 1, 1) := by decide +kernel
theorem dX5_kindOf_1 : decode cX5_kindOf 1 = .ok (.iconst 0, 1) := by decide +kernel
theorem dX5_kindOf_2 : decode cX5_kindOf 2 = .ok (.bipush 23, 2) := by decide +kernel
theorem dX5_kindOf_4 : decode cX5_kindOf 4 = .ok (.invokestatic 37, 3) := by decide +kernel
theorem dX5_kindOf_7 : decode cX5_kindOf 7 = .ok (.ifCond .eq 14, 3) := by decide +kernel
theorem dX5_kindOf_10 : decode cX5_kindOf 10 = .ok (.aload_n 0, 1) := by decide +kernel
theorem dX5_kindOf_11 : decode cX5_kindOf 11 = .ok (.getfield 21, 3) := by decide +kernel
theorem dX5_kindOf_14 : decode cX5_kindOf 14 = .ok (.iload_n 1, 1) := by decide +kernel
theorem dX5_kindOf_15 : decode cX5_kindOf 15 = .ok (.iconst 4, 1) := by decide +kernel
theorem dX5_kindOf_16 : decode cX5_kindOf 16 = .ok (.imul, 1) := by decide +kernel
theorem dX5_kindOf_17 : decode cX5_kindOf 17 = .ok (.iaload, 1) := by decide +kernel
theorem dX5_kindOf_18 : decode cX5_kindOf 18 = .ok (.goto 4, 3) := by decide +kernel
theorem dX5_kindOf_21 : decode cX5_kindOf 21 = .ok (.iconst 0, 1) := by decide +kernel
theorem dX5_kindOf_22 : decode cX5_kindOf 22 = .ok (.ireturn, 1) := by decide +kernel
def f_X5_kindOf (F : Nat) (S0 : mS) (t : Nat) (a1 : Int32) : Option Int32 := if (f_X8_isWithin S0 a1 (0 : Int32) (23 : Int32)) = true then (ck (inb (a1 * (4 : Int32)) 96) (some (S0.1 (t + 4) (a1 * (4 : Int32)).toNatClampNeg))) else (some (0 : Int32))
set_option maxHeartbeats 4000000 in
set_option maxRecDepth 100000 in
theorem c_X5_kindOf {F : Nat} {S0 : mS} {t : Nat} {a1 : Int32} {R : Int32} (ht : kd0 t = 5) (h : f_X5_kindOf F S0 t a1 = some R) : mCt μX5_kindOf 2 0 0 E0 S0 [.ref (t), .int (a1)] (mQe S0 (some (.int R))) := by
  unfold f_X5_kindOf at h
  refine mCt.of (by decide) (Nat.le_of_ble_eq_true rfl) ?_
  intro x
  refine mG.iload_n 1 dX5_kindOf_0 rfl ?_
  refine mG.iconst (v := 0) dX5_kindOf_1 rfl ?_
  refine mG.bipush (v := 23) dX5_kindOf_2 (by decide) ?_
  refine mG.callSN0 (as := [.int (a1), .int 0, .int 23]) (st := []) (S2 := S0) (r := some (.int (bI (f_X8_isWithin S0 a1 (0 : Int32) (23 : Int32))))) dX5_kindOf_4 mbX8_isWithin wk6_19 (List.mem_of_getElem? (i := 10) rfl) rfl rfl (by decide) (Nat.le_of_ble_eq_true rfl) (c_X8_isWithin  rfl) ?_
  refine mG.ifz_eq (b := f_X8_isWithin S0 a1 (0 : Int32) (23 : Int32)) 21 dX5_kindOf_7 (by decide) (fun c2 => ?_) (fun c2 => ?_)
  · replace h := itn c2 h
    refine mG.iconst (v := 0) dX5_kindOf_21 rfl ?_
    obtain rfl := Option.some.inj h
    exact mG.iret dX5_kindOf_22 rfl ⟨rfl, rfl, rfl⟩
  · replace h := itp c2 h
    refine mG.aload_n 0 dX5_kindOf_10 rfl ?_
    refine mG.get (v := .ref (t + 4)) dX5_kindOf_11 mfX5_21 ht (lr5_rows ht) ?_
    refine mG.iload_n 1 dX5_kindOf_14 rfl ?_
    refine mG.iconst (v := 4) dX5_kindOf_15 rfl ?_
    refine mG.imul dX5_kindOf_16 ?_
    obtain ⟨b1, h⟩ := ckp h
    refine mG.iald dX5_kindOf_17 (lk5_rows ht) (ll5_rows ht) (inbp b1) ?_
    refine mG.goto 22 dX5_kindOf_18 (by decide) ?_
    obtain rfl := Option.some.inj h
    exact mG.iret dX5_kindOf_22 rfl ⟨rfl, rfl, rfl⟩
theorem dX5_numberOf_0 : decode cX5_numberOf 0 = .ok (.iload_n 1, 1) := by decide +kernel
theorem dX5_numberOf_1 : decode cX5_numberOf 1 = .ok (.iconst 0, 1) := by decide +kernel
theorem dX5_numberOf_2 : decode cX5_numberOf 2 = .ok (.bipush 23, 2) := by decide +kernel
theorem dX5_numberOf_4 : decode cX5_numberOf 4 = .ok (.invokestatic 37, 3) := by decide +kernel
theorem dX5_numberOf_7 : decode cX5_numberOf 7 = .ok (.ifCond .eq 12, 3) := by decide +kernel
theorem dX5_numberOf_10 : decode cX5_numberOf 10 = .ok (.iload_n 2, 1) := by decide +kernel
theorem dX5_numberOf_11 : decode cX5_numberOf 11 = .ok (.iconst 0, 1) := by decide +kernel
theorem dX5_numberOf_12 : decode cX5_numberOf 12 = .ok (.iconst 2, 1) := by decide +kernel
theorem dX5_numberOf_13 : decode cX5_numberOf 13 = .ok (.invokestatic 37, 3) := by decide +kernel
theorem dX5_numberOf_16 : decode cX5_numberOf 16 = .ok (.ifCond .ne 5, 3) := by decide +kernel
theorem dX5_numberOf_19 : decode cX5_numberOf 19 = .ok (.iconst (-1), 1) := by decide +kernel
theorem dX5_numberOf_20 : decode cX5_numberOf 20 = .ok (.ireturn, 1) := by decide +kernel
theorem dX5_numberOf_21 : decode cX5_numberOf 21 = .ok (.aload_n 0, 1) := by decide +kernel
theorem dX5_numberOf_22 : decode cX5_numberOf 22 = .ok (.getfield 21, 3) := by decide +kernel
theorem dX5_numberOf_25 : decode cX5_numberOf 25 = .ok (.iload_n 1, 1) := by decide +kernel
theorem dX5_numberOf_26 : decode cX5_numberOf 26 = .ok (.iconst 4, 1) := by decide +kernel
theorem dX5_numberOf_27 : decode cX5_numberOf 27 = .ok (.imul, 1) := by decide +kernel
theorem dX5_numberOf_28 : decode cX5_numberOf 28 = .ok (.iconst 1, 1) := by decide +kernel
theorem dX5_numberOf_29 : decode cX5_numberOf 29 = .ok (.iadd, 1) := by decide +kernel
theorem dX5_numberOf_30 : decode cX5_numberOf 30 = .ok (.iload_n 2, 1) := by decide +kernel
theorem dX5_numberOf_31 : decode cX5_numberOf 31 = .ok (.iadd, 1) := by decide +kernel
theorem dX5_numberOf_32 : decode cX5_numberOf 32 = .ok (.iaload, 1) := by decide +kernel
theorem dX5_numberOf_33 : decode cX5_numberOf 33 = .ok (.ireturn, 1) := by decide +kernel
def f_X5_numberOf (F : Nat) (S0 : mS) (t : Nat) (a1 : Int32) (a2 : Int32) : Option Int32 := if (f_X8_isWithin S0 a1 (0 : Int32) (23 : Int32)) = true then (if (f_X8_isWithin S0 a2 (0 : Int32) (2 : Int32)) = true then (ck (inb (((a1 * (4 : Int32)) + (1 : Int32)) + a2) 96) (some (S0.1 (t + 4) (((a1 * (4 : Int32)) + (1 : Int32)) + a2).toNatClampNeg))) else (some (-1 : Int32))) else (some (-1 : Int32))
set_option maxHeartbeats 4000000 in
set_option maxRecDepth 100000 in
theorem c_X5_numberOf {F : Nat} {S0 : mS} {t : Nat} {a1 : Int32} {a2 : Int32} {R : Int32} (ht : kd0 t = 5) (h : f_X5_numberOf F S0 t a1 a2 = some R) : mCt μX5_numberOf 2 0 0 E0 S0 [.ref (t), .int (a1), .int (a2)] (mQe S0 (some (.int R))) := by
  unfold f_X5_numberOf at h
  refine mCt.of (by decide) (Nat.le_of_ble_eq_true rfl) ?_
  intro x
  refine mG.iload_n 1 dX5_numberOf_0 rfl ?_
  refine mG.iconst (v := 0) dX5_numberOf_1 rfl ?_
  refine mG.bipush (v := 23) dX5_numberOf_2 (by decide) ?_
  refine mG.callSN0 (as := [.int (a1), .int 0, .int 23]) (st := []) (S2 := S0) (r := some (.int (bI (f_X8_isWithin S0 a1 (0 : Int32) (23 : Int32))))) dX5_numberOf_4 mbX8_isWithin wk6_19 (List.mem_of_getElem? (i := 10) rfl) rfl rfl (by decide) (Nat.le_of_ble_eq_true rfl) (c_X8_isWithin  rfl) ?_
  refine mG.ifz_eq (b := f_X8_isWithin S0 a1 (0 : Int32) (23 : Int32)) 19 dX5_numberOf_7 (by decide) (fun c3 => ?_) (fun c3 => ?_)
  · replace h := itn c3 h
    refine mG.iconst (v := (-1)) dX5_numberOf_19 rfl ?_
    obtain rfl := Option.some.inj h
    exact mG.iret dX5_numberOf_20 rfl ⟨rfl, rfl, rfl⟩
  · replace h := itp c3 h
    refine mG.iload_n 2 dX5_numberOf_10 rfl ?_
    refine mG.iconst (v := 0) dX5_numberOf_11 rfl ?_
    refine mG.iconst (v := 2) dX5_numberOf_12 rfl ?_
    refine mG.callSN0 (as := [.int (a2), .int 0, .int 2]) (st := []) (S2 := S0) (r := some (.int (bI (f_X8_isWithin S0 a2 (0 : Int32) (2 : Int32))))) dX5_numberOf_13 mbX8_isWithin wk6_19 (List.mem_of_getElem? (i := 10) rfl) rfl rfl (by decide) (Nat.le_of_ble_eq_true rfl) (c_X8_isWithin  rfl) ?_
    refine mG.ifz_ne (b := f_X8_isWithin S0 a2 (0 : Int32) (2 : Int32)) 21 dX5_numberOf_16 (by decide) (fun c2 => ?_) (fun c2 => ?_)
    · replace h := itp c2 h
      refine mG.aload_n 0 dX5_numberOf_21 rfl ?_
      refine mG.get (v := .ref (t + 4)) dX5_numberOf_22 mfX5_21 ht (lr5_rows ht) ?_
      refine mG.iload_n 1 dX5_numberOf_25 rfl ?_
      refine mG.iconst (v := 4) dX5_numberOf_26 rfl ?_
      refine mG.imul dX5_numberOf_27 ?_
      refine mG.iconst (v := 1) dX5_numberOf_28 rfl ?_
      refine mG.iadd dX5_numberOf_29 ?_
      refine mG.iload_n 2 dX5_numberOf_30 rfl ?_
      refine mG.iadd dX5_numberOf_31 ?_
      obtain ⟨b1, h⟩ := ckp h
      refine mG.iald dX5_numberOf_32 (lk5_rows ht) (ll5_rows ht) (inbp b1) ?_
      obtain rfl := Option.some.inj h
      exact mG.iret dX5_numberOf_33 rfl ⟨rfl, rfl, rfl⟩
    · replace h := itn c2 h
      refine mG.iconst (v := (-1)) dX5_numberOf_19 rfl ?_
      obtain rfl := Option.some.inj h
      exact mG.iret dX5_numberOf_20 rfl ⟨rfl, rfl, rfl⟩
theorem dX6_returnTo_0 : decode cX6_returnTo 0 = .ok (.bipush 7, 2) := by decide +kernel
theorem dX6_returnTo_2 : decode cX6_returnTo 2 = .ok (.aload_n 1, 1) := by decide +kernel
theorem dX6_returnTo_3 : decode cX6_returnTo 3 = .ok (.getfield 32, 3) := by decide +kernel
theorem dX6_returnTo_6 : decode cX6_returnTo 6 = .ok (.invokestatic 35, 3) := by decide +kernel
theorem dX6_returnTo_9 : decode cX6_returnTo 9 = .ok (.istore_n 2, 1) := by decide +kernel
theorem dX6_returnTo_10 : decode cX6_returnTo 10 = .ok (.aload_n 1, 1) := by decide +kernel
theorem dX6_returnTo_11 : decode cX6_returnTo 11 = .ok (.getfield 9, 3) := by decide +kernel
theorem dX6_returnTo_14 : decode cX6_returnTo 14 = .ok (.iconst 0, 1) := by decide +kernel
theorem dX6_returnTo_15 : decode cX6_returnTo 15 = .ok (.aload_n 0, 1) := by decide +kernel
theorem dX6_returnTo_16 : decode cX6_returnTo 16 = .ok (.getfield 9, 3) := by decide +kernel
theorem dX6_returnTo_19 : decode cX6_returnTo 19 = .ok (.iconst 0, 1) := by decide +kernel
theorem dX6_returnTo_20 : decode cX6_returnTo 20 = .ok (.iload_n 2, 1) := by decide +kernel
theorem dX6_returnTo_21 : decode cX6_returnTo 21 = .ok (.invokestatic 41, 3) := by decide +kernel
theorem dX6_returnTo_24 : decode cX6_returnTo 24 = .ok (.aload_n 1, 1) := by decide +kernel
theorem dX6_returnTo_25 : decode cX6_returnTo 25 = .ok (.getfield 15, 3) := by decide +kernel
theorem dX6_returnTo_28 : decode cX6_returnTo 28 = .ok (.iconst 0, 1) := by decide +kernel
theorem dX6_returnTo_29 : decode cX6_returnTo 29 = .ok (.aload_n 0, 1) := by decide +kernel
theorem dX6_returnTo_30 : decode cX6_returnTo 30 = .ok (.getfield 15, 3) := by decide +kernel
theorem dX6_returnTo_33 : decode cX6_returnTo 33 = .ok (.iconst 0, 1) := by decide +kernel
theorem dX6_returnTo_34 : decode cX6_returnTo 34 = .ok (.iload_n 2, 1) := by decide +kernel
theorem dX6_returnTo_35 : decode cX6_returnTo 35 = .ok (.invokestatic 41, 3) := by decide +kernel
theorem dX6_returnTo_38 : decode cX6_returnTo 38 = .ok (.aload_n 1, 1) := by decide +kernel
theorem dX6_returnTo_39 : decode cX6_returnTo 39 = .ok (.getfield 18, 3) := by decide +kernel
theorem dX6_returnTo_42 : decode cX6_returnTo 42 = .ok (.iconst 0, 1) := by decide +kernel
theorem dX6_returnTo_43 : decode cX6_returnTo 43 = .ok (.aload_n 0, 1) := by decide +kernel
theorem dX6_returnTo_44 : decode cX6_returnTo 44 = .ok (.getfield 18, 3) := by decide +kernel
theorem dX6_returnTo_47 : decode cX6_returnTo 47 = .ok (.iconst 0, 1) := by decide +kernel
theorem dX6_returnTo_48 : decode cX6_returnTo 48 = .ok (.iload_n 2, 1) := by decide +kernel
theorem dX6_returnTo_49 : decode cX6_returnTo 49 = .ok (.invokestatic 41, 3) := by decide +kernel
theorem dX6_returnTo_52 : decode cX6_returnTo 52 = .ok (.aload_n 1, 1) := by decide +kernel
theorem dX6_returnTo_53 : decode cX6_returnTo 53 = .ok (.getfield 21, 3) := by decide +kernel
theorem dX6_returnTo_56 : decode cX6_returnTo 56 = .ok (.iconst 0, 1) := by decide +kernel
theorem dX6_returnTo_57 : decode cX6_returnTo 57 = .ok (.aload_n 0, 1) := by decide +kernel
theorem dX6_returnTo_58 : decode cX6_returnTo 58 = .ok (.getfield 21, 3) := by decide +kernel
theorem dX6_returnTo_61 : decode cX6_returnTo 61 = .ok (.iconst 0, 1) := by decide +kernel
theorem dX6_returnTo_62 : decode cX6_returnTo 62 = .ok (.bipush 40, 2) := by decide +kernel
theorem dX6_returnTo_64 : decode cX6_returnTo 64 = .ok (.invokestatic 41, 3) := by decide +kernel
theorem dX6_returnTo_67 : decode cX6_returnTo 67 = .ok (.aload_n 0, 1) := by decide +kernel
theorem dX6_returnTo_68 : decode cX6_returnTo 68 = .ok (.aload_n 1, 1) := by decide +kernel
theorem dX6_returnTo_69 : decode cX6_returnTo 69 = .ok (.getfield 47, 3) := by decide +kernel
theorem dX6_returnTo_72 : decode cX6_returnTo 72 = .ok (.putfield 47, 3) := by decide +kernel
theorem dX6_returnTo_75 : decode cX6_returnTo 75 = .ok (.aload_n 0, 1) := by decide +kernel
theorem dX6_returnTo_76 : decode cX6_returnTo 76 = .ok (.aload_n 1, 1) := by decide +kernel
theorem dX6_returnTo_77 : decode cX6_returnTo 77 = .ok (.getfield 50, 3) := by decide +kernel
theorem dX6_returnTo_80 : decode cX6_returnTo 80 = .ok (.putfield 50, 3) := by decide +kernel
theorem dX6_returnTo_83 : decode cX6_returnTo 83 = .ok (.aload_n 0, 1) := by decide +kernel
theorem dX6_returnTo_84 : decode cX6_returnTo 84 = .ok (.aload_n 1, 1) := by decide +kernel
theorem dX6_returnTo_85 : decode cX6_returnTo 85 = .ok (.getfield 53, 3) := by decide +kernel
theorem dX6_returnTo_88 : decode cX6_returnTo 88 = .ok (.putfield 53, 3) := by decide +kernel
theorem dX6_returnTo_91 : decode cX6_returnTo 91 = .ok (.aload_n 0, 1) := by decide +kernel
theorem dX6_returnTo_92 : decode cX6_returnTo 92 = .ok (.aload_n 1, 1) := by decide +kernel
theorem dX6_returnTo_93 : decode cX6_returnTo 93 = .ok (.getfield 24, 3) := by decide +kernel
theorem dX6_returnTo_96 : decode cX6_returnTo 96 = .ok (.putfield 24, 3) := by decide +kernel
theorem dX6_returnTo_99 : decode cX6_returnTo 99 = .ok (.return_, 1) := by decide +kernel
def f_X6_returnTo (F : Nat) (S : mS) (t : Nat) (a1 : Nat) : Option mS := ck (cpo (0 : Int32) (0 : Int32) (imin (7 : Int32) (S.1 a1 5)) 7 7) (stp (sC S (a1 + 1) (t + 1) (0 : Int32).toNatClampNeg (0 : Int32).toNatClampNeg (imin (7 : Int32) (S.1 a1 5)).toNatClampNeg) fun S2 => ck (cpo (0 : Int32) (0 : Int32) (imin (7 : Int32) (S.1 a1 5)) 7 7) (stp (sC S2 (a1 + 2) (t + 2) (0 : Int32).toNatClampNeg (0 : Int32).toNatClampNeg (imin (7 : Int32) (S.1 a1 5)).toNatClampNeg) fun S4 => ck (cpo (0 : Int32) (0 : Int32) (imin (7 : Int32) (S.1 a1 5)) 7 7) (stp (sC S4 (a1 + 3) (t + 3) (0 : Int32).toNatClampNeg (0 : Int32).toNatClampNeg (imin (7 : Int32) (S.1 a1 5)).toNatClampNeg) fun S6 => ck (cpo (0 : Int32) (0 : Int32) (40 : Int32) 40 40) (stp (sC S6 (a1 + 4) (t + 4) (0 : Int32).toNatClampNeg (0 : Int32).toNatClampNeg (40 : Int32).toNatClampNeg) fun S8 => stp (sI S8 t 4 (S8.1 a1 4)) fun S9 => stp (sI S9 t 6 (S9.1 a1 6)) fun S10 => stp (sI S10 t 7 (S10.1 a1 7)) fun S11 => stp (sI S11 t 8 (S11.1 a1 8)) fun S12 => some S12))))
set_option maxHeartbeats 4000000 in
set_option maxRecDepth 100000 in
theorem c_X6_returnTo {F : Nat} {S : mS} {t : Nat} {a1 : Nat} {R : mS} (ht : kd0 t = 6) (ha1 : kd0 a1 = 6) (h : f_X6_returnTo F S t a1 = some R) : mCt μX6_returnTo 1 0 0 E0 S [.ref (t), .ref (a1)] (mQe R none) := by
  unfold f_X6_returnTo at h
  refine mCt.of (by decide) (Nat.le_of_ble_eq_true rfl) ?_
  intro x
  refine mG.bipush (v := 7) dX6_returnTo_0 (by decide) ?_
  refine mG.aload_n 1 dX6_returnTo_2 rfl ?_
  refine mG.get (v := .int (S.1 a1 5)) dX6_returnTo_3 mfX6_32 ha1 rfl ?_
  refine mG.mmin dX6_returnTo_6 wk28_10 (by decide) (Nat.le_of_ble_eq_true rfl) (Nat.le_refl _) (Nat.le_refl _) ?_
  refine mG.istore_n (lv2 := [(2, .int (imin (7 : Int32) (S.1 a1 5))), (0, .ref (t)), (1, .ref (a1))]) dX6_returnTo_9 rfl (by decide) rfl ?_
  refine mG.aload_n 2 dX6_returnTo_10 rfl ?_
  refine mG.get (v := .ref (a1 + 1)) dX6_returnTo_11 mfX6_9 ha1 (lr6_shut ha1) ?_
  refine mG.iconst (v := 0) dX6_returnTo_14 rfl ?_
  refine mG.aload_n 1 dX6_returnTo_15 rfl ?_
  refine mG.get (v := .ref (t + 1)) dX6_returnTo_16 mfX6_9 ht (lr6_shut ht) ?_
  refine mG.iconst (v := 0) dX6_returnTo_19 rfl ?_
  refine mG.iload_n 0 dX6_returnTo_20 rfl ?_
  obtain ⟨b1, h⟩ := ckp h
  obtain ⟨S2, hS2, h⟩ := stpp h
  refine mG.acopy dX6_returnTo_21 wk28_11 (by decide) (Nat.le_of_ble_eq_true rfl) (lk6_shut ha1) (lk6_shut ht) (cpop b1).1 (cpop b1).2.1 (cpop b1).2.2.1 (by rw [show E0.2.2.1 _ = _ from (ll6_shut ha1)]; exact (cpop b1).2.2.2.1) (by rw [show E0.2.2.1 _ = _ from (ll6_shut ht)]; exact (cpop b1).2.2.2.2) hS2 ?_
  refine mG.aload_n 2 dX6_returnTo_24 rfl ?_
  refine mG.get (v := .ref (a1 + 2)) dX6_returnTo_25 mfX6_15 ha1 (lr6_purse ha1) ?_
  refine mG.iconst (v := 0) dX6_returnTo_28 rfl ?_
  refine mG.aload_n 1 dX6_returnTo_29 rfl ?_
  refine mG.get (v := .ref (t + 2)) dX6_returnTo_30 mfX6_15 ht (lr6_purse ht) ?_
  refine mG.iconst (v := 0) dX6_returnTo_33 rfl ?_
  refine mG.iload_n 0 dX6_returnTo_34 rfl ?_
  obtain ⟨b3, h⟩ := ckp h
  obtain ⟨S4, hS4, h⟩ := stpp h
  refine mG.acopy dX6_returnTo_35 wk28_11 (by decide) (Nat.le_of_ble_eq_true rfl) (lk6_purse ha1) (lk6_purse ht) (cpop b3).1 (cpop b3).2.1 (cpop b3).2.2.1 (by rw [show E0.2.2.1 _ = _ from (ll6_purse ha1)]; exact (cpop b3).2.2.2.1) (by rw [show E0.2.2.1 _ = _ from (ll6_purse ht)]; exact (cpop b3).2.2.2.2) hS4 ?_
  refine mG.aload_n 2 dX6_returnTo_38 rfl ?_
  refine mG.get (v := .ref (a1 + 3)) dX6_returnTo_39 mfX6_18 ha1 (lr6_friends ha1) ?_
  refine mG.iconst (v := 0) dX6_returnTo_42 rfl ?_
  refine mG.aload_n 1 dX6_returnTo_43 rfl ?_
  refine mG.get (v := .ref (t + 3)) dX6_returnTo_44 mfX6_18 ht (lr6_friends ht) ?_
  refine mG.iconst (v := 0) dX6_returnTo_47 rfl ?_
  refine mG.iload_n 0 dX6_returnTo_48 rfl ?_
  obtain ⟨b5, h⟩ := ckp h
  obtain ⟨S6, hS6, h⟩ := stpp h
  refine mG.acopy dX6_returnTo_49 wk28_11 (by decide) (Nat.le_of_ble_eq_true rfl) (lk6_friends ha1) (lk6_friends ht) (cpop b5).1 (cpop b5).2.1 (cpop b5).2.2.1 (by rw [show E0.2.2.1 _ = _ from (ll6_friends ha1)]; exact (cpop b5).2.2.2.1) (by rw [show E0.2.2.1 _ = _ from (ll6_friends ht)]; exact (cpop b5).2.2.2.2) hS6 ?_
  refine mG.aload_n 2 dX6_returnTo_52 rfl ?_
  refine mG.get (v := .ref (a1 + 4)) dX6_returnTo_53 mfX6_21 ha1 (lr6_knocked ha1) ?_
  refine mG.iconst (v := 0) dX6_returnTo_56 rfl ?_
  refine mG.aload_n 1 dX6_returnTo_57 rfl ?_
  refine mG.get (v := .ref (t + 4)) dX6_returnTo_58 mfX6_21 ht (lr6_knocked ht) ?_
  refine mG.iconst (v := 0) dX6_returnTo_61 rfl ?_
  refine mG.bipush (v := 40) dX6_returnTo_62 (by decide) ?_
  obtain ⟨b7, h⟩ := ckp h
  obtain ⟨S8, hS8, h⟩ := stpp h
  refine mG.acopy dX6_returnTo_64 wk28_11 (by decide) (Nat.le_of_ble_eq_true rfl) (lk6_knocked ha1) (lk6_knocked ht) (cpop b7).1 (cpop b7).2.1 (cpop b7).2.2.1 (by rw [show E0.2.2.1 _ = _ from (ll6_knocked ha1)]; exact (cpop b7).2.2.2.1) (by rw [show E0.2.2.1 _ = _ from (ll6_knocked ht)]; exact (cpop b7).2.2.2.2) hS8 ?_
  refine mG.aload_n 1 dX6_returnTo_67 rfl ?_
  refine mG.aload_n 2 dX6_returnTo_68 rfl ?_
  refine mG.get (v := .int (S8.1 a1 4)) dX6_returnTo_69 mfX6_47 ha1 rfl ?_
  obtain ⟨S9, hS9, h⟩ := stpp h
  refine mG.putI dX6_returnTo_72 mfX6_47 rfl (Or.inl rfl) ht hS9 ?_
  refine mG.aload_n 1 dX6_returnTo_75 rfl ?_
  refine mG.aload_n 2 dX6_returnTo_76 rfl ?_
  refine mG.get (v := .int (S9.1 a1 6)) dX6_returnTo_77 mfX6_50 ha1 rfl ?_
  obtain ⟨S10, hS10, h⟩ := stpp h
  refine mG.putI dX6_returnTo_80 mfX6_50 rfl (Or.inl rfl) ht hS10 ?_
  refine mG.aload_n 1 dX6_returnTo_83 rfl ?_
  refine mG.aload_n 2 dX6_returnTo_84 rfl ?_
  refine mG.get (v := .int (S10.1 a1 7)) dX6_returnTo_85 mfX6_53 ha1 rfl ?_
  obtain ⟨S11, hS11, h⟩ := stpp h
  refine mG.putI dX6_returnTo_88 mfX6_53 rfl (Or.inl rfl) ht hS11 ?_
  refine mG.aload_n 1 dX6_returnTo_91 rfl ?_
  refine mG.aload_n 2 dX6_returnTo_92 rfl ?_
  refine mG.get (v := .int (S11.1 a1 8)) dX6_returnTo_93 mfX6_24 ha1 rfl ?_
  obtain ⟨S12, hS12, h⟩ := stpp h
  refine mG.putI dX6_returnTo_96 mfX6_24 rfl (Or.inl rfl) ht hS12 ?_
  obtain rfl := Option.some.inj h
  exact mG.vret dX6_returnTo_99 rfl ⟨rfl, rfl, rfl⟩
theorem dX6_copyFrom_0 : decode cX6_copyFrom 0 = .ok (.aload_n 0, 1) := by decide +kernel
theorem dX6_copyFrom_1 : decode cX6_copyFrom 1 = .ok (.aload_n 1, 1) := by decide +kernel
theorem dX6_copyFrom_2 : decode cX6_copyFrom 2 = .ok (.invokevirtual 28, 3) := by decide +kernel
theorem dX6_copyFrom_5 : decode cX6_copyFrom 5 = .ok (.aload_n 0, 1) := by decide +kernel
theorem dX6_copyFrom_6 : decode cX6_copyFrom 6 = .ok (.aload_n 1, 1) := by decide +kernel
theorem dX6_copyFrom_7 : decode cX6_copyFrom 7 = .ok (.getfield 32, 3) := by decide +kernel
theorem dX6_copyFrom_10 : decode cX6_copyFrom 10 = .ok (.putfield 32, 3) := by decide +kernel
theorem dX6_copyFrom_13 : decode cX6_copyFrom 13 = .ok (.return_, 1) := by decide +kernel
def f_X6_copyFrom (F : Nat) (S : mS) (t : Nat) (a1 : Nat) : Option mS := bd (f_X6_returnTo F S t a1) fun q1 => stp (sI q1 t 5 (q1.1 a1 5)) fun S2 => some S2
set_option maxHeartbeats 4000000 in
set_option maxRecDepth 100000 in
theorem c_X6_copyFrom {F : Nat} {S : mS} {t : Nat} {a1 : Nat} {R : mS} (ht : kd0 t = 6) (ha1 : kd0 a1 = 6) (h : f_X6_copyFrom F S t a1 = some R) : mCt μX6_copyFrom 2 0 0 E0 S [.ref (t), .ref (a1)] (mQe R none) := by
  unfold f_X6_copyFrom at h
  refine mCt.of (by decide) (Nat.le_of_ble_eq_true rfl) ?_
  intro x
  refine mG.aload_n 0 dX6_copyFrom_0 rfl ?_
  refine mG.aload_n 1 dX6_copyFrom_1 rfl ?_
  obtain ⟨q1, hq1, h⟩ := bdp h
  refine mG.callV0 (as := [.ref (a1)]) (st := []) (S2 := q1) (r := none) dX6_copyFrom_2 mvX6_returnTo wk28_6 rfl ht rfl (by decide) (Nat.le_of_ble_eq_true rfl) (c_X6_returnTo ht ha1 hq1) ?_
  refine mG.aload_n 0 dX6_copyFrom_5 rfl ?_
  refine mG.aload_n 1 dX6_copyFrom_6 rfl ?_
  refine mG.get (v := .int (q1.1 a1 5)) dX6_copyFrom_7 mfX6_32 ha1 rfl ?_
  obtain ⟨S2, hS2, h⟩ := stpp h
  refine mG.putI dX6_copyFrom_10 mfX6_32 rfl (Or.inl rfl) ht hS2 ?_
  obtain rfl := Option.some.inj h
  exact mG.vret dX6_copyFrom_13 rfl ⟨rfl, rfl, rfl⟩
theorem dX6_date_0 : decode cX6_date 0 = .ok (.aload_n 0, 1) := by decide +kernel
theorem dX6_date_1 : decode cX6_date 1 = .ok (.getfield 53, 3) := by decide +kernel
theorem dX6_date_4 : decode cX6_date 4 = .ok (.bipush 20, 2) := by decide +kernel
theorem dX6_date_6 : decode cX6_date 6 = .ok (.irem, 1) := by decide +kernel
theorem dX6_date_7 : decode cX6_date 7 = .ok (.ireturn, 1) := by decide +kernel
def f_X6_date (S0 : mS) (t : Nat) : Int32 := (S0.1 t 7) - (S0.1 t 7) / (20 : Int32) * (20 : Int32)
set_option maxHeartbeats 4000000 in
set_option maxRecDepth 100000 in
theorem c_X6_date {S0 : mS} {t : Nat} {R : Int32} (ht : kd0 t = 6) (h : f_X6_date S0 t = R) : mCt μX6_date 1 0 0 E0 S0 [.ref (t)] (mQe S0 (some (.int R))) := by
  unfold f_X6_date at h
  refine mCt.of (by decide) (Nat.le_of_ble_eq_true rfl) ?_
  intro x
  refine mG.aload_n 0 dX6_date_0 rfl ?_
  refine mG.get (v := .int (S0.1 t 7)) dX6_date_1 mfX6_53 ht rfl ?_
  refine mG.bipush (v := 20) dX6_date_4 (by decide) ?_
  refine mG.irem dX6_date_6 (by decide) ?_
  subst h
  exact mG.iret dX6_date_7 rfl ⟨rfl, rfl, rfl⟩
theorem dX6_isShut_0 : decode cX6_isShut 0 = .ok (.aload_n 0, 1) := by decide +kernel
theorem dX6_isShut_1 : decode cX6_isShut 1 = .ok (.iload_n 1, 1) := by decide +kernel
theorem dX6_isShut_2 : decode cX6_isShut 2 = .ok (.invokevirtual 56, 3) := by decide +kernel
theorem dX6_isShut_5 : decode cX6_isShut 5 = .ok (.ifCond .eq 21, 3) := by decide +kernel
theorem dX6_isShut_8 : decode cX6_isShut 8 = .ok (.aload_n 0, 1) := by decide +kernel
theorem dX6_isShut_9 : decode cX6_isShut 9 = .ok (.getfield 9, 3) := by decide +kernel
theorem dX6_isShut_12 : decode cX6_isShut 12 = .ok (.iload_n 1, 1) := by decide +kernel
theorem dX6_isShut_13 : decode cX6_isShut 13 = .ok (.iaload, 1) := by decide +kernel
theorem dX6_isShut_14 : decode cX6_isShut 14 = .ok (.iload_n 2, 1) := by decide +kernel
theorem dX6_isShut_15 : decode cX6_isShut 15 = .ok (.ishr, 1) := by decide +kernel
theorem dX6_isShut_16 : decode cX6_isShut 16 = .ok (.iconst 1, 1) := by decide +kernel
theorem dX6_isShut_17 : decode cX6_isShut 17 = .ok (.iand, 1) := by decide +kernel
theorem dX6_isShut_18 : decode cX6_isShut 18 = .ok (.iconst 1, 1) := by decide +kernel
theorem dX6_isShut_19 : decode cX6_isShut 19 = .ok (.if_icmp .ne 7, 3) := by decide +kernel
theorem dX6_isShut_22 : decode cX6_isShut 22 = .ok (.iconst 1, 1) := by decide +kernel
theorem dX6_isShut_23 : decode cX6_isShut 23 = .ok (.goto 4, 3) := by decide +kernel
theorem dX6_isShut_26 : decode cX6_isShut 26 = .ok (.iconst 0, 1) := by decide +kernel
theorem dX6_isShut_27 : decode cX6_isShut 27 = .ok (.ireturn, 1) := by decide +kernel
def f_X6_isShut (F : Nat) (S0 : mS) (t : Nat) (a1 : Int32) (a2 : Int32) : Option Bool := if (f_X6_told S0 t a1) = true then (ck (inb a1 7) (if (((S0.1 (t + 1) a1.toNatClampNeg) >>> (a2 &&& 31)) &&& (1 : Int32)) = (1 : Int32) then (some true) else (some false))) else (some false)
set_option maxHeartbeats 4000000 in
set_option maxRecDepth 100000 in
theorem c_X6_isShut {F : Nat} {S0 : mS} {t : Nat} {a1 : Int32} {a2 : Int32} {R : Bool} (ht : kd0 t = 6) (h : f_X6_isShut F S0 t a1 a2 = some R) : mCt μX6_isShut 2 0 0 E0 S0 [.ref (t), .int (a1), .int (a2)] (mQe S0 (some (.int (bI R)))) := by
  unfold f_X6_isShut at h
  refine mCt.of (by decide) (Nat.le_of_ble_eq_true rfl) ?_
  intro x
  refine mG.aload_n 0 dX6_isShut_0 rfl ?_
  refine mG.iload_n 1 dX6_isShut_1 rfl ?_
  refine mG.callV0 (as := [.int (a1)]) (st := []) (S2 := S0) (r := some (.int (bI (f_X6_told S0 t a1)))) dX6_isShut_2 mvX6_told wk27_11 rfl ht rfl (by decide) (Nat.le_of_ble_eq_true rfl) (c_X6_told ht rfl) ?_
  refine mG.ifz_eq (b := f_X6_told S0 t a1) 26 dX6_isShut_5 (by decide) (fun c3 => ?_) (fun c3 => ?_)
  · replace h := itn c3 h
    refine mG.iconst (v := 0) dX6_isShut_26 rfl ?_
    obtain rfl := Option.some.inj h
    exact mG.zret (b := false) dX6_isShut_27 rfl rfl ⟨rfl, rfl, rfl⟩
  · replace h := itp c3 h
    refine mG.aload_n 0 dX6_isShut_8 rfl ?_
    refine mG.get (v := .ref (t + 1)) dX6_isShut_9 mfX6_9 ht (lr6_shut ht) ?_
    refine mG.iload_n 1 dX6_isShut_12 rfl ?_
    obtain ⟨b1, h⟩ := ckp h
    refine mG.iald dX6_isShut_13 (lk6_shut ht) (ll6_shut ht) (inbp b1) ?_
    refine mG.iload_n 2 dX6_isShut_14 rfl ?_
    refine mG.ishr dX6_isShut_15 ?_
    refine mG.iconst (v := 1) dX6_isShut_16 rfl ?_
    refine mG.iand dX6_isShut_17 ?_
    refine mG.iconst (v := 1) dX6_isShut_18 rfl ?_
    refine mG.icmp_ne 26 dX6_isShut_19 (by decide) (fun c2 => ?_) (fun c2 => ?_)
    · replace h := itn c2 h
      refine mG.iconst (v := 0) dX6_isShut_26 rfl ?_
      obtain rfl := Option.some.inj h
      exact mG.zret (b := false) dX6_isShut_27 rfl rfl ⟨rfl, rfl, rfl⟩
    · replace h := itp c2 h
      refine mG.iconst (v := 1) dX6_isShut_22 rfl ?_
      refine mG.goto 27 dX6_isShut_23 (by decide) ?_
      obtain rfl := Option.some.inj h
      exact mG.zret (b := true) dX6_isShut_27 rfl rfl ⟨rfl, rfl, rfl⟩
theorem dX6_howManyShut_0 : decode cX6_howManyShut 0 = .ok (.aload_n 0, 1) := by decide +kernel
theorem dX6_howManyShut_1 : decode cX6_howManyShut 1 = .ok (.iload_n 1, 1) := by decide +kernel
theorem dX6_howManyShut_2 : decode cX6_howManyShut 2 = .ok (.invokevirtual 67, 3) := by decide +kernel
theorem dX6_howManyShut_5 : decode cX6_howManyShut 5 = .ok (.invokestatic 71, 3) := by decide +kernel
theorem dX6_howManyShut_8 : decode cX6_howManyShut 8 = .ok (.ireturn, 1) := by decide +kernel
def f_X6_howManyShut (F : Nat) (S0 : mS) (t : Nat) (a1 : Int32) : Option Int32 := bd (f_X6_shutOn F S0 t a1) fun q1 => some (f_J6_bitCount_0f7a4 S0 q1)
set_option maxHeartbeats 4000000 in
set_option maxRecDepth 100000 in
theorem c_X6_howManyShut {F : Nat} {S0 : mS} {t : Nat} {a1 : Int32} {R : Int32} (ht : kd0 t = 6) (h : f_X6_howManyShut F S0 t a1 = some R) : mCt μX6_howManyShut 3 0 0 E0 S0 [.ref (t), .int (a1)] (mQe S0 (some (.int R))) := by
  unfold f_X6_howManyShut at h
  refine mCt.of (by decide) (Nat.le_of_ble_eq_true rfl) ?_
  intro x
  refine mG.aload_n 0 dX6_howManyShut_0 rfl ?_
  refine mG.iload_n 1 dX6_howManyShut_1 rfl ?_
  obtain ⟨q1, hq1, h⟩ := bdp h
  refine mG.callV0 (as := [.int (a1)]) (st := []) (S2 := S0) (r := some (.int (q1))) dX6_howManyShut_2 mvX6_shutOn wk30_1 rfl ht rfl (by decide) (Nat.le_of_ble_eq_true rfl) (c_X6_shutOn ht hq1) ?_
  refine mG.callS0 (as := [.int (q1)]) (st := []) (S2 := S0) (r := some (.int (f_J6_bitCount_0f7a4 S0 q1))) dX6_howManyShut_5 mbJ6_bitCount_0f7a4 wk30_6 wk36_13 rfl rfl (by decide) (Nat.le_of_ble_eq_true rfl) (c_J6_bitCount_0f7a4  rfl) ?_
  obtain rfl := Option.some.inj h
  exact mG.iret dX6_howManyShut_8 rfl ⟨rfl, rfl, rfl⟩
theorem dX6_settle_0 : decode cX6_settle 0 = .ok (.aload_n 0, 1) := by decide +kernel
theorem dX6_settle_1 : decode cX6_settle 1 = .ok (.getfield 32, 3) := by decide +kernel
theorem dX6_settle_4 : decode cX6_settle 4 = .ok (.bipush 7, 2) := by decide +kernel
theorem dX6_settle_6 : decode cX6_settle 6 = .ok (.if_icmp .lt 5, 3) := by decide +kernel
theorem dX6_settle_9 : decode cX6_settle 9 = .ok (.iconst (-1), 1) := by decide +kernel
theorem dX6_settle_10 : decode cX6_settle 10 = .ok (.ireturn, 1) := by decide +kernel
theorem dX6_settle_11 : decode cX6_settle 11 = .ok (.aload_n 0, 1) := by decide +kernel
theorem dX6_settle_12 : decode cX6_settle 12 = .ok (.getfield 9, 3) := by decide +kernel
theorem dX6_settle_15 : decode cX6_settle 15 = .ok (.aload_n 0, 1) := by decide +kernel
theorem dX6_settle_16 : decode cX6_settle 16 = .ok (.getfield 32, 3) := by decide +kernel
theorem dX6_settle_19 : decode cX6_settle 19 = .ok (.iload_n 1, 1) := by decide +kernel
theorem dX6_settle_20 : decode cX6_settle 20 = .ok (.iastore, 1) := by decide +kernel
theorem dX6_settle_21 : decode cX6_settle 21 = .ok (.aload_n 0, 1) := by decide +kernel
theorem dX6_settle_22 : decode cX6_settle 22 = .ok (.getfield 15, 3) := by decide +kernel
theorem dX6_settle_25 : decode cX6_settle 25 = .ok (.aload_n 0, 1) := by decide +kernel
theorem dX6_settle_26 : decode cX6_settle 26 = .ok (.getfield 32, 3) := by decide +kernel
theorem dX6_settle_29 : decode cX6_settle 29 = .ok (.iload_n 2, 1) := by decide +kernel
theorem dX6_settle_30 : decode cX6_settle 30 = .ok (.iastore, 1) := by decide +kernel
theorem dX6_settle_31 : decode cX6_settle 31 = .ok (.aload_n 0, 1) := by decide +kernel
theorem dX6_settle_32 : decode cX6_settle 32 = .ok (.getfield 18, 3) := by decide +kernel
theorem dX6_settle_35 : decode cX6_settle 35 = .ok (.aload_n 0, 1) := by decide +kernel
theorem dX6_settle_36 : decode cX6_settle 36 = .ok (.getfield 32, 3) := by decide +kernel
theorem dX6_settle_39 : decode cX6_settle 39 = .ok (.iload_n 3, 1) := by decide +kernel
theorem dX6_settle_40 : decode cX6_settle 40 = .ok (.iastore, 1) := by decide +kernel
theorem dX6_settle_41 : decode cX6_settle 41 = .ok (.aload_n 0, 1) := by decide +kernel
theorem dX6_settle_42 : decode cX6_settle 42 = .ok (.dup, 1) := by decide +kernel
theorem dX6_settle_43 : decode cX6_settle 43 = .ok (.getfield 32, 3) := by decide +kernel
theorem dX6_settle_46 : decode cX6_settle 46 = .ok (.iconst 1, 1) := by decide +kernel
theorem dX6_settle_47 : decode cX6_settle 47 = .ok (.iadd, 1) := by decide +kernel
theorem dX6_settle_48 : decode cX6_settle 48 = .ok (.putfield 32, 3) := by decide +kernel
theorem dX6_settle_51 : decode cX6_settle 51 = .ok (.aload_n 0, 1) := by decide +kernel
theorem dX6_settle_52 : decode cX6_settle 52 = .ok (.getfield 32, 3) := by decide +kernel
theorem dX6_settle_55 : decode cX6_settle 55 = .ok (.iconst 1, 1) := by decide +kernel
theorem dX6_settle_56 : decode cX6_settle 56 = .ok (.isub, 1) := by decide +kernel
theorem dX6_settle_57 : decode cX6_settle 57 = .ok (.ireturn, 1) := by decide +kernel
def f_X6_settle (F : Nat) (S : mS) (t : Nat) (a1 : Int32) (a2 : Int32) (a3 : Int32) : Option (mS × Int32) := if (S.1 t 5) < (7 : Int32) then (ck (inb (S.1 t 5) 7) (stp (sI S (t + 1) (S.1 t 5).toNatClampNeg a1) fun S2 => ck (inb (S2.1 t 5) 7) (stp (sI S2 (t + 2) (S2.1 t 5).toNatClampNeg a2) fun S4 => ck (inb (S4.1 t 5) 7) (stp (sI S4 (t + 3) (S4.1 t 5).toNatClampNeg a3) fun S6 => stp (sI S6 t 5 ((S6.1 t 5) + (1 : Int32))) fun S7 => some (S7, (S7.1 t 5) - (1 : Int32)))))) else (some (S, (-1 : Int32)))
set_option maxHeartbeats 4000000 in
set_option maxRecDepth 100000 in
theorem c_X6_settle {F : Nat} {S : mS} {t : Nat} {a1 : Int32} {a2 : Int32} {a3 : Int32} {R : mS × Int32} (ht : kd0 t = 6) (h : f_X6_settle F S t a1 a2 a3 = some R) : mCt μX6_settle 1 0 0 E0 S [.ref (t), .int (a1), .int (a2), .int (a3)] (mQe R.1 (some (.int R.2))) := by
  unfold f_X6_settle at h
  refine mCt.of (by decide) (Nat.le_of_ble_eq_true rfl) ?_
  intro x
  refine mG.aload_n 0 dX6_settle_0 rfl ?_
  refine mG.get (v := .int (S.1 t 5)) dX6_settle_1 mfX6_32 ht rfl ?_
  refine mG.bipush (v := 7) dX6_settle_4 (by decide) ?_
  refine mG.icmp_lt 11 dX6_settle_6 (by decide) (fun c8 => ?_) (fun c8 => ?_)
  · replace h := itp c8 h
    refine mG.aload_n 0 dX6_settle_11 rfl ?_
    refine mG.get (v := .ref (t + 1)) dX6_settle_12 mfX6_9 ht (lr6_shut ht) ?_
    refine mG.aload_n 0 dX6_settle_15 rfl ?_
    refine mG.get (v := .int (S.1 t 5)) dX6_settle_16 mfX6_32 ht rfl ?_
    refine mG.iload_n 1 dX6_settle_19 rfl ?_
    obtain ⟨b1, h⟩ := ckp h
    obtain ⟨S2, hS2, h⟩ := stpp h
    refine mG.iast dX6_settle_20 (lk6_shut ht) (ll6_shut ht) (inbp b1) hS2 ?_
    refine mG.aload_n 0 dX6_settle_21 rfl ?_
    refine mG.get (v := .ref (t + 2)) dX6_settle_22 mfX6_15 ht (lr6_purse ht) ?_
    refine mG.aload_n 0 dX6_settle_25 rfl ?_
    refine mG.get (v := .int (S2.1 t 5)) dX6_settle_26 mfX6_32 ht rfl ?_
    refine mG.iload_n 2 dX6_settle_29 rfl ?_
    obtain ⟨b3, h⟩ := ckp h
    obtain ⟨S4, hS4, h⟩ := stpp h
    refine mG.iast dX6_settle_30 (lk6_purse ht) (ll6_purse ht) (inbp b3) hS4 ?_
    refine mG.aload_n 0 dX6_settle_31 rfl ?_
    refine mG.get (v := .ref (t + 3)) dX6_settle_32 mfX6_18 ht (lr6_friends ht) ?_
    refine mG.aload_n 0 dX6_settle_35 rfl ?_
    refine mG.get (v := .int (S4.1 t 5)) dX6_settle_36 mfX6_32 ht rfl ?_
    refine mG.iload_n 3 dX6_settle_39 rfl ?_
    obtain ⟨b5, h⟩ := ckp h
    obtain ⟨S6, hS6, h⟩ := stpp h
    refine mG.iast dX6_settle_40 (lk6_friends ht) (ll6_friends ht) (inbp b5) hS6 ?_
    refine mG.aload_n 0 dX6_settle_41 rfl ?_
    refine mG.dup dX6_settle_42 rfl ?_
    refine mG.get (v := .int (S6.1 t 5)) dX6_settle_43 mfX6_32 ht rfl ?_
    refine mG.iconst (v := 1) dX6_settle_46 rfl ?_
    refine mG.iadd dX6_settle_47 ?_
    obtain ⟨S7, hS7, h⟩ := stpp h
    refine mG.putI dX6_settle_48 mfX6_32 rfl (Or.inl rfl) ht hS7 ?_
    refine mG.aload_n 0 dX6_settle_51 rfl ?_
    refine mG.get (v := .int (S7.1 t 5)) dX6_settle_52 mfX6_32 ht rfl ?_
    refine mG.iconst (v := 1) dX6_settle_55 rfl ?_
    refine mG.isub dX6_settle_56 ?_
    obtain rfl := Option.some.inj h
    exact mG.iret dX6_settle_57 rfl ⟨rfl, rfl, rfl⟩
  · replace h := itn c8 h
    refine mG.iconst (v := (-1)) dX6_settle_9 rfl ?_
    obtain rfl := Option.some.inj h
    exact mG.iret dX6_settle_10 rfl ⟨rfl, rfl, rfl⟩
theorem dX6_befriend_0 : decode cX6_befriend 0 = .ok (.aload_n 0, 1) := by decide +kernel
theorem dX6_befriend_1 : decode cX6_befriend 1 = .ok (.iload_n 1, 1) := by decide +kernel
theorem dX6_befriend_2 : decode cX6_befriend 2 = .ok (.invokevirtual 56, 3) := by decide +kernel
theorem dX6_befriend_5 : decode cX6_befriend 5 = .ok (.ifCond .eq 26, 3) := by decide +kernel
theorem dX6_befriend_8 : decode cX6_befriend 8 = .ok (.aload_n 0, 1) := by decide +kernel
theorem dX6_befriend_9 : decode cX6_befriend 9 = .ok (.getfield 18, 3) := by decide +kernel
theorem dX6_befriend_12 : decode cX6_befriend 12 = .ok (.iload_n 1, 1) := by decide +kernel
theorem dX6_befriend_13 : decode cX6_befriend 13 = .ok (.iconst 0, 1) := by decide +kernel
theorem dX6_befriend_14 : decode cX6_befriend 14 = .ok (.bipush 99, 2) := by decide +kernel
theorem dX6_befriend_16 : decode cX6_befriend 16 = .ok (.aload_n 0, 1) := by decide +kernel
theorem dX6_befriend_17 : decode cX6_befriend 17 = .ok (.getfield 18, 3) := by decide +kernel
theorem dX6_befriend_20 : decode cX6_befriend 20 = .ok (.iload_n 1, 1) := by decide +kernel
theorem dX6_befriend_21 : decode cX6_befriend 21 = .ok (.iaload, 1) := by decide +kernel
theorem dX6_befriend_22 : decode cX6_befriend 22 = .ok (.iload_n 2, 1) := by decide +kernel
theorem dX6_befriend_23 : decode cX6_befriend 23 = .ok (.iadd, 1) := by decide +kernel
theorem dX6_befriend_24 : decode cX6_befriend 24 = .ok (.invokestatic 35, 3) := by decide +kernel
theorem dX6_befriend_27 : decode cX6_befriend 27 = .ok (.invokestatic 76, 3) := by decide +kernel
theorem dX6_befriend_30 : decode cX6_befriend 30 = .ok (.iastore, 1) := by decide +kernel
theorem dX6_befriend_31 : decode cX6_befriend 31 = .ok (.return_, 1) := by decide +kernel
def f_X6_befriend (F : Nat) (S : mS) (t : Nat) (a1 : Int32) (a2 : Int32) : Option mS := if (f_X6_told S t a1) = true then (ck (inb a1 7) (ck (inb a1 7) (stp (sI S (t + 3) a1.toNatClampNeg (imax (0 : Int32) (imin (99 : Int32) ((S.1 (t + 3) a1.toNatClampNeg) + a2)))) fun S3 => some S3))) else (some S)
set_option maxHeartbeats 4000000 in
set_option maxRecDepth 100000 in
theorem c_X6_befriend {F : Nat} {S : mS} {t : Nat} {a1 : Int32} {a2 : Int32} {R : mS} (ht : kd0 t = 6) (h : f_X6_befriend F S t a1 a2 = some R) : mCt μX6_befriend 2 0 0 E0 S [.ref (t), .int (a1), .int (a2)] (mQe R none) := by
  unfold f_X6_befriend at h
  refine mCt.of (by decide) (Nat.le_of_ble_eq_true rfl) ?_
  intro x
  refine mG.aload_n 0 dX6_befriend_0 rfl ?_
  refine mG.iload_n 1 dX6_befriend_1 rfl ?_
  refine mG.callV0 (as := [.int (a1)]) (st := []) (S2 := S) (r := some (.int (bI (f_X6_told S t a1)))) dX6_befriend_2 mvX6_told wk27_11 rfl ht rfl (by decide) (Nat.le_of_ble_eq_true rfl) (c_X6_told ht rfl) ?_
  refine mG.ifz_eq (b := f_X6_told S t a1) 31 dX6_befriend_5 (by decide) (fun c4 => ?_) (fun c4 => ?_)
  · replace h := itn c4 h
    obtain rfl := Option.some.inj h
    exact mG.vret dX6_befriend_31 rfl ⟨rfl, rfl, rfl⟩
  · replace h := itp c4 h
    refine mG.aload_n 0 dX6_befriend_8 rfl ?_
    refine mG.get (v := .ref (t + 3)) dX6_befriend_9 mfX6_18 ht (lr6_friends ht) ?_
    refine mG.iload_n 1 dX6_befriend_12 rfl ?_
    refine mG.iconst (v := 0) dX6_befriend_13 rfl ?_
    refine mG.bipush (v := 99) dX6_befriend_14 (by decide) ?_
    refine mG.aload_n 0 dX6_befriend_16 rfl ?_
    refine mG.get (v := .ref (t + 3)) dX6_befriend_17 mfX6_18 ht (lr6_friends ht) ?_
    refine mG.iload_n 1 dX6_befriend_20 rfl ?_
    obtain ⟨b1, h⟩ := ckp h
    refine mG.iald dX6_befriend_21 (lk6_friends ht) (ll6_friends ht) (inbp b1) ?_
    refine mG.iload_n 2 dX6_befriend_22 rfl ?_
    refine mG.iadd dX6_befriend_23 ?_
    refine mG.mmin dX6_befriend_24 wk28_10 (by decide) (Nat.le_of_ble_eq_true rfl) (Nat.le_refl _) (Nat.le_refl _) ?_
    refine mG.mmax dX6_befriend_27 wk29_11 (by decide) (Nat.le_of_ble_eq_true rfl) (Nat.le_refl _) (Nat.le_refl _) ?_
    obtain ⟨b2, h⟩ := ckp h
    obtain ⟨S3, hS3, h⟩ := stpp h
    refine mG.iast dX6_befriend_30 (lk6_friends ht) (ll6_friends ht) (inbp b2) hS3 ?_
    obtain rfl := Option.some.inj h
    exact mG.vret dX6_befriend_31 rfl ⟨rfl, rfl, rfl⟩
theorem dX6_writeKnock_0 : decode cX6_writeKnock 0 = .ok (.aload_n 0, 1) := by decide +kernel
theorem dX6_writeKnock_1 : decode cX6_writeKnock 1 = .ok (.getfield 47, 3) := by decide +kernel
theorem dX6_writeKnock_4 : decode cX6_writeKnock 4 = .ok (.bipush 40, 2) := by decide +kernel
theorem dX6_writeKnock_6 : decode cX6_writeKnock 6 = .ok (.if_icmp .lt 24, 3) := by decide +kernel
theorem dX6_writeKnock_9 : decode cX6_writeKnock 9 = .ok (.aload_n 0, 1) := by decide +kernel
theorem dX6_writeKnock_10 : decode cX6_writeKnock 10 = .ok (.getfield 21, 3) := by decide +kernel
theorem dX6_writeKnock_13 : decode cX6_writeKnock 13 = .ok (.iconst 1, 1) := by decide +kernel
theorem dX6_writeKnock_14 : decode cX6_writeKnock 14 = .ok (.aload_n 0, 1) := by decide +kernel
theorem dX6_writeKnock_15 : decode cX6_writeKnock 15 = .ok (.getfield 21, 3) := by decide +kernel
theorem dX6_writeKnock_18 : decode cX6_writeKnock 18 = .ok (.iconst 0, 1) := by decide +kernel
theorem dX6_writeKnock_19 : decode cX6_writeKnock 19 = .ok (.bipush 39, 2) := by decide +kernel
theorem dX6_writeKnock_21 : decode cX6_writeKnock 21 = .ok (.invokestatic 41, 3) := by decide +kernel
theorem dX6_writeKnock_24 : decode cX6_writeKnock 24 = .ok (.aload_n 0, 1) := by decide +kernel
theorem dX6_writeKnock_25 : decode cX6_writeKnock 25 = .ok (.bipush 39, 2) := by decide +kernel
theorem dX6_writeKnock_27 : decode cX6_writeKnock 27 = .ok (.putfield 47, 3) := by decide +kernel
theorem dX6_writeKnock_30 : decode cX6_writeKnock 30 = .ok (.aload_n 0, 1) := by decide +kernel
theorem dX6_writeKnock_31 : decode cX6_writeKnock 31 = .ok (.getfield 21, 3) := by decide +kernel
theorem dX6_writeKnock_34 : decode cX6_writeKnock 34 = .ok (.aload_n 0, 1) := by decide +kernel
theorem dX6_writeKnock_35 : decode cX6_writeKnock 35 = .ok (.getfield 47, 3) := by decide +kernel
theorem dX6_writeKnock_38 : decode cX6_writeKnock 38 = .ok (.aload_n 0, 1) := by decide +kernel
theorem dX6_writeKnock_39 : decode cX6_writeKnock 39 = .ok (.getfield 53, 3) := by decide +kernel
theorem dX6_writeKnock_42 : decode cX6_writeKnock 42 = .ok (.iconst 4, 1) := by decide +kernel
theorem dX6_writeKnock_43 : decode cX6_writeKnock 43 = .ok (.ishl, 1) := by decide +kernel
theorem dX6_writeKnock_44 : decode cX6_writeKnock 44 = .ok (.iload_n 1, 1) := by decide +kernel
theorem dX6_writeKnock_45 : decode cX6_writeKnock 45 = .ok (.iconst 1, 1) := by decide +kernel
theorem dX6_writeKnock_46 : decode cX6_writeKnock 46 = .ok (.ishl, 1) := by decide +kernel
theorem dX6_writeKnock_47 : decode cX6_writeKnock 47 = .ok (.ior, 1) := by decide +kernel
theorem dX6_writeKnock_48 : decode cX6_writeKnock 48 = .ok (.iload_n 2, 1) := by decide +kernel
theorem dX6_writeKnock_49 : decode cX6_writeKnock 49 = .ok (.ifCond .eq 7, 3) := by decide +kernel
theorem dX6_writeKnock_52 : decode cX6_writeKnock 52 = .ok (.iconst 1, 1) := by decide +kernel
theorem dX6_writeKnock_53 : decode cX6_writeKnock 53 = .ok (.goto 4, 3) := by decide +kernel
theorem dX6_writeKnock_56 : decode cX6_writeKnock 56 = .ok (.iconst 0, 1) := by decide +kernel
theorem dX6_writeKnock_57 : decode cX6_writeKnock 57 = .ok (.ior, 1) := by decide +kernel
theorem dX6_writeKnock_58 : decode cX6_writeKnock 58 = .ok (.iastore, 1) := by decide +kernel
theorem dX6_writeKnock_59 : decode cX6_writeKnock 59 = .ok (.aload_n 0, 1) := by decide +kernel
theorem dX6_writeKnock_60 : decode cX6_writeKnock 60 = .ok (.dup, 1) := by decide +kernel
theorem dX6_writeKnock_61 : decode cX6_writeKnock 61 = .ok (.getfield 47, 3) := by decide +kernel
theorem dX6_writeKnock_64 : decode cX6_writeKnock 64 = .ok (.iconst 1, 1) := by decide +kernel
theorem dX6_writeKnock_65 : decode cX6_writeKnock 65 = .ok (.iadd, 1) := by decide +kernel
theorem dX6_writeKnock_66 : decode cX6_writeKnock 66 = .ok (.putfield 47, 3) := by decide +kernel
theorem dX6_writeKnock_69 : decode cX6_writeKnock 69 = .ok (.return_, 1) := by decide +kernel
def lX6_writeKnock_30 (F : Nat)  (t : Nat) (a1 : Int32) (a2 : Int32) (S : mS)  : Option mS := if a2 = 0 then (ck (inb (S.1 t 4) 40) (stp (sI S (t + 4) (S.1 t 4).toNatClampNeg ((((S.1 t 7) <<< ((4 : Int32) &&& 31)) ||| (a1 <<< ((1 : Int32) &&& 31))) ||| (0 : Int32))) fun S2 => stp (sI S2 t 4 ((S2.1 t 4) + (1 : Int32))) fun S3 => some S3)) else (ck (inb (S.1 t 4) 40) (stp (sI S (t + 4) (S.1 t 4).toNatClampNeg ((((S.1 t 7) <<< ((4 : Int32) &&& 31)) ||| (a1 <<< ((1 : Int32) &&& 31))) ||| (1 : Int32))) fun S5 => stp (sI S5 t 4 ((S5.1 t 4) + (1 : Int32))) fun S6 => some S6))
set_option maxHeartbeats 4000000 in
set_option maxRecDepth 100000 in
theorem gX6_writeKnock_30 {x : mX} {F : Nat} {t : Nat} {a1 : Int32} {a2 : Int32}  {R : mS} (ht : kd0 t = 6)  (S : mS)   (h : lX6_writeKnock_30 F  t a1 a2 S  = some R) : mG x μX6_writeKnock 1 0 0 (mQe R none) 0 0 E0 S 30 [(0, .ref (t)), (1, .int (a1)), (2, .int (a2))] [] := by
  unfold lX6_writeKnock_30 at h
  refine mG.aload_n 0 dX6_writeKnock_30 rfl ?_
  refine mG.get (v := .ref (t + 4)) dX6_writeKnock_31 mfX6_21 ht (lr6_knocked ht) ?_
  refine mG.aload_n 0 dX6_writeKnock_34 rfl ?_
  refine mG.get (v := .int (S.1 t 4)) dX6_writeKnock_35 mfX6_47 ht rfl ?_
  refine mG.aload_n 0 dX6_writeKnock_38 rfl ?_
  refine mG.get (v := .int (S.1 t 7)) dX6_writeKnock_39 mfX6_53 ht rfl ?_
  refine mG.iconst (v := 4) dX6_writeKnock_42 rfl ?_
  refine mG.ishl dX6_writeKnock_43 ?_
  refine mG.iload_n 1 dX6_writeKnock_44 rfl ?_
  refine mG.iconst (v := 1) dX6_writeKnock_45 rfl ?_
  refine mG.ishl dX6_writeKnock_46 ?_
  refine mG.ior dX6_writeKnock_47 ?_
  refine mG.iload_n 2 dX6_writeKnock_48 rfl ?_
  refine mG.if_eq 56 dX6_writeKnock_49 (by decide) (fun c7 => ?_) (fun c7 => ?_)
  · replace h := itp c7 h
    refine mG.iconst (v := 0) dX6_writeKnock_56 rfl ?_
    refine mG.ior dX6_writeKnock_57 ?_
    obtain ⟨b1, h⟩ := ckp h
    obtain ⟨S2, hS2, h⟩ := stpp h
    refine mG.iast dX6_writeKnock_58 (lk6_knocked ht) (ll6_knocked ht) (inbp b1) hS2 ?_
    refine mG.aload_n 0 dX6_writeKnock_59 rfl ?_
    refine mG.dup dX6_writeKnock_60 rfl ?_
    refine mG.get (v := .int (S2.1 t 4)) dX6_writeKnock_61 mfX6_47 ht rfl ?_
    refine mG.iconst (v := 1) dX6_writeKnock_64 rfl ?_
    refine mG.iadd dX6_writeKnock_65 ?_
    obtain ⟨S3, hS3, h⟩ := stpp h
    refine mG.putI dX6_writeKnock_66 mfX6_47 rfl (Or.inl rfl) ht hS3 ?_
    obtain rfl := Option.some.inj h
    exact mG.vret dX6_writeKnock_69 rfl ⟨rfl, rfl, rfl⟩
  · replace h := itn c7 h
    refine mG.iconst (v := 1) dX6_writeKnock_52 rfl ?_
    refine mG.goto 57 dX6_writeKnock_53 (by decide) ?_
    refine mG.ior dX6_writeKnock_57 ?_
    obtain ⟨b4, h⟩ := ckp h
    obtain ⟨S5, hS5, h⟩ := stpp h
    refine mG.iast dX6_writeKnock_58 (lk6_knocked ht) (ll6_knocked ht) (inbp b4) hS5 ?_
    refine mG.aload_n 0 dX6_writeKnock_59 rfl ?_
    refine mG.dup dX6_writeKnock_60 rfl ?_
    refine mG.get (v := .int (S5.1 t 4)) dX6_writeKnock_61 mfX6_47 ht rfl ?_
    refine mG.iconst (v := 1) dX6_writeKnock_64 rfl ?_
    refine mG.iadd dX6_writeKnock_65 ?_
    obtain ⟨S6, hS6, h⟩ := stpp h
    refine mG.putI dX6_writeKnock_66 mfX6_47 rfl (Or.inl rfl) ht hS6 ?_
    obtain rfl := Option.some.inj h
    exact mG.vret dX6_writeKnock_69 rfl ⟨rfl, rfl, rfl⟩
def f_X6_writeKnock (F : Nat) (S : mS) (t : Nat) (a1 : Int32) (a2 : Int32) : Option mS := if (S.1 t 4) < (40 : Int32) then (lX6_writeKnock_30 F  t a1 a2 S ) else (ck (cpo (1 : Int32) (0 : Int32) (39 : Int32) 40 40) (stp (sC S (t + 4) (t + 4) (1 : Int32).toNatClampNeg (0 : Int32).toNatClampNeg (39 : Int32).toNatClampNeg) fun S2 => stp (sI S2 t 4 (39 : Int32)) fun S3 => lX6_writeKnock_30 F  t a1 a2 S3 ))
set_option maxHeartbeats 4000000 in
set_option maxRecDepth 100000 in
theorem c_X6_writeKnock {F : Nat} {S : mS} {t : Nat} {a1 : Int32} {a2 : Int32} {R : mS} (ht : kd0 t = 6) (h : f_X6_writeKnock F S t a1 a2 = some R) : mCt μX6_writeKnock 1 0 0 E0 S [.ref (t), .int (a1), .int (a2)] (mQe R none) := by
  unfold f_X6_writeKnock at h
  refine mCt.of (by decide) (Nat.le_of_ble_eq_true rfl) ?_
  intro x
  refine mG.aload_n 0 dX6_writeKnock_0 rfl ?_
  refine mG.get (v := .int (S.1 t 4)) dX6_writeKnock_1 mfX6_47 ht rfl ?_
  refine mG.bipush (v := 40) dX6_writeKnock_4 (by decide) ?_
  refine mG.icmp_lt 30 dX6_writeKnock_6 (by decide) (fun c4 => ?_) (fun c4 => ?_)
  · replace h := itp c4 h
    refine mG.sub (lv2 := [(0, .ref (t)), (1, .int (a1)), (2, .int (a2))]) [0, 1, 2] rfl ?_
    exact gX6_writeKnock_30 ht   S   h
  · replace h := itn c4 h
    refine mG.aload_n 0 dX6_writeKnock_9 rfl ?_
    refine mG.get (v := .ref (t + 4)) dX6_writeKnock_10 mfX6_21 ht (lr6_knocked ht) ?_
    refine mG.iconst (v := 1) dX6_writeKnock_13 rfl ?_
    refine mG.aload_n 0 dX6_writeKnock_14 rfl ?_
    refine mG.get (v := .ref (t + 4)) dX6_writeKnock_15 mfX6_21 ht (lr6_knocked ht) ?_
    refine mG.iconst (v := 0) dX6_writeKnock_18 rfl ?_
    refine mG.bipush (v := 39) dX6_writeKnock_19 (by decide) ?_
    obtain ⟨b1, h⟩ := ckp h
    obtain ⟨S2, hS2, h⟩ := stpp h
    refine mG.acopy dX6_writeKnock_21 wk28_11 (by decide) (Nat.le_of_ble_eq_true rfl) (lk6_knocked ht) (lk6_knocked ht) (cpop b1).1 (cpop b1).2.1 (cpop b1).2.2.1 (by rw [show E0.2.2.1 _ = _ from (ll6_knocked ht)]; exact (cpop b1).2.2.2.1) (by rw [show E0.2.2.1 _ = _ from (ll6_knocked ht)]; exact (cpop b1).2.2.2.2) hS2 ?_
    refine mG.aload_n 0 dX6_writeKnock_24 rfl ?_
    refine mG.bipush (v := 39) dX6_writeKnock_25 (by decide) ?_
    obtain ⟨S3, hS3, h⟩ := stpp h
    refine mG.putI dX6_writeKnock_27 mfX6_47 rfl (Or.inl rfl) ht hS3 ?_
    refine mG.sub (lv2 := [(0, .ref (t)), (1, .int (a1)), (2, .int (a2))]) [0, 1, 2] rfl ?_
    exact gX6_writeKnock_30 ht   S3   h
theorem dX6_dayOfKnock_0 : decode cX6_dayOfKnock 0 = .ok (.iload_n 1, 1) := by decide +kernel
theorem dX6_dayOfKnock_1 : decode cX6_dayOfKnock 1 = .ok (.iconst 0, 1) := by decide +kernel
theorem dX6_dayOfKnock_2 : decode cX6_dayOfKnock 2 = .ok (.bipush 39, 2) := by decide +kernel
theorem dX6_dayOfKnock_4 : decode cX6_dayOfKnock 4 = .ok (.invokestatic 79, 3) := by decide +kernel
theorem dX6_dayOfKnock_7 : decode cX6_dayOfKnock 7 = .ok (.ifCond .eq 14, 3) := by decide +kernel
theorem dX6_dayOfKnock_10 : decode cX6_dayOfKnock 10 = .ok (.aload_n 0, 1) := by decide +kernel
theorem dX6_dayOfKnock_11 : decode cX6_dayOfKnock 11 = .ok (.getfield 21, 3) := by decide +kernel
theorem dX6_dayOfKnock_14 : decode cX6_dayOfKnock 14 = .ok (.iload_n 1, 1) := by decide +kernel
theorem dX6_dayOfKnock_15 : decode cX6_dayOfKnock 15 = .ok (.iaload, 1) := by decide +kernel
theorem dX6_dayOfKnock_16 : decode cX6_dayOfKnock 16 = .ok (.iconst 4, 1) := by decide +kernel
theorem dX6_dayOfKnock_17 : decode cX6_dayOfKnock 17 = .ok (.ishr, 1) := by decide +kernel
theorem dX6_dayOfKnock_18 : decode cX6_dayOfKnock 18 = .ok (.goto 4, 3) := by decide +kernel
theorem dX6_dayOfKnock_21 : decode cX6_dayOfKnock 21 = .ok (.iconst (-1), 1) := by decide +kernel
theorem dX6_dayOfKnock_22 : decode cX6_dayOfKnock 22 = .ok (.ireturn, 1) := by decide +kernel
def f_X6_dayOfKnock (F : Nat) (S0 : mS) (t : Nat) (a1 : Int32) : Option Int32 := if (f_X8_isWithin S0 a1 (0 : Int32) (39 : Int32)) = true then (ck (inb a1 40) (some ((S0.1 (t + 4) a1.toNatClampNeg) >>> ((4 : Int32) &&& 31)))) else (some (-1 : Int32))
set_option maxHeartbeats 4000000 in
set_option maxRecDepth 100000 in
theorem c_X6_dayOfKnock {F : Nat} {S0 : mS} {t : Nat} {a1 : Int32} {R : Int32} (ht : kd0 t = 6) (h : f_X6_dayOfKnock F S0 t a1 = some R) : mCt μX6_dayOfKnock 2 0 0 E0 S0 [.ref (t), .int (a1)] (mQe S0 (some (.int R))) := by
  unfold f_X6_dayOfKnock at h
  refine mCt.of (by decide) (Nat.le_of_ble_eq_true rfl) ?_
  intro x
  refine mG.iload_n 1 dX6_dayOfKnock_0 rfl ?_
  refine mG.iconst (v := 0) dX6_dayOfKnock_1 rfl ?_
  refine mG.bipush (v := 39) dX6_dayOfKnock_2 (by decide) ?_
  refine mG.callSN0 (as := [.int (a1), .int 0, .int 39]) (st := []) (S2 := S0) (r := some (.int (bI (f_X8_isWithin S0 a1 (0 : Int32) (39 : Int32))))) dX6_dayOfKnock_4 mbX8_isWithin wk6_19 (List.mem_of_getElem? (i := 12) rfl) rfl rfl (by decide) (Nat.le_of_ble_eq_true rfl) (c_X8_isWithin  rfl) ?_
  refine mG.ifz_eq (b := f_X8_isWithin S0 a1 (0 : Int32) (39 : Int32)) 21 dX6_dayOfKnock_7 (by decide) (fun c2 => ?_) (fun c2 => ?_)
  · replace h := itn c2 h
    refine mG.iconst (v := (-1)) dX6_dayOfKnock_21 rfl ?_
    obtain rfl := Option.some.inj h
    exact mG.iret dX6_dayOfKnock_22 rfl ⟨rfl, rfl, rfl⟩
  · replace h := itp c2 h
    refine mG.aload_n 0 dX6_dayOfKnock_10 rfl ?_
    refine mG.get (v := .ref (t + 4)) dX6_dayOfKnock_11 mfX6_21 ht (lr6_knocked ht) ?_
    refine mG.iload_n 1 dX6_dayOfKnock_14 rfl ?_
    obtain ⟨b1, h⟩ := ckp h
    refine mG.iald dX6_dayOfKnock_15 (lk6_knocked ht) (ll6_knocked ht) (inbp b1) ?_
    refine mG.iconst (v := 4) dX6_dayOfKnock_16 rfl ?_
    refine mG.ishr dX6_dayOfKnock_17 ?_
    refine mG.goto 22 dX6_dayOfKnock_18 (by decide) ?_
    obtain rfl := Option.some.inj h
    exact mG.iret dX6_dayOfKnock_22 rfl ⟨rfl, rfl, rfl⟩
theorem dX6_houseOfKnock_0 : decode cX6_houseOfKnock 0 = .ok (.iload_n 1, 1) := by decide +kernel
theorem dX6_houseOfKnock_1 : decode cX6_houseOfKnock 1 = .ok (.iconst 0, 1) := by decide +kernel
theorem dX6_houseOfKnock_2 : decode cX6_houseOfKnock 2 = .ok (.bipush 39, 2) := by decide +kernel
theorem dX6_houseOfKnock_4 : decode cX6_houseOfKnock 4 = .ok (.invokestatic 79, 3) := by decide +kernel
theorem dX6_houseOfKnock_7 : decode cX6_houseOfKnock 7 = .ok (.ifCond .eq 17, 3) := by decide +kernel
theorem dX6_houseOfKnock_10 : decode cX6_houseOfKnock 10 = .ok (.aload_n 0, 1) := by decide +kernel
theorem dX6_houseOfKnock_11 : decode cX6_houseOfKnock 11 = .ok (.getfield 21, 3) := by decide +kernel
theorem dX6_houseOfKnock_14 : decode cX6_houseOfKnock 14 = .ok (.iload_n 1, 1) := by decide +kernel
theorem dX6_houseOfKnock_15 : decode cX6_houseOfKnock 15 = .ok (.iaload, 1) := by decide +kernel
theorem dX6_houseOfKnock_16 : decode cX6_houseOfKnock 16 = .ok (.iconst 1, 1) := by decide +kernel
theorem dX6_houseOfKnock_17 : decode cX6_houseOfKnock 17 = .ok (.ishr, 1) := by decide +kernel
theorem dX6_houseOfKnock_18 : decode cX6_houseOfKnock 18 = .ok (.bipush 7, 2) := by decide +kernel
theorem dX6_houseOfKnock_20 : decode cX6_houseOfKnock 20 = .ok (.iand, 1) := by decide +kernel
theorem dX6_houseOfKnock_21 : decode cX6_houseOfKnock 21 = .ok (.goto 4, 3) := by decide +kernel
theorem dX6_houseOfKnock_24 : decode cX6_houseOfKnock 24 = .ok (.iconst (-1), 1) := by decide +kernel
theorem dX6_houseOfKnock_25 : decode cX6_houseOfKnock 25 = .ok (.ireturn, 1) := by decide +kernel
def f_X6_houseOfKnock (F : Nat) (S0 : mS) (t : Nat) (a1 : Int32) : Option Int32 := if (f_X8_isWithin S0 a1 (0 : Int32) (39 : Int32)) = true then (ck (inb a1 40) (some (((S0.1 (t + 4) a1.toNatClampNeg) >>> ((1 : Int32) &&& 31)) &&& (7 : Int32)))) else (some (-1 : Int32))
set_option maxHeartbeats 4000000 in
set_option maxRecDepth 100000 in
theorem c_X6_houseOfKnock {F : Nat} {S0 : mS} {t : Nat} {a1 : Int32} {R : Int32} (ht : kd0 t = 6) (h : f_X6_houseOfKnock F S0 t a1 = some R) : mCt μX6_houseOfKnock 2 0 0 E0 S0 [.ref (t), .int (a1)] (mQe S0 (some (.int R))) := by
  unfold f_X6_houseOfKnock at h
  refine mCt.of (by decide) (Nat.le_of_ble_eq_true rfl) ?_
  intro x
  refine mG.iload_n 1 dX6_houseOfKnock_0 rfl ?_
  refine mG.iconst (v := 0) dX6_houseOfKnock_1 rfl ?_
  refine mG.bipush (v := 39) dX6_houseOfKnock_2 (by decide) ?_
  refine mG.callSN0 (as := [.int (a1), .int 0, .int 39]) (st := []) (S2 := S0) (r := some (.int (bI (f_X8_isWithin S0 a1 (0 : Int32) (39 : Int32))))) dX6_houseOfKnock_4 mbX8_isWithin wk6_19 (List.mem_of_getElem? (i := 12) rfl) rfl rfl (by decide) (Nat.le_of_ble_eq_true rfl) (c_X8_isWithin  rfl) ?_
  refine mG.ifz_eq (b := f_X8_isWithin S0 a1 (0 : Int32) (39 : Int32)) 24 dX6_houseOfKnock_7 (by decide) (fun c2 => ?_) (fun c2 => ?_)
  · replace h := itn c2 h
    refine mG.iconst (v := (-1)) dX6_houseOfKnock_24 rfl ?_
    obtain rfl := Option.some.inj h
    exact mG.iret dX6_houseOfKnock_25 rfl ⟨rfl, rfl, rfl⟩
  · replace h := itp c2 h
    refine mG.aload_n 0 dX6_houseOfKnock_10 rfl ?_
    refine mG.get (v := .ref (t + 4)) dX6_houseOfKnock_11 mfX6_21 ht (lr6_knocked ht) ?_
    refine mG.iload_n 1 dX6_houseOfKnock_14 rfl ?_
    obtain ⟨b1, h⟩ := ckp h
    refine mG.iald dX6_houseOfKnock_15 (lk6_knocked ht) (ll6_knocked ht) (inbp b1) ?_
    refine mG.iconst (v := 1) dX6_houseOfKnock_16 rfl ?_
    refine mG.ishr dX6_houseOfKnock_17 ?_
    refine mG.bipush (v := 7) dX6_houseOfKnock_18 (by decide) ?_
    refine mG.iand dX6_houseOfKnock_20 ?_
    refine mG.goto 25 dX6_houseOfKnock_21 (by decide) ?_
    obtain rfl := Option.some.inj h
    exact mG.iret dX6_houseOfKnock_25 rfl ⟨rfl, rfl, rfl⟩
theorem dX6_wasShut_0 : decode cX6_wasShut 0 = .ok (.iload_n 1, 1) := by decide +kernel
theorem dX6_wasShut_1 : decode cX6_wasShut 1 = .ok (.iconst 0, 1) := by decide +kernel
theorem dX6_wasShut_2 : decode cX6_wasShut 2 = .ok (.bipush 39, 2) := by decide +kernel
theorem dX6_wasShut_4 : decode cX6_wasShut 4 = .ok (.invokestatic 79, 3) := by decide +kernel
theorem dX6_wasShut_7 : decode cX6_wasShut 7 = .ok (.ifCond .eq 19, 3) := by decide +kernel
theorem dX6_wasShut_10 : decode cX6_wasShut 10 = .ok (.aload_n 0, 1) := by decide +kernel
theorem dX6_wasShut_11 : decode cX6_wasShut 11 = .ok (.getfield 21, 3) := by decide +kernel
theorem dX6_wasShut_14 : decode cX6_wasShut 14 = .ok (.iload_n 1, 1) := by decide +kernel
theorem dX6_wasShut_15 : decode cX6_wasShut 15 = .ok (.iaload, 1) := by decide +kernel
theorem dX6_wasShut_16 : decode cX6_wasShut 16 = .ok (.iconst 1, 1) := by decide +kernel
theorem dX6_wasShut_17 : decode cX6_wasShut 17 = .ok (.iand, 1) := by decide +kernel
theorem dX6_wasShut_18 : decode cX6_wasShut 18 = .ok (.iconst 1, 1) := by decide +kernel
theorem dX6_wasShut_19 : decode cX6_wasShut 19 = .ok (.if_icmp .ne 7, 3) := by decide +kernel
theorem dX6_wasShut_22 : decode cX6_wasShut 22 = .ok (.iconst 1, 1) := by decide +kernel
theorem dX6_wasShut_23 : decode cX6_wasShut 23 = .ok (.goto 4, 3) := by decide +kernel
theorem dX6_wasShut_26 : decode cX6_wasShut 26 = .ok (.iconst 0, 1) := by decide +kernel
theorem dX6_wasShut_27 : decode cX6_wasShut 27 = .ok (.ireturn, 1) := by decide +kernel
def f_X6_wasShut (F : Nat) (S0 : mS) (t : Nat) (a1 : Int32) : Option Bool := if (f_X8_isWithin S0 a1 (0 : Int32) (39 : Int32)) = true then (ck (inb a1 40) (if ((S0.1 (t + 4) a1.toNatClampNeg) &&& (1 : Int32)) = (1 : Int32) then (some true) else (some false))) else (some false)
set_option maxHeartbeats 4000000 in
set_option maxRecDepth 100000 in
theorem c_X6_wasShut {F : Nat} {S0 : mS} {t : Nat} {a1 : Int32} {R : Bool} (ht : kd0 t = 6) (h : f_X6_wasShut F S0 t a1 = some R) : mCt μX6_wasShut 2 0 0 E0 S0 [.ref (t), .int (a1)] (mQe S0 (some (.int (bI R)))) := by
  unfold f_X6_wasShut at h
  refine mCt.of (by decide) (Nat.le_of_ble_eq_true rfl) ?_
  intro x
  refine mG.iload_n 1 dX6_wasShut_0 rfl ?_
  refine mG.iconst (v := 0) dX6_wasShut_1 rfl ?_
  refine mG.bipush (v := 39) dX6_wasShut_2 (by decide) ?_
  refine mG.callSN0 (as := [.int (a1), .int 0, .int 39]) (st := []) (S2 := S0) (r := some (.int (bI (f_X8_isWithin S0 a1 (0 : Int32) (39 : Int32))))) dX6_wasShut_4 mbX8_isWithin wk6_19 (List.mem_of_getElem? (i := 12) rfl) rfl rfl (by decide) (Nat.le_of_ble_eq_true rfl) (c_X8_isWithin  rfl) ?_
  refine mG.ifz_eq (b := f_X8_isWithin S0 a1 (0 : Int32) (39 : Int32)) 26 dX6_wasShut_7 (by decide) (fun c3 => ?_) (fun c3 => ?_)
  · replace h := itn c3 h
    refine mG.iconst (v := 0) dX6_wasShut_26 rfl ?_
    obtain rfl := Option.some.inj h
    exact mG.zret (b := false) dX6_wasShut_27 rfl rfl ⟨rfl, rfl, rfl⟩
  · replace h := itp c3 h
    refine mG.aload_n 0 dX6_wasShut_10 rfl ?_
    refine mG.get (v := .ref (t + 4)) dX6_wasShut_11 mfX6_21 ht (lr6_knocked ht) ?_
    refine mG.iload_n 1 dX6_wasShut_14 rfl ?_
    obtain ⟨b1, h⟩ := ckp h
    refine mG.iald dX6_wasShut_15 (lk6_knocked ht) (ll6_knocked ht) (inbp b1) ?_
    refine mG.iconst (v := 1) dX6_wasShut_16 rfl ?_
    refine mG.iand dX6_wasShut_17 ?_
    refine mG.iconst (v := 1) dX6_wasShut_18 rfl ?_
    refine mG.icmp_ne 26 dX6_wasShut_19 (by decide) (fun c2 => ?_) (fun c2 => ?_)
    · replace h := itn c2 h
      refine mG.iconst (v := 0) dX6_wasShut_26 rfl ?_
      obtain rfl := Option.some.inj h
      exact mG.zret (b := false) dX6_wasShut_27 rfl rfl ⟨rfl, rfl, rfl⟩
    · replace h := itp c2 h
      refine mG.iconst (v := 1) dX6_wasShut_22 rfl ?_
      refine mG.goto 27 dX6_wasShut_23 (by decide) ?_
      obtain rfl := Option.some.inj h
      exact mG.zret (b := true) dX6_wasShut_27 rfl rfl ⟨rfl, rfl, rfl⟩
theorem dX6_howManyKnocks_0 : decode cX6_howManyKnocks 0 = .ok (.iconst 0, 1) := by decide +kernel
theorem dX6_howManyKnocks_1 : decode cX6_howManyKnocks 1 = .ok (.istore_n 3, 1) := by decide +kernel
theorem dX6_howManyKnocks_2 : decode cX6_howManyKnocks 2 = .ok (.iconst 0, 1) := by decide +kernel
theorem dX6_howManyKnocks_3 : decode cX6_howManyKnocks 3 = .ok (.istore 4, 2) := by decide +kernel
theorem dX6_howManyKnocks_5 : decode cX6_howManyKnocks 5 = .ok (.iload 4, 2) := by decide +kernel
theorem dX6_howManyKnocks_7 : decode cX6_howManyKnocks 7 = .ok (.aload_n 0, 1) := by decide +kernel
theorem dX6_howManyKnocks_8 : decode cX6_howManyKnocks 8 = .ok (.getfield 47, 3) := by decide +kernel
theorem dX6_howManyKnocks_11 : decode cX6_howManyKnocks 11 = .ok (.if_icmp .ge 37, 3) := by decide +kernel
theorem dX6_howManyKnocks_14 : decode cX6_howManyKnocks 14 = .ok (.iload_n 1, 1) := by decide +kernel
theorem dX6_howManyKnocks_15 : decode cX6_howManyKnocks 15 = .ok (.iconst (-1), 1) := by decide +kernel
theorem dX6_howManyKnocks_16 : decode cX6_howManyKnocks 16 = .ok (.if_icmp .eq 13, 3) := by decide +kernel
theorem dX6_howManyKnocks_19 : decode cX6_howManyKnocks 19 = .ok (.aload_n 0, 1) := by decide +kernel
theorem dX6_howManyKnocks_20 : decode cX6_howManyKnocks 20 = .ok (.iload 4, 2) := by decide +kernel
theorem dX6_howManyKnocks_22 : decode cX6_howManyKnocks 22 = .ok (.invokevirtual 83, 3) := by decide +kernel
theorem dX6_howManyKnocks_25 : decode cX6_howManyKnocks 25 = .ok (.iload_n 1, 1) := by decide +kernel
theorem dX6_howManyKnocks_26 : decode cX6_howManyKnocks 26 = .ok (.if_icmp .ne 16, 3) := by decide +kernel
theorem dX6_howManyKnocks_29 : decode cX6_howManyKnocks 29 = .ok (.aload_n 0, 1) := by decide +kernel
theorem dX6_howManyKnocks_30 : decode cX6_howManyKnocks 30 = .ok (.iload 4, 2) := by decide +kernel
theorem dX6_howManyKnocks_32 : decode cX6_howManyKnocks 32 = .ok (.invokevirtual 86, 3) := by decide +kernel
theorem dX6_howManyKnocks_35 : decode cX6_howManyKnocks 35 = .ok (.iload_n 2, 1) := by decide +kernel
theorem dX6_howManyKnocks_36 : decode cX6_howManyKnocks 36 = .ok (.if_icmp .ne 6, 3) := by decide +kernel
theorem dX6_howManyKnocks_39 : decode cX6_howManyKnocks 39 = .ok (.iinc 3 1, 3) := by decide +kernel
theorem dX6_howManyKnocks_42 : decode cX6_howManyKnocks 42 = .ok (.iinc 4 1, 3) := by decide +kernel
theorem dX6_howManyKnocks_45 : decode cX6_howManyKnocks 45 = .ok (.goto (-40), 3) := by decide +kernel
theorem dX6_howManyKnocks_48 : decode cX6_howManyKnocks 48 = .ok (.iload_n 3, 1) := by decide +kernel
theorem dX6_howManyKnocks_49 : decode cX6_howManyKnocks 49 = .ok (.ireturn, 1) := by decide +kernel
def lX6_howManyKnocks_5 (F : Nat)  (t : Nat) (a1 : Int32) (a2 : Int32) : Nat → mS → Int32 → Int32 → Option Int32
  | 0, _, _, _ => none
  | n + 1, S0, v3, v4 => if (S0.1 t 4) ≤ v4 then (some v3) else (if a1 = (-1 : Int32) then (bd (f_X6_wasShut F S0 t v4) fun q1 => if (bI (q1)) = a2 then (lX6_howManyKnocks_5 F  t a1 a2 n S0 (v3 + 1) (v4 + 1)) else (lX6_howManyKnocks_5 F  t a1 a2 n S0 v3 (v4 + 1))) else (bd (f_X6_houseOfKnock F S0 t v4) fun q3 => if q3 = a1 then (bd (f_X6_wasShut F S0 t v4) fun q4 => if (bI (q4)) = a2 then (lX6_howManyKnocks_5 F  t a1 a2 n S0 (v3 + 1) (v4 + 1)) else (lX6_howManyKnocks_5 F  t a1 a2 n S0 v3 (v4 + 1))) else (lX6_howManyKnocks_5 F  t a1 a2 n S0 v3 (v4 + 1))))
set_option maxHeartbeats 4000000 in
set_option maxRecDepth 100000 in
theorem gX6_howManyKnocks_5 {x : mX} {F : Nat} {t : Nat} {a1 : Int32} {a2 : Int32} {S0 : mS}   {R : Int32} (ht : kd0 t = 6)  : ∀ (n : Nat) (v3 : Int32) (v4 : Int32), lX6_howManyKnocks_5 F  t a1 a2 n S0 v3 v4 = some R → mG x μX6_howManyKnocks 3 0 0 (mQe S0 (some (.int R))) 0 0 E0 S0 5 [(0, .ref (t)), (1, .int (a1)), (2, .int (a2)), (3, .int (v3)), (4, .int (v4))] [] := by
  intro n
  induction n with
  | zero =>
    intro v3 v4 h
    cases h
  | succ n ih =>
    intro v3 v4 h
    unfold lX6_howManyKnocks_5 at h
    refine mG.iload 4 dX6_howManyKnocks_5 rfl ?_
    refine mG.aload_n 0 dX6_howManyKnocks_7 rfl ?_
    refine mG.get (v := .int (S0.1 t 4)) dX6_howManyKnocks_8 mfX6_47 ht rfl ?_
    refine mG.icmp_ge 48 dX6_howManyKnocks_11 (by decide) (fun c8 => ?_) (fun c8 => ?_)
    · replace h := itp c8 h
      refine mG.iload_n 3 dX6_howManyKnocks_48 rfl ?_
      obtain rfl := Option.some.inj h
      exact mG.iret dX6_howManyKnocks_49 rfl ⟨rfl, rfl, rfl⟩
    · replace h := itn c8 h
      refine mG.iload_n 1 dX6_howManyKnocks_14 rfl ?_
      refine mG.iconst (v := (-1)) dX6_howManyKnocks_15 rfl ?_
      refine mG.icmp_eq 29 dX6_howManyKnocks_16 (by decide) (fun c7 => ?_) (fun c7 => ?_)
      · replace h := itp c7 h
        refine mG.aload_n 0 dX6_howManyKnocks_29 rfl ?_
        refine mG.iload 4 dX6_howManyKnocks_30 rfl ?_
        obtain ⟨q1, hq1, h⟩ := bdp h
        refine mG.callV0 (as := [.int (v4)]) (st := []) (S2 := S0) (r := some (.int (bI (q1)))) dX6_howManyKnocks_32 mvX6_wasShut wk63_17 rfl ht rfl (by decide) (Nat.le_of_ble_eq_true rfl) (c_X6_wasShut ht hq1) ?_
        refine mG.iload_n 2 dX6_howManyKnocks_35 rfl ?_
        refine mG.icmp_ne 42 dX6_howManyKnocks_36 (by decide) (fun c2 => ?_) (fun c2 => ?_)
        · replace h := itn c2 h
          refine mG.iinc 4 (u := v4 + 1) (lv2 := [(4, .int (v4 + 1)), (0, .ref (t)), (1, .int (a1)), (2, .int (a2)), (3, .int (v3))]) dX6_howManyKnocks_42 rfl rfl (by decide) rfl ?_
          refine mG.goto 5 dX6_howManyKnocks_45 (by decide) ?_
          refine mG.sub (lv2 := [(0, .ref (t)), (1, .int (a1)), (2, .int (a2)), (3, .int (v3)), (4, .int (v4 + 1))]) [1, 2, 3, 4, 0] rfl ?_
          exact ih  v3 (v4 + 1)  h
        · replace h := itp c2 h
          refine mG.iinc 3 (u := v3 + 1) (lv2 := [(3, .int (v3 + 1)), (0, .ref (t)), (1, .int (a1)), (2, .int (a2)), (4, .int (v4))]) dX6_howManyKnocks_39 rfl rfl (by decide) rfl ?_
          refine mG.iinc 4 (u := v4 + 1) (lv2 := [(4, .int (v4 + 1)), (3, .int (v3 + 1)), (0, .ref (t)), (1, .int (a1)), (2, .int (a2))]) dX6_howManyKnocks_42 rfl rfl (by decide) rfl ?_
          refine mG.goto 5 dX6_howManyKnocks_45 (by decide) ?_
          refine mG.sub (lv2 := [(0, .ref (t)), (1, .int (a1)), (2, .int (a2)), (3, .int (v3 + 1)), (4, .int (v4 + 1))]) [2, 3, 4, 1, 0] rfl ?_
          exact ih  (v3 + 1) (v4 + 1)  h
      · replace h := itn c7 h
        refine mG.aload_n 0 dX6_howManyKnocks_19 rfl ?_
        refine mG.iload 4 dX6_howManyKnocks_20 rfl ?_
        obtain ⟨q3, hq3, h⟩ := bdp h
        refine mG.callV0 (as := [.int (v4)]) (st := []) (S2 := S0) (r := some (.int (q3))) dX6_howManyKnocks_22 mvX6_houseOfKnock wk63_16 rfl ht rfl (by decide) (Nat.le_of_ble_eq_true rfl) (c_X6_houseOfKnock ht hq3) ?_
        refine mG.iload_n 1 dX6_howManyKnocks_25 rfl ?_
        refine mG.icmp_ne 42 dX6_howManyKnocks_26 (by decide) (fun c6 => ?_) (fun c6 => ?_)
        · replace h := itn c6 h
          refine mG.iinc 4 (u := v4 + 1) (lv2 := [(4, .int (v4 + 1)), (0, .ref (t)), (1, .int (a1)), (2, .int (a2)), (3, .int (v3))]) dX6_howManyKnocks_42 rfl rfl (by decide) rfl ?_
          refine mG.goto 5 dX6_howManyKnocks_45 (by decide) ?_
          refine mG.sub (lv2 := [(0, .ref (t)), (1, .int (a1)), (2, .int (a2)), (3, .int (v3)), (4, .int (v4 + 1))]) [1, 2, 3, 4, 0] rfl ?_
          exact ih  v3 (v4 + 1)  h
        · replace h := itp c6 h
          refine mG.aload_n 0 dX6_howManyKnocks_29 rfl ?_
          refine mG.iload 4 dX6_howManyKnocks_30 rfl ?_
          obtain ⟨q4, hq4, h⟩ := bdp h
          refine mG.callV0 (as := [.int (v4)]) (st := []) (S2 := S0) (r := some (.int (bI (q4)))) dX6_howManyKnocks_32 mvX6_wasShut wk63_17 rfl ht rfl (by decide) (Nat.le_of_ble_eq_true rfl) (c_X6_wasShut ht hq4) ?_
          refine mG.iload_n 2 dX6_howManyKnocks_35 rfl ?_
          refine mG.icmp_ne 42 dX6_howManyKnocks_36 (by decide) (fun c5 => ?_) (fun c5 => ?_)
          · replace h := itn c5 h
            refine mG.iinc 4 (u := v4 + 1) (lv2 := [(4, .int (v4 + 1)), (0, .ref (t)), (1, .int (a1)), (2, .int (a2)), (3, .int (v3))]) dX6_howManyKnocks_42 rfl rfl (by decide) rfl ?_
            refine mG.goto 5 dX6_howManyKnocks_45 (by decide) ?_
            refine mG.sub (lv2 := [(0, .ref (t)), (1, .int (a1)), (2, .int (a2)), (3, .int (v3)), (4, .int (v4 + 1))]) [1, 2, 3, 4, 0] rfl ?_
            exact ih  v3 (v4 + 1)  h
          · replace h := itp c5 h
            refine mG.iinc 3 (u := v3 + 1) (lv2 := [(3, .int (v3 + 1)), (0, .ref (t)), (1, .int (a1)), (2, .int (a2)), (4, .int (v4))]) dX6_howManyKnocks_39 rfl rfl (by decide) rfl ?_
            refine mG.iinc 4 (u := v4 + 1) (lv2 := [(4, .int (v4 + 1)), (3, .int (v3 + 1)), (0, .ref (t)), (1, .int (a1)), (2, .int (a2))]) dX6_howManyKnocks_42 rfl rfl (by decide) rfl ?_
            refine mG.goto 5 dX6_howManyKnocks_45 (by decide) ?_
            refine mG.sub (lv2 := [(0, .ref (t)), (1, .int (a1)), (2, .int (a2)), (3, .int (v3 + 1)), (4, .int (v4 + 1))]) [2, 3, 4, 1, 0] rfl ?_
            exact ih  (v3 + 1) (v4 + 1)  h
def f_X6_howManyKnocks (F : Nat) (S0 : mS) (t : Nat) (a1 : Int32) (a2 : Int32) : Option Int32 := lX6_howManyKnocks_5 F  t a1 a2 F S0 (0 : Int32) (0 : Int32)
set_option maxHeartbeats 4000000 in
set_option maxRecDepth 100000 in
theorem c_X6_howManyKnocks {F : Nat} {S0 : mS} {t : Nat} {a1 : Int32} {a2 : Int32} {R : Int32} (ht : kd0 t = 6) (h : f_X6_howManyKnocks F S0 t a1 a2 = some R) : mCt μX6_howManyKnocks 3 0 0 E0 S0 [.ref (t), .int (a1), .int (a2)] (mQe S0 (some (.int R))) := by
  unfold f_X6_howManyKnocks at h
  refine mCt.of (by decide) (Nat.le_of_ble_eq_true rfl) ?_
  intro x
  refine mG.iconst (v := 0) dX6_howManyKnocks_0 rfl ?_
  refine mG.istore_n (lv2 := [(3, .int 0), (0, .ref (t)), (1, .int (a1)), (2, .int (a2))]) dX6_howManyKnocks_1 rfl (by decide) rfl ?_
  refine mG.iconst (v := 0) dX6_howManyKnocks_2 rfl ?_
  refine mG.istore (lv2 := [(4, .int 0), (3, .int 0), (0, .ref (t)), (1, .int (a1)), (2, .int (a2))]) dX6_howManyKnocks_3 (by decide) rfl ?_
  refine mG.sub (lv2 := [(0, .ref (t)), (1, .int (a1)), (2, .int (a2)), (3, .int 0), (4, .int 0)]) [2, 3, 4, 1, 0] rfl ?_
  exact gX6_howManyKnocks_5 ht  F  (0 : Int32) (0 : Int32)  h
theorem dX6_marriedDates_0 : decode cX6_marriedDates 0 = .ok (.aload_n 0, 1) := by decide +kernel
theorem dX6_marriedDates_1 : decode cX6_marriedDates 1 = .ok (.iload_n 1, 1) := by decide +kernel
theorem dX6_marriedDates_2 : decode cX6_marriedDates 2 = .ok (.invokevirtual 89, 3) := by decide +kernel
theorem dX6_marriedDates_5 : decode cX6_marriedDates 5 = .ok (.ifCond .eq 16, 3) := by decide +kernel
theorem dX6_marriedDates_8 : decode cX6_marriedDates 8 = .ok (.aload_n 0, 1) := by decide +kernel
theorem dX6_marriedDates_9 : decode cX6_marriedDates 9 = .ok (.iload_n 2, 1) := by decide +kernel
theorem dX6_marriedDates_10 : decode cX6_marriedDates 10 = .ok (.invokevirtual 89, 3) := by decide +kernel
theorem dX6_marriedDates_13 : decode cX6_marriedDates 13 = .ok (.ifCond .eq 8, 3) := by decide +kernel
theorem dX6_marriedDates_16 : decode cX6_marriedDates 16 = .ok (.iload_n 1, 1) := by decide +kernel
theorem dX6_marriedDates_17 : decode cX6_marriedDates 17 = .ok (.iload_n 2, 1) := by decide +kernel
theorem dX6_marriedDates_18 : decode cX6_marriedDates 18 = .ok (.if_icmp .ne 5, 3) := by decide +kernel
theorem dX6_marriedDates_21 : decode cX6_marriedDates 21 = .ok (.iconst (-1), 1) := by decide +kernel
theorem dX6_marriedDates_22 : decode cX6_marriedDates 22 = .ok (.ireturn, 1) := by decide +kernel
theorem dX6_marriedDates_23 : decode cX6_marriedDates 23 = .ok (.aload_n 0, 1) := by decide +kernel
theorem dX6_marriedDates_24 : decode cX6_marriedDates 24 = .ok (.getfield 9, 3) := by decide +kernel
theorem dX6_marriedDates_27 : decode cX6_marriedDates 27 = .ok (.iload_n 1, 1) := by decide +kernel
theorem dX6_marriedDates_28 : decode cX6_marriedDates 28 = .ok (.iaload, 1) := by decide +kernel
theorem dX6_marriedDates_29 : decode cX6_marriedDates 29 = .ok (.aload_n 0, 1) := by decide +kernel
theorem dX6_marriedDates_30 : decode cX6_marriedDates 30 = .ok (.getfield 9, 3) := by decide +kernel
theorem dX6_marriedDates_33 : decode cX6_marriedDates 33 = .ok (.iload_n 2, 1) := by decide +kernel
theorem dX6_marriedDates_34 : decode cX6_marriedDates 34 = .ok (.iaload, 1) := by decide +kernel
theorem dX6_marriedDates_35 : decode cX6_marriedDates 35 = .ok (.iand, 1) := by decide +kernel
theorem dX6_marriedDates_36 : decode cX6_marriedDates 36 = .ok (.istore_n 3, 1) := by decide +kernel
theorem dX6_marriedDates_37 : decode cX6_marriedDates 37 = .ok (.iload_n 3, 1) := by decide +kernel
theorem dX6_marriedDates_38 : decode cX6_marriedDates 38 = .ok (.ifCond .eq 5, 3) := by decide +kernel
theorem dX6_marriedDates_41 : decode cX6_marriedDates 41 = .ok (.iload_n 3, 1) := by decide +kernel
theorem dX6_marriedDates_42 : decode cX6_marriedDates 42 = .ok (.ireturn, 1) := by decide +kernel
theorem dX6_marriedDates_43 : decode cX6_marriedDates 43 = .ok (.aload_n 0, 1) := by decide +kernel
theorem dX6_marriedDates_44 : decode cX6_marriedDates 44 = .ok (.getfield 9, 3) := by decide +kernel
theorem dX6_marriedDates_47 : decode cX6_marriedDates 47 = .ok (.iload_n 1, 1) := by decide +kernel
theorem dX6_marriedDates_48 : decode cX6_marriedDates 48 = .ok (.iaload, 1) := by decide +kernel
theorem dX6_marriedDates_49 : decode cX6_marriedDates 49 = .ok (.aload_n 0, 1) := by decide +kernel
theorem dX6_marriedDates_50 : decode cX6_marriedDates 50 = .ok (.getfield 9, 3) := by decide +kernel
theorem dX6_marriedDates_53 : decode cX6_marriedDates 53 = .ok (.iload_n 2, 1) := by decide +kernel
theorem dX6_marriedDates_54 : decode cX6_marriedDates 54 = .ok (.iaload, 1) := by decide +kernel
theorem dX6_marriedDates_55 : decode cX6_marriedDates 55 = .ok (.ior, 1) := by decide +kernel
theorem dX6_marriedDates_56 : decode cX6_marriedDates 56 = .ok (.istore 4, 2) := by decide +kernel
theorem dX6_marriedDates_58 : decode cX6_marriedDates 58 = .ok (.iload 4, 2) := by decide +kernel
theorem dX6_marriedDates_60 : decode cX6_marriedDates 60 = .ok (.invokestatic 71, 3) := by decide +kernel
theorem dX6_marriedDates_63 : decode cX6_marriedDates 63 = .ok (.iconst 3, 1) := by decide +kernel
theorem dX6_marriedDates_64 : decode cX6_marriedDates 64 = .ok (.if_icmp .gt 8, 3) := by decide +kernel
theorem dX6_marriedDates_67 : decode cX6_marriedDates 67 = .ok (.iload 4, 2) := by decide +kernel
theorem dX6_marriedDates_69 : decode cX6_marriedDates 69 = .ok (.goto 4, 3) := by decide +kernel
theorem dX6_marriedDates_72 : decode cX6_marriedDates 72 = .ok (.iconst (-1), 1) := by decide +kernel
theorem dX6_marriedDates_73 : decode cX6_marriedDates 73 = .ok (.ireturn, 1) := by decide +kernel
def f_X6_marriedDates (F : Nat) (S0 : mS) (t : Nat) (a1 : Int32) (a2 : Int32) : Option Int32 := if (f_X6_lives S0 t a1) = true then (if (f_X6_lives S0 t a2) = true then (if a1 = a2 then (some (-1 : Int32)) else (ck (inb a1 7) (ck (inb a2 7) (if ((S0.1 (t + 1) a1.toNatClampNeg) &&& (S0.1 (t + 1) a2.toNatClampNeg)) = 0 then (ck (inb a1 7) (ck (inb a2 7) (if (3 : Int32) < (f_J6_bitCount_0f7a4 S0 ((S0.1 (t + 1) a1.toNatClampNeg) ||| (S0.1 (t + 1) a2.toNatClampNeg))) then (some (-1 : Int32)) else (some ((S0.1 (t + 1) a1.toNatClampNeg) ||| (S0.1 (t + 1) a2.toNatClampNeg)))))) else (some ((S0.1 (t + 1) a1.toNatClampNeg) &&& (S0.1 (t + 1) a2.toNatClampNeg))))))) else (some (-1 : Int32))) else (some (-1 : Int32))
set_option maxHeartbeats 4000000 in
set_option maxRecDepth 100000 in
theorem c_X6_marriedDates {F : Nat} {S0 : mS} {t : Nat} {a1 : Int32} {a2 : Int32} {R : Int32} (ht : kd0 t = 6) (h : f_X6_marriedDates F S0 t a1 a2 = some R) : mCt μX6_marriedDates 3 0 0 E0 S0 [.ref (t), .int (a1), .int (a2)] (mQe S0 (some (.int R))) := by
  unfold f_X6_marriedDates at h
  refine mCt.of (by decide) (Nat.le_of_ble_eq_true rfl) ?_
  intro x
  refine mG.aload_n 0 dX6_marriedDates_0 rfl ?_
  refine mG.iload_n 1 dX6_marriedDates_1 rfl ?_
  refine mG.callV0 (as := [.int (a1)]) (st := []) (S2 := S0) (r := some (.int (bI (f_X6_lives S0 t a1)))) dX6_marriedDates_2 mvX6_lives wk36_12 rfl ht rfl (by decide) (Nat.le_of_ble_eq_true rfl) (c_X6_lives ht rfl) ?_
  refine mG.ifz_eq (b := f_X6_lives S0 t a1) 21 dX6_marriedDates_5 (by decide) (fun c9 => ?_) (fun c9 => ?_)
  · replace h := itn c9 h
    refine mG.iconst (v := (-1)) dX6_marriedDates_21 rfl ?_
    obtain rfl := Option.some.inj h
    exact mG.iret dX6_marriedDates_22 rfl ⟨rfl, rfl, rfl⟩
  · replace h := itp c9 h
    refine mG.aload_n 0 dX6_marriedDates_8 rfl ?_
    refine mG.iload_n 2 dX6_marriedDates_9 rfl ?_
    refine mG.callV0 (as := [.int (a2)]) (st := []) (S2 := S0) (r := some (.int (bI (f_X6_lives S0 t a2)))) dX6_marriedDates_10 mvX6_lives wk36_12 rfl ht rfl (by decide) (Nat.le_of_ble_eq_true rfl) (c_X6_lives ht rfl) ?_
    refine mG.ifz_eq (b := f_X6_lives S0 t a2) 21 dX6_marriedDates_13 (by decide) (fun c8 => ?_) (fun c8 => ?_)
    · replace h := itn c8 h
      refine mG.iconst (v := (-1)) dX6_marriedDates_21 rfl ?_
      obtain rfl := Option.some.inj h
      exact mG.iret dX6_marriedDates_22 rfl ⟨rfl, rfl, rfl⟩
    · replace h := itp c8 h
      refine mG.iload_n 1 dX6_marriedDates_16 rfl ?_
      refine mG.iload_n 2 dX6_marriedDates_17 rfl ?_
      refine mG.icmp_ne 23 dX6_marriedDates_18 (by decide) (fun c7 => ?_) (fun c7 => ?_)
      · replace h := itn c7 h
        refine mG.aload_n 0 dX6_marriedDates_23 rfl ?_
        refine mG.get (v := .ref (t + 1)) dX6_marriedDates_24 mfX6_9 ht (lr6_shut ht) ?_
        refine mG.iload_n 1 dX6_marriedDates_27 rfl ?_
        obtain ⟨b1, h⟩ := ckp h
        refine mG.iald dX6_marriedDates_28 (lk6_shut ht) (ll6_shut ht) (inbp b1) ?_
        refine mG.aload_n 0 dX6_marriedDates_29 rfl ?_
        refine mG.get (v := .ref (t + 1)) dX6_marriedDates_30 mfX6_9 ht (lr6_shut ht) ?_
        refine mG.iload_n 2 dX6_marriedDates_33 rfl ?_
        obtain ⟨b2, h⟩ := ckp h
        refine mG.iald dX6_marriedDates_34 (lk6_shut ht) (ll6_shut ht) (inbp b2) ?_
        refine mG.iand dX6_marriedDates_35 ?_
        refine mG.istore_n (lv2 := [(3, .int ((S0.1 (t + 1) a1.toNatClampNeg) &&& (S0.1 (t + 1) a2.toNatClampNeg))), (0, .ref (t)), (1, .int (a1)), (2, .int (a2))]) dX6_marriedDates_36 rfl (by decide) rfl ?_
        refine mG.iload_n 0 dX6_marriedDates_37 rfl ?_
        refine mG.if_eq 43 dX6_marriedDates_38 (by decide) (fun c6 => ?_) (fun c6 => ?_)
        · replace h := itp c6 h
          refine mG.aload_n 1 dX6_marriedDates_43 rfl ?_
          refine mG.get (v := .ref (t + 1)) dX6_marriedDates_44 mfX6_9 ht (lr6_shut ht) ?_
          refine mG.iload_n 2 dX6_marriedDates_47 rfl ?_
          obtain ⟨b3, h⟩ := ckp h
          refine mG.iald dX6_marriedDates_48 (lk6_shut ht) (ll6_shut ht) (inbp b3) ?_
          refine mG.aload_n 1 dX6_marriedDates_49 rfl ?_
          refine mG.get (v := .ref (t + 1)) dX6_marriedDates_50 mfX6_9 ht (lr6_shut ht) ?_
          refine mG.iload_n 3 dX6_marriedDates_53 rfl ?_
          obtain ⟨b4, h⟩ := ckp h
          refine mG.iald dX6_marriedDates_54 (lk6_shut ht) (ll6_shut ht) (inbp b4) ?_
          refine mG.ior dX6_marriedDates_55 ?_
          refine mG.istore (lv2 := [(4, .int ((S0.1 (t + 1) a1.toNatClampNeg) ||| (S0.1 (t + 1) a2.toNatClampNeg))), (3, .int ((S0.1 (t + 1) a1.toNatClampNeg) &&& (S0.1 (t + 1) a2.toNatClampNeg))), (0, .ref (t)), (1, .int (a1)), (2, .int (a2))]) dX6_marriedDates_56 (by decide) rfl ?_
          refine mG.iload 0 dX6_marriedDates_58 rfl ?_
          refine mG.callS0 (as := [.int ((S0.1 (t + 1) a1.toNatClampNeg) ||| (S0.1 (t + 1) a2.toNatClampNeg))]) (st := []) (S2 := S0) (r := some (.int (f_J6_bitCount_0f7a4 S0 ((S0.1 (t + 1) a1.toNatClampNeg) ||| (S0.1 (t + 1) a2.toNatClampNeg))))) dX6_marriedDates_60 mbJ6_bitCount_0f7a4 wk30_6 wk36_13 rfl rfl (by decide) (Nat.le_of_ble_eq_true rfl) (c_J6_bitCount_0f7a4  rfl) ?_
          refine mG.iconst (v := 3) dX6_marriedDates_63 rfl ?_
          refine mG.icmp_gt 72 dX6_marriedDates_64 (by decide) (fun c5 => ?_) (fun c5 => ?_)
          · replace h := itp c5 h
            refine mG.iconst (v := (-1)) dX6_marriedDates_72 rfl ?_
            obtain rfl := Option.some.inj h
            exact mG.iret dX6_marriedDates_73 rfl ⟨rfl, rfl, rfl⟩
          · replace h := itn c5 h
            refine mG.iload 0 dX6_marriedDates_67 rfl ?_
            refine mG.goto 73 dX6_marriedDates_69 (by decide) ?_
            obtain rfl := Option.some.inj h
            exact mG.iret dX6_marriedDates_73 rfl ⟨rfl, rfl, rfl⟩
        · replace h := itn c6 h
          refine mG.iload_n 0 dX6_marriedDates_41 rfl ?_
          obtain rfl := Option.some.inj h
          exact mG.iret dX6_marriedDates_42 rfl ⟨rfl, rfl, rfl⟩
      · replace h := itp c7 h
        refine mG.iconst (v := (-1)) dX6_marriedDates_21 rfl ?_
        obtain rfl := Option.some.inj h
        exact mG.iret dX6_marriedDates_22 rfl ⟨rfl, rfl, rfl⟩
theorem dX6_join_0 : decode cX6_join 0 = .ok (.aload_n 0, 1) := by decide +kernel
theorem dX6_join_1 : decode cX6_join 1 = .ok (.iload_n 1, 1) := by decide +kernel
theorem dX6_join_2 : decode cX6_join 2 = .ok (.invokevirtual 89, 3) := by decide +kernel
theorem dX6_join_5 : decode cX6_join 5 = .ok (.ifCond .eq 79, 3) := by decide +kernel
theorem dX6_join_8 : decode cX6_join 8 = .ok (.aload_n 0, 1) := by decide +kernel
theorem dX6_join_9 : decode cX6_join 9 = .ok (.iload_n 2, 1) := by decide +kernel
theorem dX6_join_10 : decode cX6_join 10 = .ok (.invokevirtual 89, 3) := by decide +kernel
theorem dX6_join_13 : decode cX6_join 13 = .ok (.ifCond .eq 71, 3) := by decide +kernel
theorem dX6_join_16 : decode cX6_join 16 = .ok (.aload_n 0, 1) := by decide +kernel
theorem dX6_join_17 : decode cX6_join 17 = .ok (.getfield 9, 3) := by decide +kernel
theorem dX6_join_20 : decode cX6_join 20 = .ok (.iload_n 2, 1) := by decide +kernel
theorem dX6_join_21 : decode cX6_join 21 = .ok (.iload_n 3, 1) := by decide +kernel
theorem dX6_join_22 : decode cX6_join 22 = .ok (.iastore, 1) := by decide +kernel
theorem dX6_join_23 : decode cX6_join 23 = .ok (.aload_n 0, 1) := by decide +kernel
theorem dX6_join_24 : decode cX6_join 24 = .ok (.getfield 15, 3) := by decide +kernel
theorem dX6_join_27 : decode cX6_join 27 = .ok (.iload_n 2, 1) := by decide +kernel
theorem dX6_join_28 : decode cX6_join 28 = .ok (.sipush 9999, 3) := by decide +kernel
theorem dX6_join_31 : decode cX6_join 31 = .ok (.aload_n 0, 1) := by decide +kernel
theorem dX6_join_32 : decode cX6_join 32 = .ok (.getfield 15, 3) := by decide +kernel
theorem dX6_join_35 : decode cX6_join 35 = .ok (.iload_n 1, 1) := by decide +kernel
theorem dX6_join_36 : decode cX6_join 36 = .ok (.iaload, 1) := by decide +kernel
theorem dX6_join_37 : decode cX6_join 37 = .ok (.aload_n 0, 1) := by decide +kernel
theorem dX6_join_38 : decode cX6_join 38 = .ok (.getfield 15, 3) := by decide +kernel
theorem dX6_join_41 : decode cX6_join 41 = .ok (.iload_n 2, 1) := by decide +kernel
theorem dX6_join_42 : decode cX6_join 42 = .ok (.iaload, 1) := by decide +kernel
theorem dX6_join_43 : decode cX6_join 43 = .ok (.iadd, 1) := by decide +kernel
theorem dX6_join_44 : decode cX6_join 44 = .ok (.invokestatic 35, 3) := by decide +kernel
theorem dX6_join_47 : decode cX6_join 47 = .ok (.iastore, 1) := by decide +kernel
theorem dX6_join_48 : decode cX6_join 48 = .ok (.aload_n 0, 1) := by decide +kernel
theorem dX6_join_49 : decode cX6_join 49 = .ok (.getfield 18, 3) := by decide +kernel
theorem dX6_join_52 : decode cX6_join 52 = .ok (.iload_n 2, 1) := by decide +kernel
theorem dX6_join_53 : decode cX6_join 53 = .ok (.bipush 99, 2) := by decide +kernel
theorem dX6_join_55 : decode cX6_join 55 = .ok (.aload_n 0, 1) := by decide +kernel
theorem dX6_join_56 : decode cX6_join 56 = .ok (.getfield 18, 3) := by decide +kernel
theorem dX6_join_59 : decode cX6_join 59 = .ok (.iload_n 1, 1) := by decide +kernel
theorem dX6_join_60 : decode cX6_join 60 = .ok (.iaload, 1) := by decide +kernel
theorem dX6_join_61 : decode cX6_join 61 = .ok (.aload_n 0, 1) := by decide +kernel
theorem dX6_join_62 : decode cX6_join 62 = .ok (.getfield 18, 3) := by decide +kernel
theorem dX6_join_65 : decode cX6_join 65 = .ok (.iload_n 2, 1) := by decide +kernel
theorem dX6_join_66 : decode cX6_join 66 = .ok (.iaload, 1) := by decide +kernel
theorem dX6_join_67 : decode cX6_join 67 = .ok (.iadd, 1) := by decide +kernel
theorem dX6_join_68 : decode cX6_join 68 = .ok (.invokestatic 35, 3) := by decide +kernel
theorem dX6_join_71 : decode cX6_join 71 = .ok (.iastore, 1) := by decide +kernel
theorem dX6_join_72 : decode cX6_join 72 = .ok (.aload_n 0, 1) := by decide +kernel
theorem dX6_join_73 : decode cX6_join 73 = .ok (.dup, 1) := by decide +kernel
theorem dX6_join_74 : decode cX6_join 74 = .ok (.getfield 50, 3) := by decide +kernel
theorem dX6_join_77 : decode cX6_join 77 = .ok (.iconst 1, 1) := by decide +kernel
theorem dX6_join_78 : decode cX6_join 78 = .ok (.iload_n 1, 1) := by decide +kernel
theorem dX6_join_79 : decode cX6_join 79 = .ok (.ishl, 1) := by decide +kernel
theorem dX6_join_80 : decode cX6_join 80 = .ok (.ior, 1) := by decide +kernel
theorem dX6_join_81 : decode cX6_join 81 = .ok (.putfield 50, 3) := by decide +kernel
theorem dX6_join_84 : decode cX6_join 84 = .ok (.return_, 1) := by decide +kernel
def f_X6_join (F : Nat) (S : mS) (t : Nat) (a1 : Int32) (a2 : Int32) (a3 : Int32) : Option mS := if (f_X6_lives S t a1) = true then (if (f_X6_lives S t a2) = true then (ck (inb a2 7) (stp (sI S (t + 1) a2.toNatClampNeg a3) fun S2 => ck (inb a1 7) (ck (inb a2 7) (ck (inb a2 7) (stp (sI S2 (t + 2) a2.toNatClampNeg (imin (9999 : Int32) ((S2.1 (t + 2) a1.toNatClampNeg) + (S2.1 (t + 2) a2.toNatClampNeg)))) fun S6 => ck (inb a1 7) (ck (inb a2 7) (ck (inb a2 7) (stp (sI S6 (t + 3) a2.toNatClampNeg (imin (99 : Int32) ((S6.1 (t + 3) a1.toNatClampNeg) + (S6.1 (t + 3) a2.toNatClampNeg)))) fun S10 => stp (sI S10 t 6 ((S10.1 t 6) ||| ((1 : Int32) <<< (a1 &&& 31)))) fun S11 => some S11)))))))) else (some S)) else (some S)
set_option maxHeartbeats 4000000 in
set_option maxRecDepth 100000 in
theorem c_X6_join {F : Nat} {S : mS} {t : Nat} {a1 : Int32} {a2 : Int32} {a3 : Int32} {R : mS} (ht : kd0 t = 6) (h : f_X6_join F S t a1 a2 a3 = some R) : mCt μX6_join 3 0 0 E0 S [.ref (t), .int (a1), .int (a2), .int (a3)] (mQe R none) := by
  unfold f_X6_join at h
  refine mCt.of (by decide) (Nat.le_of_ble_eq_true rfl) ?_
  intro x
  refine mG.aload_n 0 dX6_join_0 rfl ?_
  refine mG.iload_n 1 dX6_join_1 rfl ?_
  refine mG.callV0 (as := [.int (a1)]) (st := []) (S2 := S) (r := some (.int (bI (f_X6_lives S t a1)))) dX6_join_2 mvX6_lives wk36_12 rfl ht rfl (by decide) (Nat.le_of_ble_eq_true rfl) (c_X6_lives ht rfl) ?_
  refine mG.ifz_eq (b := f_X6_lives S t a1) 84 dX6_join_5 (by decide) (fun c13 => ?_) (fun c13 => ?_)
  · replace h := itn c13 h
    obtain rfl := Option.some.inj h
    exact mG.vret dX6_join_84 rfl ⟨rfl, rfl, rfl⟩
  · replace h := itp c13 h
    refine mG.aload_n 0 dX6_join_8 rfl ?_
    refine mG.iload_n 2 dX6_join_9 rfl ?_
    refine mG.callV0 (as := [.int (a2)]) (st := []) (S2 := S) (r := some (.int (bI (f_X6_lives S t a2)))) dX6_join_10 mvX6_lives wk36_12 rfl ht rfl (by decide) (Nat.le_of_ble_eq_true rfl) (c_X6_lives ht rfl) ?_
    refine mG.ifz_eq (b := f_X6_lives S t a2) 84 dX6_join_13 (by decide) (fun c12 => ?_) (fun c12 => ?_)
    · replace h := itn c12 h
      obtain rfl := Option.some.inj h
      exact mG.vret dX6_join_84 rfl ⟨rfl, rfl, rfl⟩
    · replace h := itp c12 h
      refine mG.aload_n 0 dX6_join_16 rfl ?_
      refine mG.get (v := .ref (t + 1)) dX6_join_17 mfX6_9 ht (lr6_shut ht) ?_
      refine mG.iload_n 2 dX6_join_20 rfl ?_
      refine mG.iload_n 3 dX6_join_21 rfl ?_
      obtain ⟨b1, h⟩ := ckp h
      obtain ⟨S2, hS2, h⟩ := stpp h
      refine mG.iast dX6_join_22 (lk6_shut ht) (ll6_shut ht) (inbp b1) hS2 ?_
      refine mG.aload_n 0 dX6_join_23 rfl ?_
      refine mG.get (v := .ref (t + 2)) dX6_join_24 mfX6_15 ht (lr6_purse ht) ?_
      refine mG.iload_n 2 dX6_join_27 rfl ?_
      refine mG.sipush (v := 9999) dX6_join_28 (by decide) ?_
      refine mG.aload_n 0 dX6_join_31 rfl ?_
      refine mG.get (v := .ref (t + 2)) dX6_join_32 mfX6_15 ht (lr6_purse ht) ?_
      refine mG.iload_n 1 dX6_join_35 rfl ?_
      obtain ⟨b3, h⟩ := ckp h
      refine mG.iald dX6_join_36 (lk6_purse ht) (ll6_purse ht) (inbp b3) ?_
      refine mG.aload_n 0 dX6_join_37 rfl ?_
      refine mG.get (v := .ref (t + 2)) dX6_join_38 mfX6_15 ht (lr6_purse ht) ?_
      refine mG.iload_n 2 dX6_join_41 rfl ?_
      obtain ⟨b4, h⟩ := ckp h
      refine mG.iald dX6_join_42 (lk6_purse ht) (ll6_purse ht) (inbp b4) ?_
      refine mG.iadd dX6_join_43 ?_
      refine mG.mmin dX6_join_44 wk28_10 (by decide) (Nat.le_of_ble_eq_true rfl) (Nat.le_refl _) (Nat.le_refl _) ?_
      obtain ⟨b5, h⟩ := ckp h
      obtain ⟨S6, hS6, h⟩ := stpp h
      refine mG.iast dX6_join_47 (lk6_purse ht) (ll6_purse ht) (inbp b5) hS6 ?_
      refine mG.aload_n 0 dX6_join_48 rfl ?_
      refine mG.get (v := .ref (t + 3)) dX6_join_49 mfX6_18 ht (lr6_friends ht) ?_
      refine mG.iload_n 2 dX6_join_52 rfl ?_
      refine mG.bipush (v := 99) dX6_join_53 (by decide) ?_
      refine mG.aload_n 0 dX6_join_55 rfl ?_
      refine mG.get (v := .ref (t + 3)) dX6_join_56 mfX6_18 ht (lr6_friends ht) ?_
      refine mG.iload_n 1 dX6_join_59 rfl ?_
      obtain ⟨b7, h⟩ := ckp h
      refine mG.iald dX6_join_60 (lk6_friends ht) (ll6_friends ht) (inbp b7) ?_
      refine mG.aload_n 0 dX6_join_61 rfl ?_
      refine mG.get (v := .ref (t + 3)) dX6_join_62 mfX6_18 ht (lr6_friends ht) ?_
      refine mG.iload_n 2 dX6_join_65 rfl ?_
      obtain ⟨b8, h⟩ := ckp h
      refine mG.iald dX6_join_66 (lk6_friends ht) (ll6_friends ht) (inbp b8) ?_
      refine mG.iadd dX6_join_67 ?_
      refine mG.mmin dX6_join_68 wk28_10 (by decide) (Nat.le_of_ble_eq_true rfl) (Nat.le_refl _) (Nat.le_refl _) ?_
      obtain ⟨b9, h⟩ := ckp h
      obtain ⟨S10, hS10, h⟩ := stpp h
      refine mG.iast dX6_join_71 (lk6_friends ht) (ll6_friends ht) (inbp b9) hS10 ?_
      refine mG.aload_n 0 dX6_join_72 rfl ?_
      refine mG.dup dX6_join_73 rfl ?_
      refine mG.get (v := .int (S10.1 t 6)) dX6_join_74 mfX6_50 ht rfl ?_
      refine mG.iconst (v := 1) dX6_join_77 rfl ?_
      refine mG.iload_n 1 dX6_join_78 rfl ?_
      refine mG.ishl dX6_join_79 ?_
      refine mG.ior dX6_join_80 ?_
      obtain ⟨S11, hS11, h⟩ := stpp h
      refine mG.putI dX6_join_81 mfX6_50 rfl (Or.inl rfl) ht hS11 ?_
      obtain rfl := Option.some.inj h
      exact mG.vret dX6_join_84 rfl ⟨rfl, rfl, rfl⟩
theorem dX6_drawX_0 : decode cX6_drawX 0 = .ok (.aload_n 0, 1) := by decide +kernel
theorem dX6_drawX_1 : decode cX6_drawX 1 = .ok (.getfield 24, 3) := by decide +kernel
theorem dX6_drawX_4 : decode cX6_drawX 4 = .ok (.istore_n 1, 1) := by decide +kernel
theorem dX6_drawX_5 : decode cX6_drawX 5 = .ok (.aload_n 0, 1) := by decide +kernel
theorem dX6_drawX_6 : decode cX6_drawX 6 = .ok (.aload_n 0, 1) := by decide +kernel
theorem dX6_drawX_7 : decode cX6_drawX 7 = .ok (.getfield 24, 3) := by decide +kernel
theorem dX6_drawX_10 : decode cX6_drawX 10 = .ok (.sipush 359, 3) := by decide +kernel
theorem dX6_drawX_13 : decode cX6_drawX 13 = .ok (.imul, 1) := by decide +kernel
theorem dX6_drawX_14 : decode cX6_drawX 14 = .ok (.sipush 239, 3) := by decide +kernel
theorem dX6_drawX_17 : decode cX6_drawX 17 = .ok (.iadd, 1) := by decide +kernel
theorem dX6_drawX_18 : decode cX6_drawX 18 = .ok (.sipush 30431, 3) := by decide +kernel
theorem dX6_drawX_21 : decode cX6_drawX 21 = .ok (.irem, 1) := by decide +kernel
theorem dX6_drawX_22 : decode cX6_drawX 22 = .ok (.putfield 24, 3) := by decide +kernel
theorem dX6_drawX_25 : decode cX6_drawX 25 = .ok (.iload_n 1, 1) := by decide +kernel
theorem dX6_drawX_26 : decode cX6_drawX 26 = .ok (.ireturn, 1) := by decide +kernel
def f_X6_drawX (F : Nat) (S : mS) (t : Nat) : Option (mS × Int32) := stp (sI S t 8 ((((S.1 t 8) * (359 : Int32)) + (239 : Int32)) - (((S.1 t 8) * (359 : Int32)) + (239 : Int32)) / (30431 : Int32) * (30431 : Int32))) fun S1 => some (S1, S.1 t 8)
set_option maxHeartbeats 4000000 in
set_option maxRecDepth 100000 in
theorem c_X6_drawX {F : Nat} {S : mS} {t : Nat} {R : mS × Int32} (ht : kd0 t = 6) (h : f_X6_drawX F S t = some R) : mCt μX6_drawX 1 0 0 E0 S [.ref (t)] (mQe R.1 (some (.int R.2))) := by
  unfold f_X6_drawX at h
  refine mCt.of (by decide) (Nat.le_of_ble_eq_true rfl) ?_
  intro x
  refine mG.aload_n 0 dX6_drawX_0 rfl ?_
  refine mG.get (v := .int (S.1 t 8)) dX6_drawX_1 mfX6_24 ht rfl ?_
  refine mG.istore_n (lv2 := [(1, .int (S.1 t 8)), (0, .ref (t))]) dX6_drawX_4 rfl (by decide) rfl ?_
  refine mG.aload_n 1 dX6_drawX_5 rfl ?_
  refine mG.aload_n 1 dX6_drawX_6 rfl ?_
  refine mG.get (v := .int (S.1 t 8)) dX6_drawX_7 mfX6_24 ht rfl ?_
  refine mG.sipush (v := 359) dX6_drawX_10 (by decide) ?_
  refine mG.imul dX6_drawX_13 ?_
  refine mG.sipush (v := 239) dX6_drawX_14 (by decide) ?_
  refine mG.iadd dX6_drawX_17 ?_
  refine mG.sipush (v := 30431) dX6_drawX_18 (by decide) ?_
  refine mG.irem dX6_drawX_21 (by decide) ?_
  obtain ⟨S1, hS1, h⟩ := stpp h
  refine mG.putI dX6_drawX_22 mfX6_24 rfl (Or.inl rfl) ht hS1 ?_
  refine mG.iload_n 0 dX6_drawX_25 rfl ?_
  obtain rfl := Option.some.inj h
  exact mG.iret dX6_drawX_26 rfl ⟨rfl, rfl, rfl⟩
theorem dX6_canDraw_0 : decode cX6_canDraw 0 = .ok (.aload_n 0, 1) := by decide +kernel
theorem dX6_canDraw_1 : decode cX6_canDraw 1 = .ok (.iload_n 1, 1) := by decide +kernel
theorem dX6_canDraw_2 : decode cX6_canDraw 2 = .ok (.invokevirtual 89, 3) := by decide +kernel
theorem dX6_canDraw_5 : decode cX6_canDraw 5 = .ok (.ifCond .eq 20, 3) := by decide +kernel
theorem dX6_canDraw_8 : decode cX6_canDraw 8 = .ok (.aload_n 0, 1) := by decide +kernel
theorem dX6_canDraw_9 : decode cX6_canDraw 9 = .ok (.getfield 9, 3) := by decide +kernel
theorem dX6_canDraw_12 : decode cX6_canDraw 12 = .ok (.iload_n 1, 1) := by decide +kernel
theorem dX6_canDraw_13 : decode cX6_canDraw 13 = .ok (.iaload, 1) := by decide +kernel
theorem dX6_canDraw_14 : decode cX6_canDraw 14 = .ok (.invokestatic 71, 3) := by decide +kernel
theorem dX6_canDraw_17 : decode cX6_canDraw 17 = .ok (.iconst 3, 1) := by decide +kernel
theorem dX6_canDraw_18 : decode cX6_canDraw 18 = .ok (.if_icmp .ge 7, 3) := by decide +kernel
theorem dX6_canDraw_21 : decode cX6_canDraw 21 = .ok (.iconst 1, 1) := by decide +kernel
theorem dX6_canDraw_22 : decode cX6_canDraw 22 = .ok (.goto 4, 3) := by decide +kernel
theorem dX6_canDraw_25 : decode cX6_canDraw 25 = .ok (.iconst 0, 1) := by decide +kernel
theorem dX6_canDraw_26 : decode cX6_canDraw 26 = .ok (.ireturn, 1) := by decide +kernel
def f_X6_canDraw (F : Nat) (S0 : mS) (t : Nat) (a1 : Int32) : Option Bool := if (f_X6_lives S0 t a1) = true then (ck (inb a1 7) (if (3 : Int32) ≤ (f_J6_bitCount_0f7a4 S0 (S0.1 (t + 1) a1.toNatClampNeg)) then (some false) else (some true))) else (some false)
set_option maxHeartbeats 4000000 in
set_option maxRecDepth 100000 in
theorem c_X6_canDraw {F : Nat} {S0 : mS} {t : Nat} {a1 : Int32} {R : Bool} (ht : kd0 t = 6) (h : f_X6_canDraw F S0 t a1 = some R) : mCt μX6_canDraw 3 0 0 E0 S0 [.ref (t), .int (a1)] (mQe S0 (some (.int (bI R)))) := by
  unfold f_X6_canDraw at h
  refine mCt.of (by decide) (Nat.le_of_ble_eq_true rfl) ?_
  intro x
  refine mG.aload_n 0 dX6_canDraw_0 rfl ?_
  refine mG.iload_n 1 dX6_canDraw_1 rfl ?_
  refine mG.callV0 (as := [.int (a1)]) (st := []) (S2 := S0) (r := some (.int (bI (f_X6_lives S0 t a1)))) dX6_canDraw_2 mvX6_lives wk36_12 rfl ht rfl (by decide) (Nat.le_of_ble_eq_true rfl) (c_X6_lives ht rfl) ?_
  refine mG.ifz_eq (b := f_X6_lives S0 t a1) 25 dX6_canDraw_5 (by decide) (fun c3 => ?_) (fun c3 => ?_)
  · replace h := itn c3 h
    refine mG.iconst (v := 0) dX6_canDraw_25 rfl ?_
    obtain rfl := Option.some.inj h
    exact mG.zret (b := false) dX6_canDraw_26 rfl rfl ⟨rfl, rfl, rfl⟩
  · replace h := itp c3 h
    refine mG.aload_n 0 dX6_canDraw_8 rfl ?_
    refine mG.get (v := .ref (t + 1)) dX6_canDraw_9 mfX6_9 ht (lr6_shut ht) ?_
    refine mG.iload_n 1 dX6_canDraw_12 rfl ?_
    obtain ⟨b1, h⟩ := ckp h
    refine mG.iald dX6_canDraw_13 (lk6_shut ht) (ll6_shut ht) (inbp b1) ?_
    refine mG.callS0 (as := [.int (S0.1 (t + 1) a1.toNatClampNeg)]) (st := []) (S2 := S0) (r := some (.int (f_J6_bitCount_0f7a4 S0 (S0.1 (t + 1) a1.toNatClampNeg)))) dX6_canDraw_14 mbJ6_bitCount_0f7a4 wk30_6 wk36_13 rfl rfl (by decide) (Nat.le_of_ble_eq_true rfl) (c_J6_bitCount_0f7a4  rfl) ?_
    refine mG.iconst (v := 3) dX6_canDraw_17 rfl ?_
    refine mG.icmp_ge 25 dX6_canDraw_18 (by decide) (fun c2 => ?_) (fun c2 => ?_)
    · replace h := itp c2 h
      refine mG.iconst (v := 0) dX6_canDraw_25 rfl ?_
      obtain rfl := Option.some.inj h
      exact mG.zret (b := false) dX6_canDraw_26 rfl rfl ⟨rfl, rfl, rfl⟩
    · replace h := itn c2 h
      refine mG.iconst (v := 1) dX6_canDraw_21 rfl ?_
      refine mG.goto 26 dX6_canDraw_22 (by decide) ?_
      obtain rfl := Option.some.inj h
      exact mG.zret (b := true) dX6_canDraw_26 rfl rfl ⟨rfl, rfl, rfl⟩
theorem dX6_drawDate_0 : decode cX6_drawDate 0 = .ok (.iconst 0, 1) := by decide +kernel
theorem dX6_drawDate_1 : decode cX6_drawDate 1 = .ok (.istore_n 2, 1) := by decide +kernel
theorem dX6_drawDate_2 : decode cX6_drawDate 2 = .ok (.iload_n 2, 1) := by decide +kernel
theorem dX6_drawDate_3 : decode cX6_drawDate 3 = .ok (.bipush 20, 2) := by decide +kernel
theorem dX6_drawDate_5 : decode cX6_drawDate 5 = .ok (.if_icmp .ge 48, 3) := by decide +kernel
theorem dX6_drawDate_8 : decode cX6_drawDate 8 = .ok (.aload_n 0, 1) := by decide +kernel
theorem dX6_drawDate_9 : decode cX6_drawDate 9 = .ok (.iload_n 1, 1) := by decide +kernel
theorem dX6_drawDate_10 : decode cX6_drawDate 10 = .ok (.invokevirtual 92, 3) := by decide +kernel
theorem dX6_drawDate_13 : decode cX6_drawDate 13 = .ok (.ifCond .eq 40, 3) := by decide +kernel
theorem dX6_drawDate_16 : decode cX6_drawDate 16 = .ok (.aload_n 0, 1) := by decide +kernel
theorem dX6_drawDate_17 : decode cX6_drawDate 17 = .ok (.invokevirtual 95, 3) := by decide +kernel
theorem dX6_drawDate_20 : decode cX6_drawDate 20 = .ok (.bipush 20, 2) := by decide +kernel
theorem dX6_drawDate_22 : decode cX6_drawDate 22 = .ok (.irem, 1) := by decide +kernel
theorem dX6_drawDate_23 : decode cX6_drawDate 23 = .ok (.istore_n 3, 1) := by decide +kernel
theorem dX6_drawDate_24 : decode cX6_drawDate 24 = .ok (.aload_n 0, 1) := by decide +kernel
theorem dX6_drawDate_25 : decode cX6_drawDate 25 = .ok (.iload_n 1, 1) := by decide +kernel
theorem dX6_drawDate_26 : decode cX6_drawDate 26 = .ok (.iload_n 3, 1) := by decide +kernel
theorem dX6_drawDate_27 : decode cX6_drawDate 27 = .ok (.invokevirtual 98, 3) := by decide +kernel
theorem dX6_drawDate_30 : decode cX6_drawDate 30 = .ok (.ifCond .ne 17, 3) := by decide +kernel
theorem dX6_drawDate_33 : decode cX6_drawDate 33 = .ok (.aload_n 0, 1) := by decide +kernel
theorem dX6_drawDate_34 : decode cX6_drawDate 34 = .ok (.getfield 9, 3) := by decide +kernel
theorem dX6_drawDate_37 : decode cX6_drawDate 37 = .ok (.iload_n 1, 1) := by decide +kernel
theorem dX6_drawDate_38 : decode cX6_drawDate 38 = .ok (.dup2, 1) := by decide +kernel
theorem dX6_drawDate_39 : decode cX6_drawDate 39 = .ok (.iaload, 1) := by decide +kernel
theorem dX6_drawDate_40 : decode cX6_drawDate 40 = .ok (.iconst 1, 1) := by decide +kernel
theorem dX6_drawDate_41 : decode cX6_drawDate 41 = .ok (.iload_n 3, 1) := by decide +kernel
theorem dX6_drawDate_42 : decode cX6_drawDate 42 = .ok (.ishl, 1) := by decide +kernel
theorem dX6_drawDate_43 : decode cX6_drawDate 43 = .ok (.ior, 1) := by decide +kernel
theorem dX6_drawDate_44 : decode cX6_drawDate 44 = .ok (.iastore, 1) := by decide +kernel
theorem dX6_drawDate_45 : decode cX6_drawDate 45 = .ok (.iload_n 3, 1) := by decide +kernel
theorem dX6_drawDate_46 : decode cX6_drawDate 46 = .ok (.ireturn, 1) := by decide +kernel
theorem dX6_drawDate_47 : decode cX6_drawDate 47 = .ok (.iinc 2 1, 3) := by decide +kernel
theorem dX6_drawDate_50 : decode cX6_drawDate 50 = .ok (.goto (-48), 3) := by decide +kernel
theorem dX6_drawDate_53 : decode cX6_drawDate 53 = .ok (.iconst (-1), 1) := by decide +kernel
theorem dX6_drawDate_54 : decode cX6_drawDate 54 = .ok (.ireturn, 1) := by decide +kernel
def lX6_drawDate_2 (F : Nat)  (t : Nat) (a1 : Int32) : Nat → mS → Int32 → Option (mS × Int32)
  | 0, _, _ => none
  | n + 1, S, v2 => if (20 : Int32) ≤ v2 then (some (S, (-1 : Int32))) else (bd (f_X6_canDraw F S t a1) fun q1 => if q1 = true then (bd (f_X6_drawX F S t) fun q2 => bd (f_X6_isShut F q2.1 t a1 (q2.2 - q2.2 / (20 : Int32) * (20 : Int32))) fun q3 => if q3 = true then (lX6_drawDate_2 F  t a1 n q2.1 (v2 + 1)) else (ck (inb a1 7) (ck (inb a1 7) (stp (sI q2.1 (t + 1) a1.toNatClampNeg ((q2.1.1 (t + 1) a1.toNatClampNeg) ||| ((1 : Int32) <<< ((q2.2 - q2.2 / (20 : Int32) * (20 : Int32)) &&& 31)))) fun S6 => some (S6, q2.2 - q2.2 / (20 : Int32) * (20 : Int32)))))) else (some (S, (-1 : Int32))))
set_option maxHeartbeats 4000000 in
set_option maxRecDepth 100000 in
theorem gX6_drawDate_2 {x : mX} {F : Nat} {t : Nat} {a1 : Int32}   {R : mS × Int32} (ht : kd0 t = 6)  : ∀ (n : Nat) (S : mS) (v2 : Int32), lX6_drawDate_2 F  t a1 n S v2 = some R → mG x μX6_drawDate 4 0 0 (mQe R.1 (some (.int R.2))) 0 0 E0 S 2 [(0, .ref (t)), (1, .int (a1)), (2, .int (v2))] [] := by
  intro n
  induction n with
  | zero =>
    intro S v2 h
    cases h
  | succ n ih =>
    intro S v2 h
    unfold lX6_drawDate_2 at h
    refine mG.iload_n 2 dX6_drawDate_2 rfl ?_
    refine mG.bipush (v := 20) dX6_drawDate_3 (by decide) ?_
    refine mG.icmp_ge 53 dX6_drawDate_5 (by decide) (fun c9 => ?_) (fun c9 => ?_)
    · replace h := itp c9 h
      refine mG.iconst (v := (-1)) dX6_drawDate_53 rfl ?_
      obtain rfl := Option.some.inj h
      exact mG.iret dX6_drawDate_54 rfl ⟨rfl, rfl, rfl⟩
    · replace h := itn c9 h
      refine mG.aload_n 0 dX6_drawDate_8 rfl ?_
      refine mG.iload_n 1 dX6_drawDate_9 rfl ?_
      obtain ⟨q1, hq1, h⟩ := bdp h
      refine mG.callV0 (as := [.int (a1)]) (st := []) (S2 := S) (r := some (.int (bI (q1)))) dX6_drawDate_10 mvX6_canDraw wk37_10 rfl ht rfl (by decide) (Nat.le_of_ble_eq_true rfl) (c_X6_canDraw ht hq1) ?_
      refine mG.ifz_eq (b := q1) 53 dX6_drawDate_13 (by decide) (fun c8 => ?_) (fun c8 => ?_)
      · replace h := itn c8 h
        refine mG.iconst (v := (-1)) dX6_drawDate_53 rfl ?_
        obtain rfl := Option.some.inj h
        exact mG.iret dX6_drawDate_54 rfl ⟨rfl, rfl, rfl⟩
      · replace h := itp c8 h
        refine mG.aload_n 0 dX6_drawDate_16 rfl ?_
        obtain ⟨q2, hq2, h⟩ := bdp h
        refine mG.callV0 (as := []) (st := []) (S2 := q2.1) (r := some (.int (q2.2))) dX6_drawDate_17 mvX6_drawX wk37_11 rfl ht rfl (by decide) (Nat.le_of_ble_eq_true rfl) (c_X6_drawX ht hq2) ?_
        refine mG.bipush (v := 20) dX6_drawDate_20 (by decide) ?_
        refine mG.irem dX6_drawDate_22 (by decide) ?_
        refine mG.istore_n (lv2 := [(3, .int (q2.2 - q2.2 / (20 : Int32) * (20 : Int32))), (0, .ref (t)), (1, .int (a1)), (2, .int (v2))]) dX6_drawDate_23 rfl (by decide) rfl ?_
        refine mG.aload_n 1 dX6_drawDate_24 rfl ?_
        refine mG.iload_n 2 dX6_drawDate_25 rfl ?_
        refine mG.iload_n 0 dX6_drawDate_26 rfl ?_
        obtain ⟨q3, hq3, h⟩ := bdp h
        refine mG.callV0 (as := [.int (a1), .int (q2.2 - q2.2 / (20 : Int32) * (20 : Int32))]) (st := []) (S2 := q2.1) (r := some (.int (bI (q3)))) dX6_drawDate_27 mvX6_isShut wk37_15 rfl ht rfl (by decide) (Nat.le_of_ble_eq_true rfl) (c_X6_isShut ht hq3) ?_
        refine mG.ifz_ne (b := q3) 47 dX6_drawDate_30 (by decide) (fun c7 => ?_) (fun c7 => ?_)
        · replace h := itp c7 h
          refine mG.iinc 3 (u := v2 + 1) (lv2 := [(2, .int (v2 + 1)), (3, .int (q2.2 - q2.2 / (20 : Int32) * (20 : Int32))), (0, .ref (t)), (1, .int (a1))]) dX6_drawDate_47 rfl rfl (by decide) rfl ?_
          refine mG.goto 2 dX6_drawDate_50 (by decide) ?_
          refine mG.sub (lv2 := [(0, .ref (t)), (1, .int (a1)), (2, .int (v2 + 1))]) [2, 3, 0] rfl ?_
          exact ih q2.1 (v2 + 1)  h
        · replace h := itn c7 h
          refine mG.aload_n 1 dX6_drawDate_33 rfl ?_
          refine mG.get (v := .ref (t + 1)) dX6_drawDate_34 mfX6_9 ht (lr6_shut ht) ?_
          refine mG.iload_n 2 dX6_drawDate_37 rfl ?_
          refine mG.dup2 dX6_drawDate_38 rfl rfl ?_
          obtain ⟨b4, h⟩ := ckp h
          refine mG.iald dX6_drawDate_39 (lk6_shut ht) (ll6_shut ht) (inbp b4) ?_
          refine mG.iconst (v := 1) dX6_drawDate_40 rfl ?_
          refine mG.iload_n 0 dX6_drawDate_41 rfl ?_
          refine mG.ishl dX6_drawDate_42 ?_
          refine mG.ior dX6_drawDate_43 ?_
          obtain ⟨b5, h⟩ := ckp h
          obtain ⟨S6, hS6, h⟩ := stpp h
          refine mG.iast dX6_drawDate_44 (lk6_shut ht) (ll6_shut ht) (inbp b5) hS6 ?_
          refine mG.iload_n 0 dX6_drawDate_45 rfl ?_
          obtain rfl := Option.some.inj h
          exact mG.iret dX6_drawDate_46 rfl ⟨rfl, rfl, rfl⟩
def f_X6_drawDate (F : Nat) (S : mS) (t : Nat) (a1 : Int32) : Option (mS × Int32) := lX6_drawDate_2 F  t a1 F S (0 : Int32)
set_option maxHeartbeats 4000000 in
set_option maxRecDepth 100000 in
theorem c_X6_drawDate {F : Nat} {S : mS} {t : Nat} {a1 : Int32} {R : mS × Int32} (ht : kd0 t = 6) (h : f_X6_drawDate F S t a1 = some R) : mCt μX6_drawDate 4 0 0 E0 S [.ref (t), .int (a1)] (mQe R.1 (some (.int R.2))) := by
  unfold f_X6_drawDate at h
  refine mCt.of (by decide) (Nat.le_of_ble_eq_true rfl) ?_
  intro x
  refine mG.iconst (v := 0) dX6_drawDate_0 rfl ?_
  refine mG.istore_n (lv2 := [(2, .int 0), (0, .ref (t)), (1, .int (a1))]) dX6_drawDate_1 rfl (by decide) rfl ?_
  refine mG.sub (lv2 := [(0, .ref (t)), (1, .int (a1)), (2, .int 0)]) [1, 2, 0] rfl ?_
  exact gX6_drawDate_2 ht  F S (0 : Int32)  h
theorem dX8_isDate_0 : decode cX8_isDate 0 = .ok (.iload_n 0, 1) := by decide +kernel
theorem dX8_isDate_1 : decode cX8_isDate 1 = .ok (.iconst 0, 1) := by decide +kernel
theorem dX8_isDate_2 : decode cX8_isDate 2 = .ok (.bipush 19, 2) := by decide +kernel
theorem dX8_isDate_4 : decode cX8_isDate 4 = .ok (.invokestatic 84, 3) := by decide +kernel
theorem dX8_isDate_7 : decode cX8_isDate 7 = .ok (.ireturn, 1) := by decide +kernel
def f_X8_isDate (S0 : mS) (a1 : Int32) : Bool := f_X8_isWithin S0 a1 (0 : Int32) (19 : Int32)
set_option maxHeartbeats 4000000 in
set_option maxRecDepth 100000 in
theorem c_X8_isDate {S0 : mS} {a1 : Int32} {R : Bool}  (h : f_X8_isDate S0 a1 = R) : mCt μX8_isDate 2 0 0 E0 S0 [.int (a1)] (mQe S0 (some (.int (bI R)))) := by
  unfold f_X8_isDate at h
  refine mCt.of (by decide) (Nat.le_of_ble_eq_true rfl) ?_
  intro x
  refine mG.iload_n 0 dX8_isDate_0 rfl ?_
  refine mG.iconst (v := 0) dX8_isDate_1 rfl ?_
  refine mG.bipush (v := 19) dX8_isDate_2 (by decide) ?_
  refine mG.callS0 (as := [.int (a1), .int 0, .int 19]) (st := []) (S2 := S0) (r := some (.int (bI (f_X8_isWithin S0 a1 (0 : Int32) (19 : Int32))))) dX8_isDate_4 mbX8_isWithin wk6_19 wk6_18 rfl rfl (by decide) (Nat.le_of_ble_eq_true rfl) (c_X8_isWithin  rfl) ?_
  subst h
  exact mG.zret (b := f_X8_isWithin S0 a1 (0 : Int32) (19 : Int32)) dX8_isDate_7 rfl rfl ⟨rfl, rfl, rfl⟩
theorem dX6_canForget_0 : decode cX6_canForget 0 = .ok (.iload_n 1, 1) := by decide +kernel
theorem dX6_canForget_1 : decode cX6_canForget 1 = .ok (.invokestatic 102, 3) := by decide +kernel
theorem dX6_canForget_4 : decode cX6_canForget 4 = .ok (.ifCond .eq 24, 3) := by decide +kernel
theorem dX6_canForget_7 : decode cX6_canForget 7 = .ok (.aload_n 0, 1) := by decide +kernel
theorem dX6_canForget_8 : decode cX6_canForget 8 = .ok (.iload_n 2, 1) := by decide +kernel
theorem dX6_canForget_9 : decode cX6_canForget 9 = .ok (.invokevirtual 89, 3) := by decide +kernel
theorem dX6_canForget_12 : decode cX6_canForget 12 = .ok (.ifCond .eq 16, 3) := by decide +kernel
theorem dX6_canForget_15 : decode cX6_canForget 15 = .ok (.aload_n 0, 1) := by decide +kernel
theorem dX6_canForget_16 : decode cX6_canForget 16 = .ok (.iload_n 2, 1) := by decide +kernel
theorem dX6_canForget_17 : decode cX6_canForget 17 = .ok (.iload_n 1, 1) := by decide +kernel
theorem dX6_canForget_18 : decode cX6_canForget 18 = .ok (.invokevirtual 98, 3) := by decide +kernel
theorem dX6_canForget_21 : decode cX6_canForget 21 = .ok (.ifCond .eq 7, 3) := by decide +kernel
theorem dX6_canForget_24 : decode cX6_canForget 24 = .ok (.iconst 1, 1) := by decide +kernel
theorem dX6_canForget_25 : decode cX6_canForget 25 = .ok (.goto 4, 3) := by decide +kernel
theorem dX6_canForget_28 : decode cX6_canForget 28 = .ok (.iconst 0, 1) := by decide +kernel
theorem dX6_canForget_29 : decode cX6_canForget 29 = .ok (.ireturn, 1) := by decide +kernel
def f_X6_canForget (F : Nat) (S0 : mS) (t : Nat) (a1 : Int32) (a2 : Int32) : Option Bool := if (f_X8_isDate S0 a1) = true then (if (f_X6_lives S0 t a2) = true then (bd (f_X6_isShut F S0 t a2 a1) fun q1 => if q1 = true then (some true) else (some false)) else (some false)) else (some false)
set_option maxHeartbeats 4000000 in
set_option maxRecDepth 100000 in
theorem c_X6_canForget {F : Nat} {S0 : mS} {t : Nat} {a1 : Int32} {a2 : Int32} {R : Bool} (ht : kd0 t = 6) (h : f_X6_canForget F S0 t a1 a2 = some R) : mCt μX6_canForget 3 0 0 E0 S0 [.ref (t), .int (a1), .int (a2)] (mQe S0 (some (.int (bI R)))) := by
  unfold f_X6_canForget at h
  refine mCt.of (by decide) (Nat.le_of_ble_eq_true rfl) ?_
  intro x
  refine mG.iload_n 1 dX6_canForget_0 rfl ?_
  refine mG.callSN0 (as := [.int (a1)]) (st := []) (S2 := S0) (r := some (.int (bI (f_X8_isDate S0 a1)))) dX6_canForget_1 mbX8_isDate wk6_16 (List.mem_of_getElem? (i := 11) rfl) rfl rfl (by decide) (Nat.le_of_ble_eq_true rfl) (c_X8_isDate  rfl) ?_
  refine mG.ifz_eq (b := f_X8_isDate S0 a1) 28 dX6_canForget_4 (by decide) (fun c4 => ?_) (fun c4 => ?_)
  · replace h := itn c4 h
    refine mG.iconst (v := 0) dX6_canForget_28 rfl ?_
    obtain rfl := Option.some.inj h
    exact mG.zret (b := false) dX6_canForget_29 rfl rfl ⟨rfl, rfl, rfl⟩
  · replace h := itp c4 h
    refine mG.aload_n 0 dX6_canForget_7 rfl ?_
    refine mG.iload_n 2 dX6_canForget_8 rfl ?_
    refine mG.callV0 (as := [.int (a2)]) (st := []) (S2 := S0) (r := some (.int (bI (f_X6_lives S0 t a2)))) dX6_canForget_9 mvX6_lives wk36_12 rfl ht rfl (by decide) (Nat.le_of_ble_eq_true rfl) (c_X6_lives ht rfl) ?_
    refine mG.ifz_eq (b := f_X6_lives S0 t a2) 28 dX6_canForget_12 (by decide) (fun c3 => ?_) (fun c3 => ?_)
    · replace h := itn c3 h
      refine mG.iconst (v := 0) dX6_canForget_28 rfl ?_
      obtain rfl := Option.some.inj h
      exact mG.zret (b := false) dX6_canForget_29 rfl rfl ⟨rfl, rfl, rfl⟩
    · replace h := itp c3 h
      refine mG.aload_n 0 dX6_canForget_15 rfl ?_
      refine mG.iload_n 2 dX6_canForget_16 rfl ?_
      refine mG.iload_n 1 dX6_canForget_17 rfl ?_
      obtain ⟨q1, hq1, h⟩ := bdp h
      refine mG.callV0 (as := [.int (a2), .int (a1)]) (st := []) (S2 := S0) (r := some (.int (bI (q1)))) dX6_canForget_18 mvX6_isShut wk37_15 rfl ht rfl (by decide) (Nat.le_of_ble_eq_true rfl) (c_X6_isShut ht hq1) ?_
      refine mG.ifz_eq (b := q1) 28 dX6_canForget_21 (by decide) (fun c2 => ?_) (fun c2 => ?_)
      · replace h := itn c2 h
        refine mG.iconst (v := 0) dX6_canForget_28 rfl ?_
        obtain rfl := Option.some.inj h
        exact mG.zret (b := false) dX6_canForget_29 rfl rfl ⟨rfl, rfl, rfl⟩
      · replace h := itp c2 h
        refine mG.iconst (v := 1) dX6_canForget_24 rfl ?_
        refine mG.goto 29 dX6_canForget_25 (by decide) ?_
        obtain rfl := Option.some.inj h
        exact mG.zret (b := true) dX6_canForget_29 rfl rfl ⟨rfl, rfl, rfl⟩
theorem dX6_dropDate_0 : decode cX6_dropDate 0 = .ok (.aload_n 0, 1) := by decide +kernel
theorem dX6_dropDate_1 : decode cX6_dropDate 1 = .ok (.iload_n 1, 1) := by decide +kernel
theorem dX6_dropDate_2 : decode cX6_dropDate 2 = .ok (.iload_n 2, 1) := by decide +kernel
theorem dX6_dropDate_3 : decode cX6_dropDate 3 = .ok (.invokevirtual 105, 3) := by decide +kernel
theorem dX6_dropDate_6 : decode cX6_dropDate 6 = .ok (.ifCond .eq 17, 3) := by decide +kernel
theorem dX6_dropDate_9 : decode cX6_dropDate 9 = .ok (.aload_n 0, 1) := by decide +kernel
theorem dX6_dropDate_10 : decode cX6_dropDate 10 = .ok (.getfield 9, 3) := by decide +kernel
theorem dX6_dropDate_13 : decode cX6_dropDate 13 = .ok (.iload_n 2, 1) := by decide +kernel
theorem dX6_dropDate_14 : decode cX6_dropDate 14 = .ok (.dup2, 1) := by decide +kernel
theorem dX6_dropDate_15 : decode cX6_dropDate 15 = .ok (.iaload, 1) := by decide +kernel
theorem dX6_dropDate_16 : decode cX6_dropDate 16 = .ok (.iconst 1, 1) := by decide +kernel
theorem dX6_dropDate_17 : decode cX6_dropDate 17 = .ok (.iload_n 1, 1) := by decide +kernel
theorem dX6_dropDate_18 : decode cX6_dropDate 18 = .ok (.ishl, 1) := by decide +kernel
theorem dX6_dropDate_19 : decode cX6_dropDate 19 = .ok (.iconst (-1), 1) := by decide +kernel
theorem dX6_dropDate_20 : decode cX6_dropDate 20 = .ok (.ixor, 1) := by decide +kernel
theorem dX6_dropDate_21 : decode cX6_dropDate 21 = .ok (.iand, 1) := by decide +kernel
theorem dX6_dropDate_22 : decode cX6_dropDate 22 = .ok (.iastore, 1) := by decide +kernel
theorem dX6_dropDate_23 : decode cX6_dropDate 23 = .ok (.return_, 1) := by decide +kernel
def f_X6_dropDate (F : Nat) (S : mS) (t : Nat) (a1 : Int32) (a2 : Int32) : Option mS := bd (f_X6_canForget F S t a1 a2) fun q1 => if q1 = true then (ck (inb a2 7) (ck (inb a2 7) (stp (sI S (t + 1) a2.toNatClampNeg ((S.1 (t + 1) a2.toNatClampNeg) &&& (((1 : Int32) <<< (a1 &&& 31)) ^^^ (-1 : Int32)))) fun S4 => some S4))) else (some S)
set_option maxHeartbeats 4000000 in
set_option maxRecDepth 100000 in
theorem c_X6_dropDate {F : Nat} {S : mS} {t : Nat} {a1 : Int32} {a2 : Int32} {R : mS} (ht : kd0 t = 6) (h : f_X6_dropDate F S t a1 a2 = some R) : mCt μX6_dropDate 4 0 0 E0 S [.ref (t), .int (a1), .int (a2)] (mQe R none) := by
  unfold f_X6_dropDate at h
  refine mCt.of (by decide) (Nat.le_of_ble_eq_true rfl) ?_
  intro x
  refine mG.aload_n 0 dX6_dropDate_0 rfl ?_
  refine mG.iload_n 1 dX6_dropDate_1 rfl ?_
  refine mG.iload_n 2 dX6_dropDate_2 rfl ?_
  obtain ⟨q1, hq1, h⟩ := bdp h
  refine mG.callV0 (as := [.int (a1), .int (a2)]) (st := []) (S2 := S) (r := some (.int (bI (q1)))) dX6_dropDate_3 mvX6_canForget wk38_23 rfl ht rfl (by decide) (Nat.le_of_ble_eq_true rfl) (c_X6_canForget ht hq1) ?_
  refine mG.ifz_eq (b := q1) 23 dX6_dropDate_6 (by decide) (fun c5 => ?_) (fun c5 => ?_)
  · replace h := itn c5 h
    obtain rfl := Option.some.inj h
    exact mG.vret dX6_dropDate_23 rfl ⟨rfl, rfl, rfl⟩
  · replace h := itp c5 h
    refine mG.aload_n 0 dX6_dropDate_9 rfl ?_
    refine mG.get (v := .ref (t + 1)) dX6_dropDate_10 mfX6_9 ht (lr6_shut ht) ?_
    refine mG.iload_n 2 dX6_dropDate_13 rfl ?_
    refine mG.dup2 dX6_dropDate_14 rfl rfl ?_
    obtain ⟨b2, h⟩ := ckp h
    refine mG.iald dX6_dropDate_15 (lk6_shut ht) (ll6_shut ht) (inbp b2) ?_
    refine mG.iconst (v := 1) dX6_dropDate_16 rfl ?_
    refine mG.iload_n 1 dX6_dropDate_17 rfl ?_
    refine mG.ishl dX6_dropDate_18 ?_
    refine mG.iconst (v := (-1)) dX6_dropDate_19 rfl ?_
    refine mG.ixor dX6_dropDate_20 ?_
    refine mG.iand dX6_dropDate_21 ?_
    obtain ⟨b3, h⟩ := ckp h
    obtain ⟨S4, hS4, h⟩ := stpp h
    refine mG.iast dX6_dropDate_22 (lk6_shut ht) (ll6_shut ht) (inbp b3) hS4 ?_
    obtain rfl := Option.some.inj h
    exact mG.vret dX6_dropDate_23 rfl ⟨rfl, rfl, rfl⟩
theorem dX6_guestsOn_0 : decode cX6_guestsOn 0 = .ok (.aload_n 0, 1) := by decide +kernel
theorem dX6_guestsOn_1 : decode cX6_guestsOn 1 = .ok (.iload_n 1, 1) := by decide +kernel
theorem dX6_guestsOn_2 : decode cX6_guestsOn 2 = .ok (.invokevirtual 108, 3) := by decide +kernel
theorem dX6_guestsOn_5 : decode cX6_guestsOn 5 = .ok (.istore_n 2, 1) := by decide +kernel
theorem dX6_guestsOn_6 : decode cX6_guestsOn 6 = .ok (.iconst 0, 1) := by decide +kernel
theorem dX6_guestsOn_7 : decode cX6_guestsOn 7 = .ok (.istore_n 3, 1) := by decide +kernel
theorem dX6_guestsOn_8 : decode cX6_guestsOn 8 = .ok (.iconst 0, 1) := by decide +kernel
theorem dX6_guestsOn_9 : decode cX6_guestsOn 9 = .ok (.istore 4, 2) := by decide +kernel
theorem dX6_guestsOn_11 : decode cX6_guestsOn 11 = .ok (.iload 4, 2) := by decide +kernel
theorem dX6_guestsOn_13 : decode cX6_guestsOn 13 = .ok (.aload_n 0, 1) := by decide +kernel
theorem dX6_guestsOn_14 : decode cX6_guestsOn 14 = .ok (.getfield 32, 3) := by decide +kernel
theorem dX6_guestsOn_17 : decode cX6_guestsOn 17 = .ok (.if_icmp .ge 29, 3) := by decide +kernel
theorem dX6_guestsOn_20 : decode cX6_guestsOn 20 = .ok (.iload_n 2, 1) := by decide +kernel
theorem dX6_guestsOn_21 : decode cX6_guestsOn 21 = .ok (.iload 4, 2) := by decide +kernel
theorem dX6_guestsOn_23 : decode cX6_guestsOn 23 = .ok (.ishr, 1) := by decide +kernel
theorem dX6_guestsOn_24 : decode cX6_guestsOn 24 = .ok (.iconst 1, 1) := by decide +kernel
theorem dX6_guestsOn_25 : decode cX6_guestsOn 25 = .ok (.iand, 1) := by decide +kernel
theorem dX6_guestsOn_26 : decode cX6_guestsOn 26 = .ok (.iconst 1, 1) := by decide +kernel
theorem dX6_guestsOn_27 : decode cX6_guestsOn 27 = .ok (.if_icmp .ne 13, 3) := by decide +kernel
theorem dX6_guestsOn_30 : decode cX6_guestsOn 30 = .ok (.iload_n 3, 1) := by decide +kernel
theorem dX6_guestsOn_31 : decode cX6_guestsOn 31 = .ok (.aload_n 0, 1) := by decide +kernel
theorem dX6_guestsOn_32 : decode cX6_guestsOn 32 = .ok (.getfield 18, 3) := by decide +kernel
theorem dX6_guestsOn_35 : decode cX6_guestsOn 35 = .ok (.iload 4, 2) := by decide +kernel
theorem dX6_guestsOn_37 : decode cX6_guestsOn 37 = .ok (.iaload, 1) := by decide +kernel
theorem dX6_guestsOn_38 : decode cX6_guestsOn 38 = .ok (.iadd, 1) := by decide +kernel
theorem dX6_guestsOn_39 : decode cX6_guestsOn 39 = .ok (.istore_n 3, 1) := by decide +kernel
theorem dX6_guestsOn_40 : decode cX6_guestsOn 40 = .ok (.iinc 4 1, 3) := by decide +kernel
theorem dX6_guestsOn_43 : decode cX6_guestsOn 43 = .ok (.goto (-32), 3) := by decide +kernel
theorem dX6_guestsOn_46 : decode cX6_guestsOn 46 = .ok (.iload_n 3, 1) := by decide +kernel
theorem dX6_guestsOn_47 : decode cX6_guestsOn 47 = .ok (.ireturn, 1) := by decide +kernel
def lX6_guestsOn_11 (F : Nat)  (t : Nat) (a1 : Int32) : Nat → mS → Int32 → Int32 → Int32 → Option Int32
  | 0, _, _, _, _ => none
  | n + 1, S0, v2, v3, v4 => if (S0.1 t 5) ≤ v4 then (some v3) else (if ((v2 >>> (v4 &&& 31)) &&& (1 : Int32)) = (1 : Int32) then (ck (inb v4 7) (lX6_guestsOn_11 F  t a1 n S0 v2 (v3 + (S0.1 (t + 3) v4.toNatClampNeg)) (v4 + 1))) else (lX6_guestsOn_11 F  t a1 n S0 v2 v3 (v4 + 1)))
set_option maxHeartbeats 4000000 in
set_option maxRecDepth 100000 in
theorem gX6_guestsOn_11 {x : mX} {F : Nat} {t : Nat} {a1 : Int32} {S0 : mS}   {R : Int32} (ht : kd0 t = 6)  : ∀ (n : Nat) (v2 : Int32) (v3 : Int32) (v4 : Int32), lX6_guestsOn_11 F  t a1 n S0 v2 v3 v4 = some R → mG x μX6_guestsOn 4 0 0 (mQe S0 (some (.int R))) 0 0 E0 S0 11 [(0, .ref (t)), (2, .int (v2)), (3, .int (v3)), (4, .int (v4))] [] := by
  intro n
  induction n with
  | zero =>
    intro v2 v3 v4 h
    cases h
  | succ n ih =>
    intro v2 v3 v4 h
    unfold lX6_guestsOn_11 at h
    refine mG.iload 3 dX6_guestsOn_11 rfl ?_
    refine mG.aload_n 0 dX6_guestsOn_13 rfl ?_
    refine mG.get (v := .int (S0.1 t 5)) dX6_guestsOn_14 mfX6_32 ht rfl ?_
    refine mG.icmp_ge 46 dX6_guestsOn_17 (by decide) (fun c3 => ?_) (fun c3 => ?_)
    · replace h := itp c3 h
      refine mG.iload_n 2 dX6_guestsOn_46 rfl ?_
      obtain rfl := Option.some.inj h
      exact mG.iret dX6_guestsOn_47 rfl ⟨rfl, rfl, rfl⟩
    · replace h := itn c3 h
      refine mG.iload_n 1 dX6_guestsOn_20 rfl ?_
      refine mG.iload 3 dX6_guestsOn_21 rfl ?_
      refine mG.ishr dX6_guestsOn_23 ?_
      refine mG.iconst (v := 1) dX6_guestsOn_24 rfl ?_
      refine mG.iand dX6_guestsOn_25 ?_
      refine mG.iconst (v := 1) dX6_guestsOn_26 rfl ?_
      refine mG.icmp_ne 40 dX6_guestsOn_27 (by decide) (fun c2 => ?_) (fun c2 => ?_)
      · replace h := itn c2 h
        refine mG.iinc 3 (u := v4 + 1) (lv2 := [(4, .int (v4 + 1)), (0, .ref (t)), (2, .int (v2)), (3, .int (v3))]) dX6_guestsOn_40 rfl rfl (by decide) rfl ?_
        refine mG.goto 11 dX6_guestsOn_43 (by decide) ?_
        refine mG.sub (lv2 := [(0, .ref (t)), (2, .int (v2)), (3, .int (v3)), (4, .int (v4 + 1))]) [1, 2, 3, 0] rfl ?_
        exact ih  v2 v3 (v4 + 1)  h
      · replace h := itp c2 h
        refine mG.iload_n 2 dX6_guestsOn_30 rfl ?_
        refine mG.aload_n 0 dX6_guestsOn_31 rfl ?_
        refine mG.get (v := .ref (t + 3)) dX6_guestsOn_32 mfX6_18 ht (lr6_friends ht) ?_
        refine mG.iload 3 dX6_guestsOn_35 rfl ?_
        obtain ⟨b1, h⟩ := ckp h
        refine mG.iald dX6_guestsOn_37 (lk6_friends ht) (ll6_friends ht) (inbp b1) ?_
        refine mG.iadd dX6_guestsOn_38 ?_
        refine mG.istore_n (lv2 := [(3, .int (v3 + (S0.1 (t + 3) v4.toNatClampNeg))), (0, .ref (t)), (2, .int (v2)), (4, .int (v4))]) dX6_guestsOn_39 rfl (by decide) rfl ?_
        refine mG.iinc 3 (u := v4 + 1) (lv2 := [(4, .int (v4 + 1)), (3, .int (v3 + (S0.1 (t + 3) v4.toNatClampNeg))), (0, .ref (t)), (2, .int (v2))]) dX6_guestsOn_40 rfl rfl (by decide) rfl ?_
        refine mG.goto 11 dX6_guestsOn_43 (by decide) ?_
        refine mG.sub (lv2 := [(0, .ref (t)), (2, .int (v2)), (3, .int (v3 + (S0.1 (t + 3) v4.toNatClampNeg))), (4, .int (v4 + 1))]) [2, 3, 1, 0] rfl ?_
        exact ih  v2 (v3 + (S0.1 (t + 3) v4.toNatClampNeg)) (v4 + 1)  h
def f_X6_guestsOn (F : Nat) (S0 : mS) (t : Nat) (a1 : Int32) : Option Int32 := bd (f_X6_openOn F S0 t a1) fun q1 => lX6_guestsOn_11 F  t a1 F S0 q1 (0 : Int32) (0 : Int32)
set_option maxHeartbeats 4000000 in
set_option maxRecDepth 100000 in
theorem c_X6_guestsOn {F : Nat} {S0 : mS} {t : Nat} {a1 : Int32} {R : Int32} (ht : kd0 t = 6) (h : f_X6_guestsOn F S0 t a1 = some R) : mCt μX6_guestsOn 4 0 0 E0 S0 [.ref (t), .int (a1)] (mQe S0 (some (.int R))) := by
  unfold f_X6_guestsOn at h
  refine mCt.of (by decide) (Nat.le_of_ble_eq_true rfl) ?_
  intro x
  refine mG.aload_n 0 dX6_guestsOn_0 rfl ?_
  refine mG.iload_n 1 dX6_guestsOn_1 rfl ?_
  obtain ⟨q1, hq1, h⟩ := bdp h
  refine mG.callV0 (as := [.int (a1)]) (st := []) (S2 := S0) (r := some (.int (q1))) dX6_guestsOn_2 mvX6_openOn wk49_4 rfl ht rfl (by decide) (Nat.le_of_ble_eq_true rfl) (c_X6_openOn ht hq1) ?_
  refine mG.istore_n (lv2 := [(2, .int (q1)), (0, .ref (t)), (1, .int (a1))]) dX6_guestsOn_5 rfl (by decide) rfl ?_
  refine mG.iconst (v := 0) dX6_guestsOn_6 rfl ?_
  refine mG.istore_n (lv2 := [(3, .int 0), (2, .int (q1)), (0, .ref (t)), (1, .int (a1))]) dX6_guestsOn_7 rfl (by decide) rfl ?_
  refine mG.iconst (v := 0) dX6_guestsOn_8 rfl ?_
  refine mG.istore (lv2 := [(4, .int 0), (3, .int 0), (2, .int (q1)), (0, .ref (t)), (1, .int (a1))]) dX6_guestsOn_9 (by decide) rfl ?_
  refine mG.sub (lv2 := [(0, .ref (t)), (2, .int (q1)), (3, .int 0), (4, .int 0)]) [3, 2, 1, 0] rfl ?_
  exact gX6_guestsOn_11 ht  F  q1 (0 : Int32) (0 : Int32)  h
theorem dX6_datesBut_0 : decode cX6_datesBut 0 = .ok (.iconst 0, 1) := by decide +kernel
theorem dX6_datesBut_1 : decode cX6_datesBut 1 = .ok (.istore_n 2, 1) := by decide +kernel
theorem dX6_datesBut_2 : decode cX6_datesBut 2 = .ok (.iconst 0, 1) := by decide +kernel
theorem dX6_datesBut_3 : decode cX6_datesBut 3 = .ok (.istore_n 3, 1) := by decide +kernel
theorem dX6_datesBut_4 : decode cX6_datesBut 4 = .ok (.iload_n 3, 1) := by decide +kernel
theorem dX6_datesBut_5 : decode cX6_datesBut 5 = .ok (.aload_n 0, 1) := by decide +kernel
theorem dX6_datesBut_6 : decode cX6_datesBut 6 = .ok (.getfield 32, 3) := by decide +kernel
theorem dX6_datesBut_9 : decode cX6_datesBut 9 = .ok (.if_icmp .ge 31, 3) := by decide +kernel
theorem dX6_datesBut_12 : decode cX6_datesBut 12 = .ok (.iload_n 3, 1) := by decide +kernel
theorem dX6_datesBut_13 : decode cX6_datesBut 13 = .ok (.iload_n 1, 1) := by decide +kernel
theorem dX6_datesBut_14 : decode cX6_datesBut 14 = .ok (.if_icmp .eq 20, 3) := by decide +kernel
theorem dX6_datesBut_17 : decode cX6_datesBut 17 = .ok (.aload_n 0, 1) := by decide +kernel
theorem dX6_datesBut_18 : decode cX6_datesBut 18 = .ok (.iload_n 3, 1) := by decide +kernel
theorem dX6_datesBut_19 : decode cX6_datesBut 19 = .ok (.invokevirtual 89, 3) := by decide +kernel
theorem dX6_datesBut_22 : decode cX6_datesBut 22 = .ok (.ifCond .eq 12, 3) := by decide +kernel
theorem dX6_datesBut_25 : decode cX6_datesBut 25 = .ok (.iload_n 2, 1) := by decide +kernel
theorem dX6_datesBut_26 : decode cX6_datesBut 26 = .ok (.aload_n 0, 1) := by decide +kernel
theorem dX6_datesBut_27 : decode cX6_datesBut 27 = .ok (.getfield 9, 3) := by decide +kernel
theorem dX6_datesBut_30 : decode cX6_datesBut 30 = .ok (.iload_n 3, 1) := by decide +kernel
theorem dX6_datesBut_31 : decode cX6_datesBut 31 = .ok (.iaload, 1) := by decide +kernel
theorem dX6_datesBut_32 : decode cX6_datesBut 32 = .ok (.ior, 1) := by decide +kernel
theorem dX6_datesBut_33 : decode cX6_datesBut 33 = .ok (.istore_n 2, 1) := by decide +kernel
theorem dX6_datesBut_34 : decode cX6_datesBut 34 = .ok (.iinc 3 1, 3) := by decide +kernel
theorem dX6_datesBut_37 : decode cX6_datesBut 37 = .ok (.goto (-33), 3) := by decide +kernel
theorem dX6_datesBut_40 : decode cX6_datesBut 40 = .ok (.iload_n 2, 1) := by decide +kernel
theorem dX6_datesBut_41 : decode cX6_datesBut 41 = .ok (.ireturn, 1) := by decide +kernel
def lX6_datesBut_4 (F : Nat)  (t : Nat) (a1 : Int32) : Nat → mS → Int32 → Int32 → Option Int32
  | 0, _, _, _ => none
  | n + 1, S0, v2, v3 => if (S0.1 t 5) ≤ v3 then (some v2) else (if v3 = a1 then (lX6_datesBut_4 F  t a1 n S0 v2 (v3 + 1)) else (if (f_X6_lives S0 t v3) = true then (ck (inb v3 7) (lX6_datesBut_4 F  t a1 n S0 (v2 ||| (S0.1 (t + 1) v3.toNatClampNeg)) (v3 + 1))) else (lX6_datesBut_4 F  t a1 n S0 v2 (v3 + 1))))
set_option maxHeartbeats 4000000 in
set_option maxRecDepth 100000 in
theorem gX6_datesBut_4 {x : mX} {F : Nat} {t : Nat} {a1 : Int32} {S0 : mS}   {R : Int32} (ht : kd0 t = 6)  : ∀ (n : Nat) (v2 : Int32) (v3 : Int32), lX6_datesBut_4 F  t a1 n S0 v2 v3 = some R → mG x μX6_datesBut 3 0 0 (mQe S0 (some (.int R))) 0 0 E0 S0 4 [(0, .ref (t)), (1, .int (a1)), (2, .int (v2)), (3, .int (v3))] [] := by
  intro n
  induction n with
  | zero =>
    intro v2 v3 h
    cases h
  | succ n ih =>
    intro v2 v3 h
    unfold lX6_datesBut_4 at h
    refine mG.iload_n 3 dX6_datesBut_4 rfl ?_
    refine mG.aload_n 0 dX6_datesBut_5 rfl ?_
    refine mG.get (v := .int (S0.1 t 5)) dX6_datesBut_6 mfX6_32 ht rfl ?_
    refine mG.icmp_ge 40 dX6_datesBut_9 (by decide) (fun c4 => ?_) (fun c4 => ?_)
    · replace h := itp c4 h
      refine mG.iload_n 2 dX6_datesBut_40 rfl ?_
      obtain rfl := Option.some.inj h
      exact mG.iret dX6_datesBut_41 rfl ⟨rfl, rfl, rfl⟩
    · replace h := itn c4 h
      refine mG.iload_n 3 dX6_datesBut_12 rfl ?_
      refine mG.iload_n 1 dX6_datesBut_13 rfl ?_
      refine mG.icmp_eq 34 dX6_datesBut_14 (by decide) (fun c3 => ?_) (fun c3 => ?_)
      · replace h := itp c3 h
        refine mG.iinc 3 (u := v3 + 1) (lv2 := [(3, .int (v3 + 1)), (0, .ref (t)), (1, .int (a1)), (2, .int (v2))]) dX6_datesBut_34 rfl rfl (by decide) rfl ?_
        refine mG.goto 4 dX6_datesBut_37 (by decide) ?_
        refine mG.sub (lv2 := [(0, .ref (t)), (1, .int (a1)), (2, .int (v2)), (3, .int (v3 + 1))]) [1, 2, 3, 0] rfl ?_
        exact ih  v2 (v3 + 1)  h
      · replace h := itn c3 h
        refine mG.aload_n 0 dX6_datesBut_17 rfl ?_
        refine mG.iload_n 3 dX6_datesBut_18 rfl ?_
        refine mG.callV0 (as := [.int (v3)]) (st := []) (S2 := S0) (r := some (.int (bI (f_X6_lives S0 t v3)))) dX6_datesBut_19 mvX6_lives wk36_12 rfl ht rfl (by decide) (Nat.le_of_ble_eq_true rfl) (c_X6_lives ht rfl) ?_
        refine mG.ifz_eq (b := f_X6_lives S0 t v3) 34 dX6_datesBut_22 (by decide) (fun c2 => ?_) (fun c2 => ?_)
        · replace h := itn c2 h
          refine mG.iinc 3 (u := v3 + 1) (lv2 := [(3, .int (v3 + 1)), (0, .ref (t)), (1, .int (a1)), (2, .int (v2))]) dX6_datesBut_34 rfl rfl (by decide) rfl ?_
          refine mG.goto 4 dX6_datesBut_37 (by decide) ?_
          refine mG.sub (lv2 := [(0, .ref (t)), (1, .int (a1)), (2, .int (v2)), (3, .int (v3 + 1))]) [1, 2, 3, 0] rfl ?_
          exact ih  v2 (v3 + 1)  h
        · replace h := itp c2 h
          refine mG.iload_n 2 dX6_datesBut_25 rfl ?_
          refine mG.aload_n 0 dX6_datesBut_26 rfl ?_
          refine mG.get (v := .ref (t + 1)) dX6_datesBut_27 mfX6_9 ht (lr6_shut ht) ?_
          refine mG.iload_n 3 dX6_datesBut_30 rfl ?_
          obtain ⟨b1, h⟩ := ckp h
          refine mG.iald dX6_datesBut_31 (lk6_shut ht) (ll6_shut ht) (inbp b1) ?_
          refine mG.ior dX6_datesBut_32 ?_
          refine mG.istore_n (lv2 := [(2, .int (v2 ||| (S0.1 (t + 1) v3.toNatClampNeg))), (0, .ref (t)), (1, .int (a1)), (3, .int (v3))]) dX6_datesBut_33 rfl (by decide) rfl ?_
          refine mG.iinc 3 (u := v3 + 1) (lv2 := [(3, .int (v3 + 1)), (2, .int (v2 ||| (S0.1 (t + 1) v3.toNatClampNeg))), (0, .ref (t)), (1, .int (a1))]) dX6_datesBut_34 rfl rfl (by decide) rfl ?_
          refine mG.goto 4 dX6_datesBut_37 (by decide) ?_
          refine mG.sub (lv2 := [(0, .ref (t)), (1, .int (a1)), (2, .int (v2 ||| (S0.1 (t + 1) v3.toNatClampNeg))), (3, .int (v3 + 1))]) [2, 3, 1, 0] rfl ?_
          exact ih  (v2 ||| (S0.1 (t + 1) v3.toNatClampNeg)) (v3 + 1)  h
def f_X6_datesBut (F : Nat) (S0 : mS) (t : Nat) (a1 : Int32) : Option Int32 := lX6_datesBut_4 F  t a1 F S0 (0 : Int32) (0 : Int32)
set_option maxHeartbeats 4000000 in
set_option maxRecDepth 100000 in
theorem c_X6_datesBut {F : Nat} {S0 : mS} {t : Nat} {a1 : Int32} {R : Int32} (ht : kd0 t = 6) (h : f_X6_datesBut F S0 t a1 = some R) : mCt μX6_datesBut 3 0 0 E0 S0 [.ref (t), .int (a1)] (mQe S0 (some (.int R))) := by
  unfold f_X6_datesBut at h
  refine mCt.of (by decide) (Nat.le_of_ble_eq_true rfl) ?_
  intro x
  refine mG.iconst (v := 0) dX6_datesBut_0 rfl ?_
  refine mG.istore_n (lv2 := [(2, .int 0), (0, .ref (t)), (1, .int (a1))]) dX6_datesBut_1 rfl (by decide) rfl ?_
  refine mG.iconst (v := 0) dX6_datesBut_2 rfl ?_
  refine mG.istore_n (lv2 := [(3, .int 0), (2, .int 0), (0, .ref (t)), (1, .int (a1))]) dX6_datesBut_3 rfl (by decide) rfl ?_
  refine mG.sub (lv2 := [(0, .ref (t)), (1, .int (a1)), (2, .int 0), (3, .int 0)]) [2, 3, 1, 0] rfl ?_
  exact gX6_datesBut_4 ht  F  (0 : Int32) (0 : Int32)  h
theorem dX6_allOpenOnce_0 : decode cX6_allOpenOnce 0 = .ok (.iconst 0, 1) := by decide +kernel
theorem dX6_allOpenOnce_1 : decode cX6_allOpenOnce 1 = .ok (.istore_n 2, 1) := by decide +kernel
theorem dX6_allOpenOnce_2 : decode cX6_allOpenOnce 2 = .ok (.iload_n 2, 1) := by decide +kernel
theorem dX6_allOpenOnce_3 : decode cX6_allOpenOnce 3 = .ok (.aload_n 0, 1) := by decide +kernel
theorem dX6_allOpenOnce_4 : decode cX6_allOpenOnce 4 = .ok (.getfield 32, 3) := by decide +kernel
theorem dX6_allOpenOnce_7 : decode cX6_allOpenOnce 7 = .ok (.if_icmp .ge 32, 3) := by decide +kernel
theorem dX6_allOpenOnce_10 : decode cX6_allOpenOnce 10 = .ok (.aload_n 0, 1) := by decide +kernel
theorem dX6_allOpenOnce_11 : decode cX6_allOpenOnce 11 = .ok (.iload_n 2, 1) := by decide +kernel
theorem dX6_allOpenOnce_12 : decode cX6_allOpenOnce 12 = .ok (.invokevirtual 89, 3) := by decide +kernel
theorem dX6_allOpenOnce_15 : decode cX6_allOpenOnce 15 = .ok (.ifCond .eq 18, 3) := by decide +kernel
theorem dX6_allOpenOnce_18 : decode cX6_allOpenOnce 18 = .ok (.iload_n 1, 1) := by decide +kernel
theorem dX6_allOpenOnce_19 : decode cX6_allOpenOnce 19 = .ok (.aload_n 0, 1) := by decide +kernel
theorem dX6_allOpenOnce_20 : decode cX6_allOpenOnce 20 = .ok (.getfield 9, 3) := by decide +kernel
theorem dX6_allOpenOnce_23 : decode cX6_allOpenOnce 23 = .ok (.iload_n 2, 1) := by decide +kernel
theorem dX6_allOpenOnce_24 : decode cX6_allOpenOnce 24 = .ok (.iaload, 1) := by decide +kernel
theorem dX6_allOpenOnce_25 : decode cX6_allOpenOnce 25 = .ok (.iconst (-1), 1) := by decide +kernel
theorem dX6_allOpenOnce_26 : decode cX6_allOpenOnce 26 = .ok (.ixor, 1) := by decide +kernel
theorem dX6_allOpenOnce_27 : decode cX6_allOpenOnce 27 = .ok (.iand, 1) := by decide +kernel
theorem dX6_allOpenOnce_28 : decode cX6_allOpenOnce 28 = .ok (.ifCond .ne 5, 3) := by decide +kernel
theorem dX6_allOpenOnce_31 : decode cX6_allOpenOnce 31 = .ok (.iconst 0, 1) := by decide +kernel
theorem dX6_allOpenOnce_32 : decode cX6_allOpenOnce 32 = .ok (.ireturn, 1) := by decide +kernel
theorem dX6_allOpenOnce_33 : decode cX6_allOpenOnce 33 = .ok (.iinc 2 1, 3) := by decide +kernel
theorem dX6_allOpenOnce_36 : decode cX6_allOpenOnce 36 = .ok (.goto (-34), 3) := by decide +kernel
theorem dX6_allOpenOnce_39 : decode cX6_allOpenOnce 39 = .ok (.iconst 1, 1) := by decide +kernel
theorem dX6_allOpenOnce_40 : decode cX6_allOpenOnce 40 = .ok (.ireturn, 1) := by decide +kernel
def lX6_allOpenOnce_2 (F : Nat)  (t : Nat) (a1 : Int32) : Nat → mS → Int32 → Option Bool
  | 0, _, _ => none
  | n + 1, S0, v2 => if (S0.1 t 5) ≤ v2 then (some true) else (if (f_X6_lives S0 t v2) = true then (ck (inb v2 7) (if (a1 &&& ((S0.1 (t + 1) v2.toNatClampNeg) ^^^ (-1 : Int32))) = 0 then (some false) else (lX6_allOpenOnce_2 F  t a1 n S0 (v2 + 1)))) else (lX6_allOpenOnce_2 F  t a1 n S0 (v2 + 1)))
set_option maxHeartbeats 4000000 in
set_option maxRecDepth 100000 in
theorem gX6_allOpenOnce_2 {x : mX} {F : Nat} {t : Nat} {a1 : Int32} {S0 : mS}   {R : Bool} (ht : kd0 t = 6)  : ∀ (n : Nat) (v2 : Int32), lX6_allOpenOnce_2 F  t a1 n S0 v2 = some R → mG x μX6_allOpenOnce 3 0 0 (mQe S0 (some (.int (bI R)))) 0 0 E0 S0 2 [(0, .ref (t)), (1, .int (a1)), (2, .int (v2))] [] := by
  intro n
  induction n with
  | zero =>
    intro v2 h
    cases h
  | succ n ih =>
    intro v2 h
    unfold lX6_allOpenOnce_2 at h
    refine mG.iload_n 2 dX6_allOpenOnce_2 rfl ?_
    refine mG.aload_n 0 dX6_allOpenOnce_3 rfl ?_
    refine mG.get (v := .int (S0.1 t 5)) dX6_allOpenOnce_4 mfX6_32 ht rfl ?_
    refine mG.icmp_ge 39 dX6_allOpenOnce_7 (by decide) (fun c4 => ?_) (fun c4 => ?_)
    · replace h := itp c4 h
      refine mG.iconst (v := 1) dX6_allOpenOnce_39 rfl ?_
      obtain rfl := Option.some.inj h
      exact mG.zret (b := true) dX6_allOpenOnce_40 rfl rfl ⟨rfl, rfl, rfl⟩
    · replace h := itn c4 h
      refine mG.aload_n 0 dX6_allOpenOnce_10 rfl ?_
      refine mG.iload_n 2 dX6_allOpenOnce_11 rfl ?_
      refine mG.callV0 (as := [.int (v2)]) (st := []) (S2 := S0) (r := some (.int (bI (f_X6_lives S0 t v2)))) dX6_allOpenOnce_12 mvX6_lives wk36_12 rfl ht rfl (by decide) (Nat.le_of_ble_eq_true rfl) (c_X6_lives ht rfl) ?_
      refine mG.ifz_eq (b := f_X6_lives S0 t v2) 33 dX6_allOpenOnce_15 (by decide) (fun c3 => ?_) (fun c3 => ?_)
      · replace h := itn c3 h
        refine mG.iinc 2 (u := v2 + 1) (lv2 := [(2, .int (v2 + 1)), (0, .ref (t)), (1, .int (a1))]) dX6_allOpenOnce_33 rfl rfl (by decide) rfl ?_
        refine mG.goto 2 dX6_allOpenOnce_36 (by decide) ?_
        refine mG.sub (lv2 := [(0, .ref (t)), (1, .int (a1)), (2, .int (v2 + 1))]) [1, 2, 0] rfl ?_
        exact ih  (v2 + 1)  h
      · replace h := itp c3 h
        refine mG.iload_n 1 dX6_allOpenOnce_18 rfl ?_
        refine mG.aload_n 0 dX6_allOpenOnce_19 rfl ?_
        refine mG.get (v := .ref (t + 1)) dX6_allOpenOnce_20 mfX6_9 ht (lr6_shut ht) ?_
        refine mG.iload_n 2 dX6_allOpenOnce_23 rfl ?_
        obtain ⟨b1, h⟩ := ckp h
        refine mG.iald dX6_allOpenOnce_24 (lk6_shut ht) (ll6_shut ht) (inbp b1) ?_
        refine mG.iconst (v := (-1)) dX6_allOpenOnce_25 rfl ?_
        refine mG.ixor dX6_allOpenOnce_26 ?_
        refine mG.iand dX6_allOpenOnce_27 ?_
        refine mG.if_ne 33 dX6_allOpenOnce_28 (by decide) (fun c2 => ?_) (fun c2 => ?_)
        · replace h := itn c2 h
          refine mG.iinc 2 (u := v2 + 1) (lv2 := [(2, .int (v2 + 1)), (0, .ref (t)), (1, .int (a1))]) dX6_allOpenOnce_33 rfl rfl (by decide) rfl ?_
          refine mG.goto 2 dX6_allOpenOnce_36 (by decide) ?_
          refine mG.sub (lv2 := [(0, .ref (t)), (1, .int (a1)), (2, .int (v2 + 1))]) [1, 2, 0] rfl ?_
          exact ih  (v2 + 1)  h
        · replace h := itp c2 h
          refine mG.iconst (v := 0) dX6_allOpenOnce_31 rfl ?_
          obtain rfl := Option.some.inj h
          exact mG.zret (b := false) dX6_allOpenOnce_32 rfl rfl ⟨rfl, rfl, rfl⟩
def f_X6_allOpenOnce (F : Nat) (S0 : mS) (t : Nat) (a1 : Int32) : Option Bool := lX6_allOpenOnce_2 F  t a1 F S0 (0 : Int32)
set_option maxHeartbeats 4000000 in
set_option maxRecDepth 100000 in
theorem c_X6_allOpenOnce {F : Nat} {S0 : mS} {t : Nat} {a1 : Int32} {R : Bool} (ht : kd0 t = 6) (h : f_X6_allOpenOnce F S0 t a1 = some R) : mCt μX6_allOpenOnce 3 0 0 E0 S0 [.ref (t), .int (a1)] (mQe S0 (some (.int (bI R)))) := by
  unfold f_X6_allOpenOnce at h
  refine mCt.of (by decide) (Nat.le_of_ble_eq_true rfl) ?_
  intro x
  refine mG.iconst (v := 0) dX6_allOpenOnce_0 rfl ?_
  refine mG.istore_n (lv2 := [(2, .int 0), (0, .ref (t)), (1, .int (a1))]) dX6_allOpenOnce_1 rfl (by decide) rfl ?_
  refine mG.sub (lv2 := [(0, .ref (t)), (1, .int (a1)), (2, .int 0)]) [1, 2, 0] rfl ?_
  exact gX6_allOpenOnce_2 ht  F  (0 : Int32)  h
theorem dX6_loot_0 : decode cX6_loot 0 = .ok (.aload_n 0, 1) := by decide +kernel
theorem dX6_loot_1 : decode cX6_loot 1 = .ok (.iload_n 1, 1) := by decide +kernel
theorem dX6_loot_2 : decode cX6_loot 2 = .ok (.invokevirtual 56, 3) := by decide +kernel
theorem dX6_loot_5 : decode cX6_loot 5 = .ok (.ifCond .ne 5, 3) := by decide +kernel
theorem dX6_loot_8 : decode cX6_loot 8 = .ok (.iconst 0, 1) := by decide +kernel
theorem dX6_loot_9 : decode cX6_loot 9 = .ok (.ireturn, 1) := by decide +kernel
theorem dX6_loot_10 : decode cX6_loot 10 = .ok (.iconst 0, 1) := by decide +kernel
theorem dX6_loot_11 : decode cX6_loot 11 = .ok (.istore 4, 2) := by decide +kernel
theorem dX6_loot_13 : decode cX6_loot 13 = .ok (.iconst 0, 1) := by decide +kernel
theorem dX6_loot_14 : decode cX6_loot 14 = .ok (.istore 5, 2) := by decide +kernel
theorem dX6_loot_16 : decode cX6_loot 16 = .ok (.iload_n 1, 1) := by decide +kernel
theorem dX6_loot_17 : decode cX6_loot 17 = .ok (.istore 6, 2) := by decide +kernel
theorem dX6_loot_19 : decode cX6_loot 19 = .ok (.iload 6, 2) := by decide +kernel
theorem dX6_loot_21 : decode cX6_loot 21 = .ok (.aload_n 0, 1) := by decide +kernel
theorem dX6_loot_22 : decode cX6_loot 22 = .ok (.getfield 32, 3) := by decide +kernel
theorem dX6_loot_25 : decode cX6_loot 25 = .ok (.if_icmp .ge 55, 3) := by decide +kernel
theorem dX6_loot_28 : decode cX6_loot 28 = .ok (.iload 5, 2) := by decide +kernel
theorem dX6_loot_30 : decode cX6_loot 30 = .ok (.iload_n 3, 1) := by decide +kernel
theorem dX6_loot_31 : decode cX6_loot 31 = .ok (.if_icmp .ge 49, 3) := by decide +kernel
theorem dX6_loot_34 : decode cX6_loot 34 = .ok (.aload_n 0, 1) := by decide +kernel
theorem dX6_loot_35 : decode cX6_loot 35 = .ok (.iload 6, 2) := by decide +kernel
theorem dX6_loot_37 : decode cX6_loot 37 = .ok (.invokevirtual 60, 3) := by decide +kernel
theorem dX6_loot_40 : decode cX6_loot 40 = .ok (.ifCond .eq 6, 3) := by decide +kernel
theorem dX6_loot_43 : decode cX6_loot 43 = .ok (.goto 31, 3) := by decide +kernel
theorem dX6_loot_46 : decode cX6_loot 46 = .ok (.aload_n 0, 1) := by decide +kernel
theorem dX6_loot_47 : decode cX6_loot 47 = .ok (.iload 6, 2) := by decide +kernel
theorem dX6_loot_49 : decode cX6_loot 49 = .ok (.iload_n 2, 1) := by decide +kernel
theorem dX6_loot_50 : decode cX6_loot 50 = .ok (.invokevirtual 98, 3) := by decide +kernel
theorem dX6_loot_53 : decode cX6_loot 53 = .ok (.ifCond .ne 6, 3) := by decide +kernel
theorem dX6_loot_56 : decode cX6_loot 56 = .ok (.iload 4, 2) := by decide +kernel
theorem dX6_loot_58 : decode cX6_loot 58 = .ok (.ireturn, 1) := by decide +kernel
theorem dX6_loot_59 : decode cX6_loot 59 = .ok (.iload 4, 2) := by decide +kernel
theorem dX6_loot_61 : decode cX6_loot 61 = .ok (.aload_n 0, 1) := by decide +kernel
theorem dX6_loot_62 : decode cX6_loot 62 = .ok (.getfield 15, 3) := by decide +kernel
theorem dX6_loot_65 : decode cX6_loot 65 = .ok (.iload 6, 2) := by decide +kernel
theorem dX6_loot_67 : decode cX6_loot 67 = .ok (.iaload, 1) := by decide +kernel
theorem dX6_loot_68 : decode cX6_loot 68 = .ok (.iadd, 1) := by decide +kernel
theorem dX6_loot_69 : decode cX6_loot 69 = .ok (.istore 4, 2) := by decide +kernel
theorem dX6_loot_71 : decode cX6_loot 71 = .ok (.iinc 5 1, 3) := by decide +kernel
theorem dX6_loot_74 : decode cX6_loot 74 = .ok (.iinc 6 1, 3) := by decide +kernel
theorem dX6_loot_77 : decode cX6_loot 77 = .ok (.goto (-58), 3) := by decide +kernel
theorem dX6_loot_80 : decode cX6_loot 80 = .ok (.iload 4, 2) := by decide +kernel
theorem dX6_loot_82 : decode cX6_loot 82 = .ok (.ireturn, 1) := by decide +kernel
def lX6_loot_19 (F : Nat)  (t : Nat) (a1 : Int32) (a2 : Int32) (a3 : Int32) : Nat → mS → Int32 → Int32 → Int32 → Option Int32
  | 0, _, _, _, _ => none
  | n + 1, S0, v4, v5, v6 => if (S0.1 t 5) ≤ v6 then (some v4) else (if a3 ≤ v5 then (some v4) else (if (f_X6_isGone S0 t v6) = true then (lX6_loot_19 F  t a1 a2 a3 n S0 v4 v5 (v6 + 1)) else (bd (f_X6_isShut F S0 t v6 a2) fun q1 => if q1 = true then (ck (inb v6 7) (lX6_loot_19 F  t a1 a2 a3 n S0 (v4 + (S0.1 (t + 2) v6.toNatClampNeg)) (v5 + 1) (v6 + 1))) else (some v4))))
set_option maxHeartbeats 4000000 in
set_option maxRecDepth 100000 in
theorem gX6_loot_19 {x : mX} {F : Nat} {t : Nat} {a1 : Int32} {a2 : Int32} {a3 : Int32} {S0 : mS}   {R : Int32} (ht : kd0 t = 6)  : ∀ (n : Nat) (v4 : Int32) (v5 : Int32) (v6 : Int32), lX6_loot_19 F  t a1 a2 a3 n S0 v4 v5 v6 = some R → mG x μX6_loot 3 0 0 (mQe S0 (some (.int R))) 0 0 E0 S0 19 [(0, .ref (t)), (2, .int (a2)), (3, .int (a3)), (4, .int (v4)), (5, .int (v5)), (6, .int (v6))] [] := by
  intro n
  induction n with
  | zero =>
    intro v4 v5 v6 h
    cases h
  | succ n ih =>
    intro v4 v5 v6 h
    unfold lX6_loot_19 at h
    refine mG.iload 5 dX6_loot_19 rfl ?_
    refine mG.aload_n 0 dX6_loot_21 rfl ?_
    refine mG.get (v := .int (S0.1 t 5)) dX6_loot_22 mfX6_32 ht rfl ?_
    refine mG.icmp_ge 80 dX6_loot_25 (by decide) (fun c6 => ?_) (fun c6 => ?_)
    · replace h := itp c6 h
      refine mG.iload 3 dX6_loot_80 rfl ?_
      obtain rfl := Option.some.inj h
      exact mG.iret dX6_loot_82 rfl ⟨rfl, rfl, rfl⟩
    · replace h := itn c6 h
      refine mG.iload 4 dX6_loot_28 rfl ?_
      refine mG.iload_n 2 dX6_loot_30 rfl ?_
      refine mG.icmp_ge 80 dX6_loot_31 (by decide) (fun c5 => ?_) (fun c5 => ?_)
      · replace h := itp c5 h
        refine mG.iload 3 dX6_loot_80 rfl ?_
        obtain rfl := Option.some.inj h
        exact mG.iret dX6_loot_82 rfl ⟨rfl, rfl, rfl⟩
      · replace h := itn c5 h
        refine mG.aload_n 0 dX6_loot_34 rfl ?_
        refine mG.iload 5 dX6_loot_35 rfl ?_
        refine mG.callV0 (as := [.int (v6)]) (st := []) (S2 := S0) (r := some (.int (bI (f_X6_isGone S0 t v6)))) dX6_loot_37 mvX6_isGone wk27_15 rfl ht rfl (by decide) (Nat.le_of_ble_eq_true rfl) (c_X6_isGone ht rfl) ?_
        refine mG.ifz_eq (b := f_X6_isGone S0 t v6) 46 dX6_loot_40 (by decide) (fun c4 => ?_) (fun c4 => ?_)
        · replace h := itn c4 h
          refine mG.aload_n 0 dX6_loot_46 rfl ?_
          refine mG.iload 5 dX6_loot_47 rfl ?_
          refine mG.iload_n 1 dX6_loot_49 rfl ?_
          obtain ⟨q1, hq1, h⟩ := bdp h
          refine mG.callV0 (as := [.int (v6), .int (a2)]) (st := []) (S2 := S0) (r := some (.int (bI (q1)))) dX6_loot_50 mvX6_isShut wk37_15 rfl ht rfl (by decide) (Nat.le_of_ble_eq_true rfl) (c_X6_isShut ht hq1) ?_
          refine mG.ifz_ne (b := q1) 59 dX6_loot_53 (by decide) (fun c3 => ?_) (fun c3 => ?_)
          · replace h := itp c3 h
            refine mG.iload 3 dX6_loot_59 rfl ?_
            refine mG.aload_n 0 dX6_loot_61 rfl ?_
            refine mG.get (v := .ref (t + 2)) dX6_loot_62 mfX6_15 ht (lr6_purse ht) ?_
            refine mG.iload 5 dX6_loot_65 rfl ?_
            obtain ⟨b2, h⟩ := ckp h
            refine mG.iald dX6_loot_67 (lk6_purse ht) (ll6_purse ht) (inbp b2) ?_
            refine mG.iadd dX6_loot_68 ?_
            refine mG.istore (lv2 := [(4, .int (v4 + (S0.1 (t + 2) v6.toNatClampNeg))), (0, .ref (t)), (2, .int (a2)), (3, .int (a3)), (5, .int (v5)), (6, .int (v6))]) dX6_loot_69 (by decide) rfl ?_
            refine mG.iinc 4 (u := v5 + 1) (lv2 := [(5, .int (v5 + 1)), (4, .int (v4 + (S0.1 (t + 2) v6.toNatClampNeg))), (0, .ref (t)), (2, .int (a2)), (3, .int (a3)), (6, .int (v6))]) dX6_loot_71 rfl rfl (by decide) rfl ?_
            refine mG.iinc 5 (u := v6 + 1) (lv2 := [(6, .int (v6 + 1)), (5, .int (v5 + 1)), (4, .int (v4 + (S0.1 (t + 2) v6.toNatClampNeg))), (0, .ref (t)), (2, .int (a2)), (3, .int (a3))]) dX6_loot_74 rfl rfl (by decide) rfl ?_
            refine mG.goto 19 dX6_loot_77 (by decide) ?_
            refine mG.sub (lv2 := [(0, .ref (t)), (2, .int (a2)), (3, .int (a3)), (4, .int (v4 + (S0.1 (t + 2) v6.toNatClampNeg))), (5, .int (v5 + 1)), (6, .int (v6 + 1))]) [3, 4, 5, 2, 1, 0] rfl ?_
            exact ih  (v4 + (S0.1 (t + 2) v6.toNatClampNeg)) (v5 + 1) (v6 + 1)  h
          · replace h := itn c3 h
            refine mG.iload 3 dX6_loot_56 rfl ?_
            obtain rfl := Option.some.inj h
            exact mG.iret dX6_loot_58 rfl ⟨rfl, rfl, rfl⟩
        · replace h := itp c4 h
          refine mG.goto 74 dX6_loot_43 (by decide) ?_
          refine mG.iinc 5 (u := v6 + 1) (lv2 := [(6, .int (v6 + 1)), (0, .ref (t)), (2, .int (a2)), (3, .int (a3)), (4, .int (v4)), (5, .int (v5))]) dX6_loot_74 rfl rfl (by decide) rfl ?_
          refine mG.goto 19 dX6_loot_77 (by decide) ?_
          refine mG.sub (lv2 := [(0, .ref (t)), (2, .int (a2)), (3, .int (a3)), (4, .int (v4)), (5, .int (v5)), (6, .int (v6 + 1))]) [1, 2, 3, 4, 5, 0] rfl ?_
          exact ih  v4 v5 (v6 + 1)  h
def f_X6_loot (F : Nat) (S0 : mS) (t : Nat) (a1 : Int32) (a2 : Int32) (a3 : Int32) : Option Int32 := if (f_X6_told S0 t a1) = true then (lX6_loot_19 F  t a1 a2 a3 F S0 (0 : Int32) (0 : Int32) a1) else (some (0 : Int32))
set_option maxHeartbeats 4000000 in
set_option maxRecDepth 100000 in
theorem c_X6_loot {F : Nat} {S0 : mS} {t : Nat} {a1 : Int32} {a2 : Int32} {a3 : Int32} {R : Int32} (ht : kd0 t = 6) (h : f_X6_loot F S0 t a1 a2 a3 = some R) : mCt μX6_loot 3 0 0 E0 S0 [.ref (t), .int (a1), .int (a2), .int (a3)] (mQe S0 (some (.int R))) := by
  unfold f_X6_loot at h
  refine mCt.of (by decide) (Nat.le_of_ble_eq_true rfl) ?_
  intro x
  refine mG.aload_n 0 dX6_loot_0 rfl ?_
  refine mG.iload_n 1 dX6_loot_1 rfl ?_
  refine mG.callV0 (as := [.int (a1)]) (st := []) (S2 := S0) (r := some (.int (bI (f_X6_told S0 t a1)))) dX6_loot_2 mvX6_told wk27_11 rfl ht rfl (by decide) (Nat.le_of_ble_eq_true rfl) (c_X6_told ht rfl) ?_
  refine mG.ifz_ne (b := f_X6_told S0 t a1) 10 dX6_loot_5 (by decide) (fun c1 => ?_) (fun c1 => ?_)
  · replace h := itp c1 h
    refine mG.iconst (v := 0) dX6_loot_10 rfl ?_
    refine mG.istore (lv2 := [(4, .int 0), (0, .ref (t)), (1, .int (a1)), (2, .int (a2)), (3, .int (a3))]) dX6_loot_11 (by decide) rfl ?_
    refine mG.iconst (v := 0) dX6_loot_13 rfl ?_
    refine mG.istore (lv2 := [(5, .int 0), (4, .int 0), (0, .ref (t)), (1, .int (a1)), (2, .int (a2)), (3, .int (a3))]) dX6_loot_14 (by decide) rfl ?_
    refine mG.iload_n 3 dX6_loot_16 rfl ?_
    refine mG.istore (lv2 := [(6, .int (a1)), (5, .int 0), (4, .int 0), (0, .ref (t)), (1, .int (a1)), (2, .int (a2)), (3, .int (a3))]) dX6_loot_17 (by decide) rfl ?_
    refine mG.sub (lv2 := [(0, .ref (t)), (2, .int (a2)), (3, .int (a3)), (4, .int 0), (5, .int 0), (6, .int (a1))]) [3, 5, 6, 2, 1, 0] rfl ?_
    exact gX6_loot_19 ht  F  (0 : Int32) (0 : Int32) a1  h
  · replace h := itn c1 h
    refine mG.iconst (v := 0) dX6_loot_8 rfl ?_
    obtain rfl := Option.some.inj h
    exact mG.iret dX6_loot_9 rfl ⟨rfl, rfl, rfl⟩
theorem dX6_robbedFirst_0 : decode cX6_robbedFirst 0 = .ok (.iconst (-1), 1) := by decide +kernel
theorem dX6_robbedFirst_1 : decode cX6_robbedFirst 1 = .ok (.istore_n 3, 1) := by decide +kernel
theorem dX6_robbedFirst_2 : decode cX6_robbedFirst 2 = .ok (.iconst 0, 1) := by decide +kernel
theorem dX6_robbedFirst_3 : decode cX6_robbedFirst 3 = .ok (.istore 4, 2) := by decide +kernel
theorem dX6_robbedFirst_5 : decode cX6_robbedFirst 5 = .ok (.iload 4, 2) := by decide +kernel
theorem dX6_robbedFirst_7 : decode cX6_robbedFirst 7 = .ok (.aload_n 0, 1) := by decide +kernel
theorem dX6_robbedFirst_8 : decode cX6_robbedFirst 8 = .ok (.getfield 32, 3) := by decide +kernel
theorem dX6_robbedFirst_11 : decode cX6_robbedFirst 11 = .ok (.if_icmp .ge 54, 3) := by decide +kernel
theorem dX6_robbedFirst_14 : decode cX6_robbedFirst 14 = .ok (.aload_n 0, 1) := by decide +kernel
theorem dX6_robbedFirst_15 : decode cX6_robbedFirst 15 = .ok (.iload 4, 2) := by decide +kernel
theorem dX6_robbedFirst_17 : decode cX6_robbedFirst 17 = .ok (.invokevirtual 89, 3) := by decide +kernel
theorem dX6_robbedFirst_20 : decode cX6_robbedFirst 20 = .ok (.ifCond .eq 39, 3) := by decide +kernel
theorem dX6_robbedFirst_23 : decode cX6_robbedFirst 23 = .ok (.aload_n 0, 1) := by decide +kernel
theorem dX6_robbedFirst_24 : decode cX6_robbedFirst 24 = .ok (.iload 4, 2) := by decide +kernel
theorem dX6_robbedFirst_26 : decode cX6_robbedFirst 26 = .ok (.iload_n 1, 1) := by decide +kernel
theorem dX6_robbedFirst_27 : decode cX6_robbedFirst 27 = .ok (.invokevirtual 98, 3) := by decide +kernel
theorem dX6_robbedFirst_30 : decode cX6_robbedFirst 30 = .ok (.ifCond .eq 29, 3) := by decide +kernel
theorem dX6_robbedFirst_33 : decode cX6_robbedFirst 33 = .ok (.iload_n 3, 1) := by decide +kernel
theorem dX6_robbedFirst_34 : decode cX6_robbedFirst 34 = .ok (.iconst (-1), 1) := by decide +kernel
theorem dX6_robbedFirst_35 : decode cX6_robbedFirst 35 = .ok (.if_icmp .eq 21, 3) := by decide +kernel
theorem dX6_robbedFirst_38 : decode cX6_robbedFirst 38 = .ok (.aload_n 0, 1) := by decide +kernel
theorem dX6_robbedFirst_39 : decode cX6_robbedFirst 39 = .ok (.iload 4, 2) := by decide +kernel
theorem dX6_robbedFirst_41 : decode cX6_robbedFirst 41 = .ok (.iload_n 1, 1) := by decide +kernel
theorem dX6_robbedFirst_42 : decode cX6_robbedFirst 42 = .ok (.iload_n 2, 1) := by decide +kernel
theorem dX6_robbedFirst_43 : decode cX6_robbedFirst 43 = .ok (.invokevirtual 111, 3) := by decide +kernel
theorem dX6_robbedFirst_46 : decode cX6_robbedFirst 46 = .ok (.aload_n 0, 1) := by decide +kernel
theorem dX6_robbedFirst_47 : decode cX6_robbedFirst 47 = .ok (.iload_n 3, 1) := by decide +kernel
theorem dX6_robbedFirst_48 : decode cX6_robbedFirst 48 = .ok (.iload_n 1, 1) := by decide +kernel
theorem dX6_robbedFirst_49 : decode cX6_robbedFirst 49 = .ok (.iload_n 2, 1) := by decide +kernel
theorem dX6_robbedFirst_50 : decode cX6_robbedFirst 50 = .ok (.invokevirtual 111, 3) := by decide +kernel
theorem dX6_robbedFirst_53 : decode cX6_robbedFirst 53 = .ok (.if_icmp .le 6, 3) := by decide +kernel
theorem dX6_robbedFirst_56 : decode cX6_robbedFirst 56 = .ok (.iload 4, 2) := by decide +kernel
theorem dX6_robbedFirst_58 : decode cX6_robbedFirst 58 = .ok (.istore_n 3, 1) := by decide +kernel
theorem dX6_robbedFirst_59 : decode cX6_robbedFirst 59 = .ok (.iinc 4 1, 3) := by decide +kernel
theorem dX6_robbedFirst_62 : decode cX6_robbedFirst 62 = .ok (.goto (-57), 3) := by decide +kernel
theorem dX6_robbedFirst_65 : decode cX6_robbedFirst 65 = .ok (.iload_n 3, 1) := by decide +kernel
theorem dX6_robbedFirst_66 : decode cX6_robbedFirst 66 = .ok (.ireturn, 1) := by decide +kernel
def lX6_robbedFirst_5 (F : Nat)  (t : Nat) (a1 : Int32) (a2 : Int32) : Nat → mS → Int32 → Int32 → Option Int32
  | 0, _, _, _ => none
  | n + 1, S0, v3, v4 => if (S0.1 t 5) ≤ v4 then (some v3) else (if (f_X6_lives S0 t v4) = true then (bd (f_X6_isShut F S0 t v4 a1) fun q1 => if q1 = true then (if v3 = (-1 : Int32) then (lX6_robbedFirst_5 F  t a1 a2 n S0 v4 (v4 + 1)) else (bd (f_X6_loot F S0 t v4 a1 a2) fun q2 => bd (f_X6_loot F S0 t v3 a1 a2) fun q3 => if q2 ≤ q3 then (lX6_robbedFirst_5 F  t a1 a2 n S0 v3 (v4 + 1)) else (lX6_robbedFirst_5 F  t a1 a2 n S0 v4 (v4 + 1)))) else (lX6_robbedFirst_5 F  t a1 a2 n S0 v3 (v4 + 1))) else (lX6_robbedFirst_5 F  t a1 a2 n S0 v3 (v4 + 1)))
set_option maxHeartbeats 4000000 in
set_option maxRecDepth 100000 in
theorem gX6_robbedFirst_5 {x : mX} {F : Nat} {t : Nat} {a1 : Int32} {a2 : Int32} {S0 : mS}   {R : Int32} (ht : kd0 t = 6)  : ∀ (n : Nat) (v3 : Int32) (v4 : Int32), lX6_robbedFirst_5 F  t a1 a2 n S0 v3 v4 = some R → mG x μX6_robbedFirst 4 0 0 (mQe S0 (some (.int R))) 0 0 E0 S0 5 [(0, .ref (t)), (1, .int (a1)), (2, .int (a2)), (3, .int (v3)), (4, .int (v4))] [] := by
  intro n
  induction n with
  | zero =>
    intro v3 v4 h
    cases h
  | succ n ih =>
    intro v3 v4 h
    unfold lX6_robbedFirst_5 at h
    refine mG.iload 4 dX6_robbedFirst_5 rfl ?_
    refine mG.aload_n 0 dX6_robbedFirst_7 rfl ?_
    refine mG.get (v := .int (S0.1 t 5)) dX6_robbedFirst_8 mfX6_32 ht rfl ?_
    refine mG.icmp_ge 65 dX6_robbedFirst_11 (by decide) (fun c8 => ?_) (fun c8 => ?_)
    · replace h := itp c8 h
      refine mG.iload_n 3 dX6_robbedFirst_65 rfl ?_
      obtain rfl := Option.some.inj h
      exact mG.iret dX6_robbedFirst_66 rfl ⟨rfl, rfl, rfl⟩
    · replace h := itn c8 h
      refine mG.aload_n 0 dX6_robbedFirst_14 rfl ?_
      refine mG.iload 4 dX6_robbedFirst_15 rfl ?_
      refine mG.callV0 (as := [.int (v4)]) (st := []) (S2 := S0) (r := some (.int (bI (f_X6_lives S0 t v4)))) dX6_robbedFirst_17 mvX6_lives wk36_12 rfl ht rfl (by decide) (Nat.le_of_ble_eq_true rfl) (c_X6_lives ht rfl) ?_
      refine mG.ifz_eq (b := f_X6_lives S0 t v4) 59 dX6_robbedFirst_20 (by decide) (fun c7 => ?_) (fun c7 => ?_)
      · replace h := itn c7 h
        refine mG.iinc 4 (u := v4 + 1) (lv2 := [(4, .int (v4 + 1)), (0, .ref (t)), (1, .int (a1)), (2, .int (a2)), (3, .int (v3))]) dX6_robbedFirst_59 rfl rfl (by decide) rfl ?_
        refine mG.goto 5 dX6_robbedFirst_62 (by decide) ?_
        refine mG.sub (lv2 := [(0, .ref (t)), (1, .int (a1)), (2, .int (a2)), (3, .int (v3)), (4, .int (v4 + 1))]) [1, 2, 3, 4, 0] rfl ?_
        exact ih  v3 (v4 + 1)  h
      · replace h := itp c7 h
        refine mG.aload_n 0 dX6_robbedFirst_23 rfl ?_
        refine mG.iload 4 dX6_robbedFirst_24 rfl ?_
        refine mG.iload_n 1 dX6_robbedFirst_26 rfl ?_
        obtain ⟨q1, hq1, h⟩ := bdp h
        refine mG.callV0 (as := [.int (v4), .int (a1)]) (st := []) (S2 := S0) (r := some (.int (bI (q1)))) dX6_robbedFirst_27 mvX6_isShut wk37_15 rfl ht rfl (by decide) (Nat.le_of_ble_eq_true rfl) (c_X6_isShut ht hq1) ?_
        refine mG.ifz_eq (b := q1) 59 dX6_robbedFirst_30 (by decide) (fun c6 => ?_) (fun c6 => ?_)
        · replace h := itn c6 h
          refine mG.iinc 4 (u := v4 + 1) (lv2 := [(4, .int (v4 + 1)), (0, .ref (t)), (1, .int (a1)), (2, .int (a2)), (3, .int (v3))]) dX6_robbedFirst_59 rfl rfl (by decide) rfl ?_
          refine mG.goto 5 dX6_robbedFirst_62 (by decide) ?_
          refine mG.sub (lv2 := [(0, .ref (t)), (1, .int (a1)), (2, .int (a2)), (3, .int (v3)), (4, .int (v4 + 1))]) [1, 2, 3, 4, 0] rfl ?_
          exact ih  v3 (v4 + 1)  h
        · replace h := itp c6 h
          refine mG.iload_n 3 dX6_robbedFirst_33 rfl ?_
          refine mG.iconst (v := (-1)) dX6_robbedFirst_34 rfl ?_
          refine mG.icmp_eq 56 dX6_robbedFirst_35 (by decide) (fun c5 => ?_) (fun c5 => ?_)
          · replace h := itp c5 h
            refine mG.iload 4 dX6_robbedFirst_56 rfl ?_
            refine mG.istore_n (lv2 := [(3, .int (v4)), (0, .ref (t)), (1, .int (a1)), (2, .int (a2)), (4, .int (v4))]) dX6_robbedFirst_58 rfl (by decide) rfl ?_
            refine mG.iinc 4 (u := v4 + 1) (lv2 := [(4, .int (v4 + 1)), (3, .int (v4)), (0, .ref (t)), (1, .int (a1)), (2, .int (a2))]) dX6_robbedFirst_59 rfl rfl (by decide) rfl ?_
            refine mG.goto 5 dX6_robbedFirst_62 (by decide) ?_
            refine mG.sub (lv2 := [(0, .ref (t)), (1, .int (a1)), (2, .int (a2)), (3, .int (v4)), (4, .int (v4 + 1))]) [2, 3, 4, 1, 0] rfl ?_
            exact ih  v4 (v4 + 1)  h
          · replace h := itn c5 h
            refine mG.aload_n 0 dX6_robbedFirst_38 rfl ?_
            refine mG.iload 4 dX6_robbedFirst_39 rfl ?_
            refine mG.iload_n 1 dX6_robbedFirst_41 rfl ?_
            refine mG.iload_n 2 dX6_robbedFirst_42 rfl ?_
            obtain ⟨q2, hq2, h⟩ := bdp h
            refine mG.callV0 (as := [.int (v4), .int (a1), .int (a2)]) (st := []) (S2 := S0) (r := some (.int (q2))) dX6_robbedFirst_43 mvX6_loot wk55_11 rfl ht rfl (by decide) (Nat.le_of_ble_eq_true rfl) (c_X6_loot ht hq2) ?_
            refine mG.aload_n 0 dX6_robbedFirst_46 rfl ?_
            refine mG.iload_n 3 dX6_robbedFirst_47 rfl ?_
            refine mG.iload_n 1 dX6_robbedFirst_48 rfl ?_
            refine mG.iload_n 2 dX6_robbedFirst_49 rfl ?_
            obtain ⟨q3, hq3, h⟩ := bdp h
            refine mG.callV0 (as := [.int (v3), .int (a1), .int (a2)]) (st := [.int (q2)]) (S2 := S0) (r := some (.int (q3))) dX6_robbedFirst_50 mvX6_loot wk55_11 rfl ht rfl (by decide) (Nat.le_of_ble_eq_true rfl) (c_X6_loot ht hq3) ?_
            refine mG.icmp_le 59 dX6_robbedFirst_53 (by decide) (fun c4 => ?_) (fun c4 => ?_)
            · replace h := itp c4 h
              refine mG.iinc 4 (u := v4 + 1) (lv2 := [(4, .int (v4 + 1)), (0, .ref (t)), (1, .int (a1)), (2, .int (a2)), (3, .int (v3))]) dX6_robbedFirst_59 rfl rfl (by decide) rfl ?_
              refine mG.goto 5 dX6_robbedFirst_62 (by decide) ?_
              refine mG.sub (lv2 := [(0, .ref (t)), (1, .int (a1)), (2, .int (a2)), (3, .int (v3)), (4, .int (v4 + 1))]) [1, 2, 3, 4, 0] rfl ?_
              exact ih  v3 (v4 + 1)  h
            · replace h := itn c4 h
              refine mG.iload 4 dX6_robbedFirst_56 rfl ?_
              refine mG.istore_n (lv2 := [(3, .int (v4)), (0, .ref (t)), (1, .int (a1)), (2, .int (a2)), (4, .int (v4))]) dX6_robbedFirst_58 rfl (by decide) rfl ?_
              refine mG.iinc 4 (u := v4 + 1) (lv2 := [(4, .int (v4 + 1)), (3, .int (v4)), (0, .ref (t)), (1, .int (a1)), (2, .int (a2))]) dX6_robbedFirst_59 rfl rfl (by decide) rfl ?_
              refine mG.goto 5 dX6_robbedFirst_62 (by decide) ?_
              refine mG.sub (lv2 := [(0, .ref (t)), (1, .int (a1)), (2, .int (a2)), (3, .int (v4)), (4, .int (v4 + 1))]) [2, 3, 4, 1, 0] rfl ?_
              exact ih  v4 (v4 + 1)  h
def f_X6_robbedFirst (F : Nat) (S0 : mS) (t : Nat) (a1 : Int32) (a2 : Int32) : Option Int32 := lX6_robbedFirst_5 F  t a1 a2 F S0 (-1 : Int32) (0 : Int32)
set_option maxHeartbeats 4000000 in
set_option maxRecDepth 100000 in
theorem c_X6_robbedFirst {F : Nat} {S0 : mS} {t : Nat} {a1 : Int32} {a2 : Int32} {R : Int32} (ht : kd0 t = 6) (h : f_X6_robbedFirst F S0 t a1 a2 = some R) : mCt μX6_robbedFirst 4 0 0 E0 S0 [.ref (t), .int (a1), .int (a2)] (mQe S0 (some (.int R))) := by
  unfold f_X6_robbedFirst at h
  refine mCt.of (by decide) (Nat.le_of_ble_eq_true rfl) ?_
  intro x
  refine mG.iconst (v := (-1)) dX6_robbedFirst_0 rfl ?_
  refine mG.istore_n (lv2 := [(3, .int (-1)), (0, .ref (t)), (1, .int (a1)), (2, .int (a2))]) dX6_robbedFirst_1 rfl (by decide) rfl ?_
  refine mG.iconst (v := 0) dX6_robbedFirst_2 rfl ?_
  refine mG.istore (lv2 := [(4, .int 0), (3, .int (-1)), (0, .ref (t)), (1, .int (a1)), (2, .int (a2))]) dX6_robbedFirst_3 (by decide) rfl ?_
  refine mG.sub (lv2 := [(0, .ref (t)), (1, .int (a1)), (2, .int (a2)), (3, .int (-1)), (4, .int 0)]) [2, 3, 4, 1, 0] rfl ?_
  exact gX6_robbedFirst_5 ht  F  (-1 : Int32) (0 : Int32)  h
theorem dX6_wealth_0 : decode cX6_wealth 0 = .ok (.iconst 0, 1) := by decide +kernel
theorem dX6_wealth_1 : decode cX6_wealth 1 = .ok (.istore_n 1, 1) := by decide +kernel
theorem dX6_wealth_2 : decode cX6_wealth 2 = .ok (.iconst 0, 1) := by decide +kernel
theorem dX6_wealth_3 : decode cX6_wealth 3 = .ok (.istore_n 2, 1) := by decide +kernel
theorem dX6_wealth_4 : decode cX6_wealth 4 = .ok (.iload_n 2, 1) := by decide +kernel
theorem dX6_wealth_5 : decode cX6_wealth 5 = .ok (.aload_n 0, 1) := by decide +kernel
theorem dX6_wealth_6 : decode cX6_wealth 6 = .ok (.getfield 32, 3) := by decide +kernel
theorem dX6_wealth_9 : decode cX6_wealth 9 = .ok (.if_icmp .ge 18, 3) := by decide +kernel
theorem dX6_wealth_12 : decode cX6_wealth 12 = .ok (.iload_n 1, 1) := by decide +kernel
theorem dX6_wealth_13 : decode cX6_wealth 13 = .ok (.aload_n 0, 1) := by decide +kernel
theorem dX6_wealth_14 : decode cX6_wealth 14 = .ok (.getfield 15, 3) := by decide +kernel
theorem dX6_wealth_17 : decode cX6_wealth 17 = .ok (.iload_n 2, 1) := by decide +kernel
theorem dX6_wealth_18 : decode cX6_wealth 18 = .ok (.iaload, 1) := by decide +kernel
theorem dX6_wealth_19 : decode cX6_wealth 19 = .ok (.iadd, 1) := by decide +kernel
theorem dX6_wealth_20 : decode cX6_wealth 20 = .ok (.istore_n 1, 1) := by decide +kernel
theorem dX6_wealth_21 : decode cX6_wealth 21 = .ok (.iinc 2 1, 3) := by decide +kernel
theorem dX6_wealth_24 : decode cX6_wealth 24 = .ok (.goto (-20), 3) := by decide +kernel
theorem dX6_wealth_27 : decode cX6_wealth 27 = .ok (.iload_n 1, 1) := by decide +kernel
theorem dX6_wealth_28 : decode cX6_wealth 28 = .ok (.ireturn, 1) := by decide +kernel
def lX6_wealth_4 (F : Nat)  (t : Nat) : Nat → mS → Int32 → Int32 → Option Int32
  | 0, _, _, _ => none
  | n + 1, S0, v1, v2 => if (S0.1 t 5) ≤ v2 then (some v1) else (ck (inb v2 7) (lX6_wealth_4 F  t n S0 (v1 + (S0.1 (t + 2) v2.toNatClampNeg)) (v2 + 1)))
set_option maxHeartbeats 4000000 in
set_option maxRecDepth 100000 in
theorem gX6_wealth_4 {x : mX} {F : Nat} {t : Nat} {S0 : mS}   {R : Int32} (ht : kd0 t = 6)  : ∀ (n : Nat) (v1 : Int32) (v2 : Int32), lX6_wealth_4 F  t n S0 v1 v2 = some R → mG x μX6_wealth 1 0 0 (mQe S0 (some (.int R))) 0 0 E0 S0 4 [(0, .ref (t)), (1, .int (v1)), (2, .int (v2))] [] := by
  intro n
  induction n with
  | zero =>
    intro v1 v2 h
    cases h
  | succ n ih =>
    intro v1 v2 h
    unfold lX6_wealth_4 at h
    refine mG.iload_n 2 dX6_wealth_4 rfl ?_
    refine mG.aload_n 0 dX6_wealth_5 rfl ?_
    refine mG.get (v := .int (S0.1 t 5)) dX6_wealth_6 mfX6_32 ht rfl ?_
    refine mG.icmp_ge 27 dX6_wealth_9 (by decide) (fun c2 => ?_) (fun c2 => ?_)
    · replace h := itp c2 h
      refine mG.iload_n 1 dX6_wealth_27 rfl ?_
      obtain rfl := Option.some.inj h
      exact mG.iret dX6_wealth_28 rfl ⟨rfl, rfl, rfl⟩
    · replace h := itn c2 h
      refine mG.iload_n 1 dX6_wealth_12 rfl ?_
      refine mG.aload_n 0 dX6_wealth_13 rfl ?_
      refine mG.get (v := .ref (t + 2)) dX6_wealth_14 mfX6_15 ht (lr6_purse ht) ?_
      refine mG.iload_n 2 dX6_wealth_17 rfl ?_
      obtain ⟨b1, h⟩ := ckp h
      refine mG.iald dX6_wealth_18 (lk6_purse ht) (ll6_purse ht) (inbp b1) ?_
      refine mG.iadd dX6_wealth_19 ?_
      refine mG.istore_n (lv2 := [(1, .int (v1 + (S0.1 (t + 2) v2.toNatClampNeg))), (0, .ref (t)), (2, .int (v2))]) dX6_wealth_20 rfl (by decide) rfl ?_
      refine mG.iinc 2 (u := v2 + 1) (lv2 := [(2, .int (v2 + 1)), (1, .int (v1 + (S0.1 (t + 2) v2.toNatClampNeg))), (0, .ref (t))]) dX6_wealth_21 rfl rfl (by decide) rfl ?_
      refine mG.goto 4 dX6_wealth_24 (by decide) ?_
      refine mG.sub (lv2 := [(0, .ref (t)), (1, .int (v1 + (S0.1 (t + 2) v2.toNatClampNeg))), (2, .int (v2 + 1))]) [2, 1, 0] rfl ?_
      exact ih  (v1 + (S0.1 (t + 2) v2.toNatClampNeg)) (v2 + 1)  h
def f_X6_wealth (F : Nat) (S0 : mS) (t : Nat) : Option Int32 := lX6_wealth_4 F  t F S0 (0 : Int32) (0 : Int32)
set_option maxHeartbeats 4000000 in
set_option maxRecDepth 100000 in
theorem c_X6_wealth {F : Nat} {S0 : mS} {t : Nat} {R : Int32} (ht : kd0 t = 6) (h : f_X6_wealth F S0 t = some R) : mCt μX6_wealth 1 0 0 E0 S0 [.ref (t)] (mQe S0 (some (.int R))) := by
  unfold f_X6_wealth at h
  refine mCt.of (by decide) (Nat.le_of_ble_eq_true rfl) ?_
  intro x
  refine mG.iconst (v := 0) dX6_wealth_0 rfl ?_
  refine mG.istore_n (lv2 := [(1, .int 0), (0, .ref (t))]) dX6_wealth_1 rfl (by decide) rfl ?_
  refine mG.iconst (v := 0) dX6_wealth_2 rfl ?_
  refine mG.istore_n (lv2 := [(2, .int 0), (1, .int 0), (0, .ref (t))]) dX6_wealth_3 rfl (by decide) rfl ?_
  refine mG.sub (lv2 := [(0, .ref (t)), (1, .int 0), (2, .int 0)]) [2, 1, 0] rfl ?_
  exact gX6_wealth_4 ht  F  (0 : Int32) (0 : Int32)  h
theorem dX8_isDateOrNone_0 : decode cX8_isDateOrNone 0 = .ok (.iload_n 0, 1) := by decide +kernel
theorem dX8_isDateOrNone_1 : decode cX8_isDateOrNone 1 = .ok (.iconst (-1), 1) := by decide +kernel
theorem dX8_isDateOrNone_2 : decode cX8_isDateOrNone 2 = .ok (.if_icmp .eq 10, 3) := by decide +kernel
theorem dX8_isDateOrNone_5 : decode cX8_isDateOrNone 5 = .ok (.iload_n 0, 1) := by decide +kernel
theorem dX8_isDateOrNone_6 : decode cX8_isDateOrNone 6 = .ok (.invokestatic 257, 3) := by decide +kernel
theorem dX8_isDateOrNone_9 : decode cX8_isDateOrNone 9 = .ok (.ifCond .eq 7, 3) := by decide +kernel
theorem dX8_isDateOrNone_12 : decode cX8_isDateOrNone 12 = .ok (.iconst 1, 1) := by decide +kernel
theorem dX8_isDateOrNone_13 : decode cX8_isDateOrNone 13 = .ok (.goto 4, 3) := by decide +kernel
theorem dX8_isDateOrNone_16 : decode cX8_isDateOrNone 16 = .ok (.iconst 0, 1) := by decide +kernel
theorem dX8_isDateOrNone_17 : decode cX8_isDateOrNone 17 = .ok (.ireturn, 1) := by decide +kernel
def f_X8_isDateOrNone (S0 : mS) (a1 : Int32) : Bool := if a1 = (-1 : Int32) then (true) else (if (f_X8_isDate S0 a1) = true then (true) else (false))
set_option maxHeartbeats 4000000 in
set_option maxRecDepth 100000 in
theorem c_X8_isDateOrNone {S0 : mS} {a1 : Int32} {R : Bool}  (h : f_X8_isDateOrNone S0 a1 = R) : mCt μX8_isDateOrNone 3 0 0 E0 S0 [.int (a1)] (mQe S0 (some (.int (bI R)))) := by
  unfold f_X8_isDateOrNone at h
  refine mCt.of (by decide) (Nat.le_of_ble_eq_true rfl) ?_
  intro x
  refine mG.iload_n 0 dX8_isDateOrNone_0 rfl ?_
  refine mG.iconst (v := (-1)) dX8_isDateOrNone_1 rfl ?_
  refine mG.icmp_eq 12 dX8_isDateOrNone_2 (by decide) (fun c2 => ?_) (fun c2 => ?_)
  · replace h := itp c2 h
    refine mG.iconst (v := 1) dX8_isDateOrNone_12 rfl ?_
    refine mG.goto 17 dX8_isDateOrNone_13 (by decide) ?_
    subst h
    exact mG.zret (b := true) dX8_isDateOrNone_17 rfl rfl ⟨rfl, rfl, rfl⟩
  · replace h := itn c2 h
    refine mG.iload_n 0 dX8_isDateOrNone_5 rfl ?_
    refine mG.callS0 (as := [.int (a1)]) (st := []) (S2 := S0) (r := some (.int (bI (f_X8_isDate S0 a1)))) dX8_isDateOrNone_6 mbX8_isDate wk6_16 wk6_15 rfl rfl (by decide) (Nat.le_of_ble_eq_true rfl) (c_X8_isDate  rfl) ?_
    refine mG.ifz_eq (b := f_X8_isDate S0 a1) 16 dX8_isDateOrNone_9 (by decide) (fun c1 => ?_) (fun c1 => ?_)
    · replace h := itn c1 h
      refine mG.iconst (v := 0) dX8_isDateOrNone_16 rfl ?_
      subst h
      exact mG.zret (b := false) dX8_isDateOrNone_17 rfl rfl ⟨rfl, rfl, rfl⟩
    · replace h := itp c1 h
      refine mG.iconst (v := 1) dX8_isDateOrNone_12 rfl ?_
      refine mG.goto 17 dX8_isDateOrNone_13 (by decide) ?_
      subst h
      exact mG.zret (b := true) dX8_isDateOrNone_17 rfl rfl ⟨rfl, rfl, rfl⟩
theorem dX8_isSameDate_0 : decode cX8_isSameDate 0 = .ok (.iload_n 0, 1) := by decide +kernel
theorem dX8_isSameDate_1 : decode cX8_isSameDate 1 = .ok (.iconst (-1), 1) := by decide +kernel
theorem dX8_isSameDate_2 : decode cX8_isSameDate 2 = .ok (.if_icmp .eq 12, 3) := by decide +kernel
theorem dX8_isSameDate_5 : decode cX8_isSameDate 5 = .ok (.iload_n 0, 1) := by decide +kernel
theorem dX8_isSameDate_6 : decode cX8_isSameDate 6 = .ok (.iload_n 1, 1) := by decide +kernel
theorem dX8_isSameDate_7 : decode cX8_isSameDate 7 = .ok (.if_icmp .ne 7, 3) := by decide +kernel
theorem dX8_isSameDate_10 : decode cX8_isSameDate 10 = .ok (.iconst 1, 1) := by decide +kernel
theorem dX8_isSameDate_11 : decode cX8_isSameDate 11 = .ok (.goto 4, 3) := by decide +kernel
theorem dX8_isSameDate_14 : decode cX8_isSameDate 14 = .ok (.iconst 0, 1) := by decide +kernel
theorem dX8_isSameDate_15 : decode cX8_isSameDate 15 = .ok (.ireturn, 1) := by decide +kernel
def f_X8_isSameDate (S0 : mS) (a1 : Int32) (a2 : Int32) : Bool := if a1 = (-1 : Int32) then (false) else (if a1 = a2 then (true) else (false))
set_option maxHeartbeats 4000000 in
set_option maxRecDepth 100000 in
theorem c_X8_isSameDate {S0 : mS} {a1 : Int32} {a2 : Int32} {R : Bool}  (h : f_X8_isSameDate S0 a1 a2 = R) : mCt μX8_isSameDate 1 0 0 E0 S0 [.int (a1), .int (a2)] (mQe S0 (some (.int (bI R)))) := by
  unfold f_X8_isSameDate at h
  refine mCt.of (by decide) (Nat.le_of_ble_eq_true rfl) ?_
  intro x
  refine mG.iload_n 0 dX8_isSameDate_0 rfl ?_
  refine mG.iconst (v := (-1)) dX8_isSameDate_1 rfl ?_
  refine mG.icmp_eq 14 dX8_isSameDate_2 (by decide) (fun c2 => ?_) (fun c2 => ?_)
  · replace h := itp c2 h
    refine mG.iconst (v := 0) dX8_isSameDate_14 rfl ?_
    subst h
    exact mG.zret (b := false) dX8_isSameDate_15 rfl rfl ⟨rfl, rfl, rfl⟩
  · replace h := itn c2 h
    refine mG.iload_n 0 dX8_isSameDate_5 rfl ?_
    refine mG.iload_n 1 dX8_isSameDate_6 rfl ?_
    refine mG.icmp_ne 14 dX8_isSameDate_7 (by decide) (fun c1 => ?_) (fun c1 => ?_)
    · replace h := itn c1 h
      refine mG.iconst (v := 0) dX8_isSameDate_14 rfl ?_
      subst h
      exact mG.zret (b := false) dX8_isSameDate_15 rfl rfl ⟨rfl, rfl, rfl⟩
    · replace h := itp c1 h
      refine mG.iconst (v := 1) dX8_isSameDate_10 rfl ?_
      refine mG.goto 15 dX8_isSameDate_11 (by decide) ?_
      subst h
      exact mG.zret (b := true) dX8_isSameDate_15 rfl rfl ⟨rfl, rfl, rfl⟩
theorem dX8_bitOf_0 : decode cX8_bitOf 0 = .ok (.iload_n 0, 1) := by decide +kernel
theorem dX8_bitOf_1 : decode cX8_bitOf 1 = .ok (.iconst (-1), 1) := by decide +kernel
theorem dX8_bitOf_2 : decode cX8_bitOf 2 = .ok (.if_icmp .ne 7, 3) := by decide +kernel
theorem dX8_bitOf_5 : decode cX8_bitOf 5 = .ok (.iconst 0, 1) := by decide +kernel
theorem dX8_bitOf_6 : decode cX8_bitOf 6 = .ok (.goto 6, 3) := by decide +kernel
theorem dX8_bitOf_9 : decode cX8_bitOf 9 = .ok (.iconst 1, 1) := by decide +kernel
theorem dX8_bitOf_10 : decode cX8_bitOf 10 = .ok (.iload_n 0, 1) := by decide +kernel
theorem dX8_bitOf_11 : decode cX8_bitOf 11 = .ok (.ishl, 1) := by decide +kernel
theorem dX8_bitOf_12 : decode cX8_bitOf 12 = .ok (.ireturn, 1) := by decide +kernel
def f_X8_bitOf (S0 : mS) (a1 : Int32) : Int32 := if a1 = (-1 : Int32) then ((0 : Int32)) else ((1 : Int32) <<< (a1 &&& 31))
set_option maxHeartbeats 4000000 in
set_option maxRecDepth 100000 in
theorem c_X8_bitOf {S0 : mS} {a1 : Int32} {R : Int32}  (h : f_X8_bitOf S0 a1 = R) : mCt μX8_bitOf 1 0 0 E0 S0 [.int (a1)] (mQe S0 (some (.int R))) := by
  unfold f_X8_bitOf at h
  refine mCt.of (by decide) (Nat.le_of_ble_eq_true rfl) ?_
  intro x
  refine mG.iload_n 0 dX8_bitOf_0 rfl ?_
  refine mG.iconst (v := (-1)) dX8_bitOf_1 rfl ?_
  refine mG.icmp_ne 9 dX8_bitOf_2 (by decide) (fun c1 => ?_) (fun c1 => ?_)
  · replace h := itn c1 h
    refine mG.iconst (v := 1) dX8_bitOf_9 rfl ?_
    refine mG.iload_n 0 dX8_bitOf_10 rfl ?_
    refine mG.ishl dX8_bitOf_11 ?_
    subst h
    exact mG.iret dX8_bitOf_12 rfl ⟨rfl, rfl, rfl⟩
  · replace h := itp c1 h
    refine mG.iconst (v := 0) dX8_bitOf_5 rfl ?_
    refine mG.goto 12 dX8_bitOf_6 (by decide) ?_
    subst h
    exact mG.iret dX8_bitOf_12 rfl ⟨rfl, rfl, rfl⟩
theorem dX8_commonDivisor_0 : decode cX8_commonDivisor 0 = .ok (.iload_n 0, 1) := by decide +kernel
theorem dX8_commonDivisor_1 : decode cX8_commonDivisor 1 = .ok (.istore_n 2, 1) := by decide +kernel
theorem dX8_commonDivisor_2 : decode cX8_commonDivisor 2 = .ok (.iload_n 1, 1) := by decide +kernel
theorem dX8_commonDivisor_3 : decode cX8_commonDivisor 3 = .ok (.istore_n 3, 1) := by decide +kernel
theorem dX8_commonDivisor_4 : decode cX8_commonDivisor 4 = .ok (.iconst 0, 1) := by decide +kernel
theorem dX8_commonDivisor_5 : decode cX8_commonDivisor 5 = .ok (.istore 4, 2) := by decide +kernel
theorem dX8_commonDivisor_7 : decode cX8_commonDivisor 7 = .ok (.iload 4, 2) := by decide +kernel
theorem dX8_commonDivisor_9 : decode cX8_commonDivisor 9 = .ok (.sipush 300, 3) := by decide +kernel
theorem dX8_commonDivisor_12 : decode cX8_commonDivisor 12 = .ok (.if_icmp .ge 23, 3) := by decide +kernel
theorem dX8_commonDivisor_15 : decode cX8_commonDivisor 15 = .ok (.iload_n 3, 1) := by decide +kernel
theorem dX8_commonDivisor_16 : decode cX8_commonDivisor 16 = .ok (.ifCond .eq 19, 3) := by decide +kernel
theorem dX8_commonDivisor_19 : decode cX8_commonDivisor 19 = .ok (.iload_n 2, 1) := by decide +kernel
theorem dX8_commonDivisor_20 : decode cX8_commonDivisor 20 = .ok (.iload_n 3, 1) := by decide +kernel
theorem dX8_commonDivisor_21 : decode cX8_commonDivisor 21 = .ok (.irem, 1) := by decide +kernel
theorem dX8_commonDivisor_22 : decode cX8_commonDivisor 22 = .ok (.istore 5, 2) := by decide +kernel
theorem dX8_commonDivisor_24 : decode cX8_commonDivisor 24 = .ok (.iload_n 3, 1) := by decide +kernel
theorem dX8_commonDivisor_25 : decode cX8_commonDivisor 25 = .ok (.istore_n 2, 1) := by decide +kernel
theorem dX8_commonDivisor_26 : decode cX8_commonDivisor 26 = .ok (.iload 5, 2) := by decide +kernel
theorem dX8_commonDivisor_28 : decode cX8_commonDivisor 28 = .ok (.istore_n 3, 1) := by decide +kernel
theorem dX8_commonDivisor_29 : decode cX8_commonDivisor 29 = .ok (.iinc 4 1, 3) := by decide +kernel
theorem dX8_commonDivisor_32 : decode cX8_commonDivisor 32 = .ok (.goto (-25), 3) := by decide +kernel
theorem dX8_commonDivisor_35 : decode cX8_commonDivisor 35 = .ok (.iload_n 2, 1) := by decide +kernel
theorem dX8_commonDivisor_36 : decode cX8_commonDivisor 36 = .ok (.ireturn, 1) := by decide +kernel
def lX8_commonDivisor_7 (F : Nat)  (a1 : Int32) (a2 : Int32) : Nat → mS → Int32 → Int32 → Int32 → Option Int32
  | 0, _, _, _, _ => none
  | n + 1, S0, v2, v3, v4 => if (300 : Int32) ≤ v4 then (some v2) else (if v3 = 0 then (some v2) else (ck (nz v3) (lX8_commonDivisor_7 F  a1 a2 n S0 v3 (v2 - v2 / v3 * v3) (v4 + 1))))
set_option maxHeartbeats 4000000 in
set_option maxRecDepth 100000 in
theorem gX8_commonDivisor_7 {x : mX} {F : Nat} {a1 : Int32} {a2 : Int32} {S0 : mS}   {R : Int32}   : ∀ (n : Nat) (v2 : Int32) (v3 : Int32) (v4 : Int32), lX8_commonDivisor_7 F  a1 a2 n S0 v2 v3 v4 = some R → mG x μX8_commonDivisor 1 0 0 (mQe S0 (some (.int R))) 0 0 E0 S0 7 [(2, .int (v2)), (3, .int (v3)), (4, .int (v4))] [] := by
  intro n
  induction n with
  | zero =>
    intro v2 v3 v4 h
    cases h
  | succ n ih =>
    intro v2 v3 v4 h
    unfold lX8_commonDivisor_7 at h
    refine mG.iload 2 dX8_commonDivisor_7 rfl ?_
    refine mG.sipush (v := 300) dX8_commonDivisor_9 (by decide) ?_
    refine mG.icmp_ge 35 dX8_commonDivisor_12 (by decide) (fun c3 => ?_) (fun c3 => ?_)
    · replace h := itp c3 h
      refine mG.iload_n 0 dX8_commonDivisor_35 rfl ?_
      obtain rfl := Option.some.inj h
      exact mG.iret dX8_commonDivisor_36 rfl ⟨rfl, rfl, rfl⟩
    · replace h := itn c3 h
      refine mG.iload_n 1 dX8_commonDivisor_15 rfl ?_
      refine mG.if_eq 35 dX8_commonDivisor_16 (by decide) (fun c2 => ?_) (fun c2 => ?_)
      · replace h := itp c2 h
        refine mG.iload_n 0 dX8_commonDivisor_35 rfl ?_
        obtain rfl := Option.some.inj h
        exact mG.iret dX8_commonDivisor_36 rfl ⟨rfl, rfl, rfl⟩
      · replace h := itn c2 h
        refine mG.iload_n 0 dX8_commonDivisor_19 rfl ?_
        refine mG.iload_n 1 dX8_commonDivisor_20 rfl ?_
        obtain ⟨b1, h⟩ := ckp h
        refine mG.irem dX8_commonDivisor_21 (nzp b1) ?_
        refine mG.istore (lv2 := [(5, .int (v2 - v2 / v3 * v3)), (2, .int (v2)), (3, .int (v3)), (4, .int (v4))]) dX8_commonDivisor_22 (by decide) rfl ?_
        refine mG.iload_n 2 dX8_commonDivisor_24 rfl ?_
        refine mG.istore_n (lv2 := [(2, .int (v3)), (5, .int (v2 - v2 / v3 * v3)), (3, .int (v3)), (4, .int (v4))]) dX8_commonDivisor_25 rfl (by decide) rfl ?_
        refine mG.iload 1 dX8_commonDivisor_26 rfl ?_
        refine mG.istore_n (lv2 := [(3, .int (v2 - v2 / v3 * v3)), (2, .int (v3)), (5, .int (v2 - v2 / v3 * v3)), (4, .int (v4))]) dX8_commonDivisor_28 rfl (by decide) rfl ?_
        refine mG.iinc 3 (u := v4 + 1) (lv2 := [(4, .int (v4 + 1)), (3, .int (v2 - v2 / v3 * v3)), (2, .int (v3)), (5, .int (v2 - v2 / v3 * v3))]) dX8_commonDivisor_29 rfl rfl (by decide) rfl ?_
        refine mG.goto 7 dX8_commonDivisor_32 (by decide) ?_
        refine mG.sub (lv2 := [(2, .int (v3)), (3, .int (v2 - v2 / v3 * v3)), (4, .int (v4 + 1))]) [2, 1, 0] rfl ?_
        exact ih  v3 (v2 - v2 / v3 * v3) (v4 + 1)  h
def f_X8_commonDivisor (F : Nat) (S0 : mS) (a1 : Int32) (a2 : Int32) : Option Int32 := lX8_commonDivisor_7 F  a1 a2 F S0 a1 a2 (0 : Int32)
set_option maxHeartbeats 4000000 in
set_option maxRecDepth 100000 in
theorem c_X8_commonDivisor {F : Nat} {S0 : mS} {a1 : Int32} {a2 : Int32} {R : Int32}  (h : f_X8_commonDivisor F S0 a1 a2 = some R) : mCt μX8_commonDivisor 1 0 0 E0 S0 [.int (a1), .int (a2)] (mQe S0 (some (.int R))) := by
  unfold f_X8_commonDivisor at h
  refine mCt.of (by decide) (Nat.le_of_ble_eq_true rfl) ?_
  intro x
  refine mG.iload_n 0 dX8_commonDivisor_0 rfl ?_
  refine mG.istore_n (lv2 := [(2, .int (a1)), (0, .int (a1)), (1, .int (a2))]) dX8_commonDivisor_1 rfl (by decide) rfl ?_
  refine mG.iload_n 2 dX8_commonDivisor_2 rfl ?_
  refine mG.istore_n (lv2 := [(3, .int (a2)), (2, .int (a1)), (0, .int (a1)), (1, .int (a2))]) dX8_commonDivisor_3 rfl (by decide) rfl ?_
  refine mG.iconst (v := 0) dX8_commonDivisor_4 rfl ?_
  refine mG.istore (lv2 := [(4, .int 0), (3, .int (a2)), (2, .int (a1)), (0, .int (a1)), (1, .int (a2))]) dX8_commonDivisor_5 (by decide) rfl ?_
  refine mG.sub (lv2 := [(2, .int (a1)), (3, .int (a2)), (4, .int 0)]) [2, 1, 0] rfl ?_
  exact gX8_commonDivisor_7   F  a1 a2 (0 : Int32)  h
