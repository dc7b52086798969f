theorem dX4_kind_0 : decode cX4_kind 0 = .ok (.aload_n 0, 1) := by decide +kernel
theorem dX4_kind_1 : decode cX4_kind 1 = .ok (.getfield 32, 3) := by decide +kernel
theorem dX4_kind_4 : decode cX4_kind 4 = .ok (.ifCond .eq 7, 3) := by decide +kernel
theorem dX4_kind_7 : decode cX4_kind 7 = .ok (.iconst 1, 1) := by decide +kernel
theorem dX4_kind_8 : decode cX4_kind 8 = .ok (.goto 12, 3) := by decide +kernel
theorem dX4_kind_11 : decode cX4_kind 11 = .ok (.aload_n 0, 1) := by decide +kernel
theorem dX4_kind_12 : decode cX4_kind 12 = .ok (.getfield 22, 3) := by decide +kernel
theorem dX4_kind_15 : decode cX4_kind 15 = .ok (.aload_n 0, 1) := by decide +kernel
theorem dX4_kind_16 : decode cX4_kind 16 = .ok (.getfield 35, 3) := by decide +kernel
theorem dX4_kind_19 : decode cX4_kind 19 = .ok (.iaload, 1) := by decide +kernel
theorem dX4_kind_20 : decode cX4_kind 20 = .ok (.ireturn, 1) := by decide +kernel
def f_X4_kind (F : Nat) (S0 : mS) (t : Nat) : Option Int32 := if (S0.1 t 1) = 0 then (ck (inb (S0.1 t 7) 301) (some (S0.1 (t + 6) (S0.1 t 7).toNatClampNeg))) else (some (1 : Int32))
set_option maxHeartbeats 4000000 in
set_option maxRecDepth 100000 in
theorem c_X4_kind {F : Nat} {S0 : mS} {t : Nat} {R : Int32} (ht : kd0 t = 4) (h : f_X4_kind F S0 t = some R) : mCt μX4_kind 1 0 0 E0 S0 [.ref (t)] (mQe S0 (some (.int R))) := by
  unfold f_X4_kind at h
  refine mCt.of (by decide) (Nat.le_of_ble_eq_true rfl) ?_
  intro x
  refine mG.aload_n 0 dX4_kind_0 rfl ?_
  refine mG.get (v := .int (S0.1 t 1)) dX4_kind_1 mfX4_32 ht rfl ?_
  refine mG.if_eq 11 dX4_kind_4 (by decide) (fun c2 => ?_) (fun c2 => ?_)
  · replace h := itp c2 h
    refine mG.aload_n 0 dX4_kind_11 rfl ?_
    refine mG.get (v := .ref (t + 6)) dX4_kind_12 mfX4_22 ht (lr4_kinds ht) ?_
    refine mG.aload_n 0 dX4_kind_15 rfl ?_
    refine mG.get (v := .int (S0.1 t 7)) dX4_kind_16 mfX4_35 ht rfl ?_
    obtain ⟨b1, h⟩ := ckp h
    refine mG.iald dX4_kind_19 (lk4_kinds ht) (ll4_kinds ht) (inbp b1) ?_
    obtain rfl := Option.some.inj h
    exact mG.iret dX4_kind_20 rfl ⟨rfl, rfl, rfl⟩
  · replace h := itn c2 h
    refine mG.iconst (v := 1) dX4_kind_7 rfl ?_
    refine mG.goto 20 dX4_kind_8 (by decide) ?_
    obtain rfl := Option.some.inj h
    exact mG.iret dX4_kind_20 rfl ⟨rfl, rfl, rfl⟩
theorem dX4_advance_0 : decode cX4_advance 0 = .ok (.aload_n 0, 1) := by decide +kernel
theorem dX4_advance_1 : decode cX4_advance 1 = .ok (.getfield 35, 3) := by decide +kernel
theorem dX4_advance_4 : decode cX4_advance 4 = .ok (.aload_n 0, 1) := by decide +kernel
theorem dX4_advance_5 : decode cX4_advance 5 = .ok (.getfield 75, 3) := by decide +kernel
theorem dX4_advance_8 : decode cX4_advance 8 = .ok (.if_icmp .ge 13, 3) := by decide +kernel
theorem dX4_advance_11 : decode cX4_advance 11 = .ok (.aload_n 0, 1) := by decide +kernel
theorem dX4_advance_12 : decode cX4_advance 12 = .ok (.dup, 1) := by decide +kernel
theorem dX4_advance_13 : decode cX4_advance 13 = .ok (.getfield 35, 3) := by decide +kernel
theorem dX4_advance_16 : decode cX4_advance 16 = .ok (.iconst 1, 1) := by decide +kernel
theorem dX4_advance_17 : decode cX4_advance 17 = .ok (.iadd, 1) := by decide +kernel
theorem dX4_advance_18 : decode cX4_advance 18 = .ok (.putfield 35, 3) := by decide +kernel
theorem dX4_advance_21 : decode cX4_advance 21 = .ok (.return_, 1) := by decide +kernel
def f_X4_advance (F : Nat) (S : mS) (t : Nat) : Option mS := if (S.1 t 6) ≤ (S.1 t 7) then (some S) else (stp (sI S t 7 ((S.1 t 7) + (1 : Int32))) fun S1 => some S1)
set_option maxHeartbeats 4000000 in
set_option maxRecDepth 100000 in
theorem c_X4_advance {F : Nat} {S : mS} {t : Nat} {R : mS} (ht : kd0 t = 4) (h : f_X4_advance F S t = some R) : mCt μX4_advance 1 0 0 E0 S [.ref (t)] (mQe R none) := by
  unfold f_X4_advance at h
  refine mCt.of (by decide) (Nat.le_of_ble_eq_true rfl) ?_
  intro x
  refine mG.aload_n 0 dX4_advance_0 rfl ?_
  refine mG.get (v := .int (S.1 t 7)) dX4_advance_1 mfX4_35 ht rfl ?_
  refine mG.aload_n 0 dX4_advance_4 rfl ?_
  refine mG.get (v := .int (S.1 t 6)) dX4_advance_5 mfX4_75 ht rfl ?_
  refine mG.icmp_ge 21 dX4_advance_8 (by decide) (fun c2 => ?_) (fun c2 => ?_)
  · replace h := itp c2 h
    obtain rfl := Option.some.inj h
    exact mG.vret dX4_advance_21 rfl ⟨rfl, rfl, rfl⟩
  · replace h := itn c2 h
    refine mG.aload_n 0 dX4_advance_11 rfl ?_
    refine mG.dup dX4_advance_12 rfl ?_
    refine mG.get (v := .int (S.1 t 7)) dX4_advance_13 mfX4_35 ht rfl ?_
    refine mG.iconst (v := 1) dX4_advance_16 rfl ?_
    refine mG.iadd dX4_advance_17 ?_
    obtain ⟨S1, hS1, h⟩ := stpp h
    refine mG.putI dX4_advance_18 mfX4_35 rfl (Or.inl rfl) ht hS1 ?_
    obtain rfl := Option.some.inj h
    exact mG.vret dX4_advance_21 rfl ⟨rfl, rfl, rfl⟩
theorem dX4_emit_0 : decode cX4_emit 0 = .ok (.aload_n 0, 1) := by decide +kernel
theorem dX4_emit_1 : decode cX4_emit 1 = .ok (.getfield 12, 3) := by decide +kernel
theorem dX4_emit_4 : decode cX4_emit 4 = .ok (.sipush 10000, 3) := by decide +kernel
theorem dX4_emit_7 : decode cX4_emit 7 = .ok (.iload_n 1, 1) := by decide +kernel
theorem dX4_emit_8 : decode cX4_emit 8 = .ok (.iadd, 1) := by decide +kernel
theorem dX4_emit_9 : decode cX4_emit 9 = .ok (.invokevirtual 172, 3) := by decide +kernel
theorem dX4_emit_12 : decode cX4_emit 12 = .ok (.return_, 1) := by decide +kernel
def f_X4_emit (F : Nat) (S : mS) (t : Nat) (a1 : Int32) : Option mS := bd (f_X5_append F S (t + 1) ((10000 : Int32) + a1)) fun q1 => some q1
set_option maxHeartbeats 4000000 in
set_option maxRecDepth 100000 in
theorem c_X4_emit {F : Nat} {S : mS} {t : Nat} {a1 : Int32} {R : mS} (ht : kd0 t = 4) (h : f_X4_emit F S t a1 = some R) : mCt μX4_emit 2 0 0 E0 S [.ref (t), .int (a1)] (mQe R none) := by
  unfold f_X4_emit at h
  refine mCt.of (by decide) (Nat.le_of_ble_eq_true rfl) ?_
  intro x
  refine mG.aload_n 0 dX4_emit_0 rfl ?_
  refine mG.get (v := .ref (t + 1)) dX4_emit_1 mfX4_12 ht (lr4_draft ht) ?_
  refine mG.sipush (v := 10000) dX4_emit_4 (by decide) ?_
  refine mG.iload_n 1 dX4_emit_7 rfl ?_
  refine mG.iadd dX4_emit_8 ?_
  obtain ⟨q1, hq1, h⟩ := bdp h
  refine mG.callV0 (as := [.int ((10000 : Int32) + a1)]) (st := []) (S2 := q1) (r := none) dX4_emit_9 mvX5_append wk18_0 rfl (lk4_draft ht) rfl (by decide) (Nat.le_of_ble_eq_true rfl) (c_X5_append (lk4_draft ht) hq1) ?_
  obtain rfl := Option.some.inj h
  exact mG.vret dX4_emit_12 rfl ⟨rfl, rfl, rfl⟩
theorem dX4_fail_0 : decode cX4_fail 0 = .ok (.aload_n 0, 1) := by decide +kernel
theorem dX4_fail_1 : decode cX4_fail 1 = .ok (.getfield 32, 3) := by decide +kernel
theorem dX4_fail_4 : decode cX4_fail 4 = .ok (.ifCond .ne 21, 3) := by decide +kernel
theorem dX4_fail_7 : decode cX4_fail 7 = .ok (.aload_n 0, 1) := by decide +kernel
theorem dX4_fail_8 : decode cX4_fail 8 = .ok (.iload_n 1, 1) := by decide +kernel
theorem dX4_fail_9 : decode cX4_fail 9 = .ok (.putfield 32, 3) := by decide +kernel
theorem dX4_fail_12 : decode cX4_fail 12 = .ok (.aload_n 0, 1) := by decide +kernel
theorem dX4_fail_13 : decode cX4_fail 13 = .ok (.aload_n 0, 1) := by decide +kernel
theorem dX4_fail_14 : decode cX4_fail 14 = .ok (.getfield 26, 3) := by decide +kernel
theorem dX4_fail_17 : decode cX4_fail 17 = .ok (.aload_n 0, 1) := by decide +kernel
theorem dX4_fail_18 : decode cX4_fail 18 = .ok (.getfield 35, 3) := by decide +kernel
theorem dX4_fail_21 : decode cX4_fail 21 = .ok (.iaload, 1) := by decide +kernel
theorem dX4_fail_22 : decode cX4_fail 22 = .ok (.putfield 18, 3) := by decide +kernel
theorem dX4_fail_25 : decode cX4_fail 25 = .ok (.return_, 1) := by decide +kernel
def f_X4_fail (F : Nat) (S : mS) (t : Nat) (a1 : Int32) : Option mS := if (S.1 t 1) = 0 then (stp (sI S t 1 a1) fun S1 => ck (inb (S1.1 t 7) 301) (stp (sI S1 t 2 (S1.1 (t + 7) (S1.1 t 7).toNatClampNeg)) fun S3 => some S3)) else (some S)
set_option maxHeartbeats 4000000 in
set_option maxRecDepth 100000 in
theorem c_X4_fail {F : Nat} {S : mS} {t : Nat} {a1 : Int32} {R : mS} (ht : kd0 t = 4) (h : f_X4_fail F S t a1 = some R) : mCt μX4_fail 1 0 0 E0 S [.ref (t), .int (a1)] (mQe R none) := by
  unfold f_X4_fail at h
  refine mCt.of (by decide) (Nat.le_of_ble_eq_true rfl) ?_
  intro x
  refine mG.aload_n 0 dX4_fail_0 rfl ?_
  refine mG.get (v := .int (S.1 t 1)) dX4_fail_1 mfX4_32 ht rfl ?_
  refine mG.if_ne 25 dX4_fail_4 (by decide) (fun c4 => ?_) (fun c4 => ?_)
  · replace h := itn c4 h
    obtain rfl := Option.some.inj h
    exact mG.vret dX4_fail_25 rfl ⟨rfl, rfl, rfl⟩
  · replace h := itp c4 h
    refine mG.aload_n 0 dX4_fail_7 rfl ?_
    refine mG.iload_n 1 dX4_fail_8 rfl ?_
    obtain ⟨S1, hS1, h⟩ := stpp h
    refine mG.putI dX4_fail_9 mfX4_32 rfl (Or.inl rfl) ht hS1 ?_
    refine mG.aload_n 0 dX4_fail_12 rfl ?_
    refine mG.aload_n 0 dX4_fail_13 rfl ?_
    refine mG.get (v := .ref (t + 7)) dX4_fail_14 mfX4_26 ht (lr4_places ht) ?_
    refine mG.aload_n 0 dX4_fail_17 rfl ?_
    refine mG.get (v := .int (S1.1 t 7)) dX4_fail_18 mfX4_35 ht rfl ?_
    obtain ⟨b2, h⟩ := ckp h
    refine mG.iald dX4_fail_21 (lk4_places ht) (ll4_places ht) (inbp b2) ?_
    obtain ⟨S3, hS3, h⟩ := stpp h
    refine mG.putI dX4_fail_22 mfX4_18 rfl (Or.inl rfl) ht hS3 ?_
    obtain rfl := Option.some.inj h
    exact mG.vret dX4_fail_25 rfl ⟨rfl, rfl, rfl⟩
theorem dX4_expect_0 : decode cX4_expect 0 = .ok (.aload_n 0, 1) := by decide +kernel
theorem dX4_expect_1 : decode cX4_expect 1 = .ok (.invokevirtual 51, 3) := by decide +kernel
theorem dX4_expect_4 : decode cX4_expect 4 = .ok (.iload_n 1, 1) := by decide +kernel
theorem dX4_expect_5 : decode cX4_expect 5 = .ok (.if_icmp .ne 10, 3) := by decide +kernel
theorem dX4_expect_8 : decode cX4_expect 8 = .ok (.aload_n 0, 1) := by decide +kernel
theorem dX4_expect_9 : decode cX4_expect 9 = .ok (.invokevirtual 59, 3) := by decide +kernel
theorem dX4_expect_12 : decode cX4_expect 12 = .ok (.goto 8, 3) := by decide +kernel
theorem dX4_expect_15 : decode cX4_expect 15 = .ok (.aload_n 0, 1) := by decide +kernel
theorem dX4_expect_16 : decode cX4_expect 16 = .ok (.iconst 1, 1) := by decide +kernel
theorem dX4_expect_17 : decode cX4_expect 17 = .ok (.invokevirtual 115, 3) := by decide +kernel
theorem dX4_expect_20 : decode cX4_expect 20 = .ok (.return_, 1) := by decide +kernel
def f_X4_expect (F : Nat) (S : mS) (t : Nat) (a1 : Int32) : Option mS := bd (f_X4_kind F S t) fun q1 => if q1 = a1 then (bd (f_X4_advance F S t) fun q3 => some q3) else (bd (f_X4_fail F S t (1 : Int32)) fun q2 => some q2)
set_option maxHeartbeats 4000000 in
set_option maxRecDepth 100000 in
theorem c_X4_expect {F : Nat} {S : mS} {t : Nat} {a1 : Int32} {R : mS} (ht : kd0 t = 4) (h : f_X4_expect F S t a1 = some R) : mCt μX4_expect 2 0 0 E0 S [.ref (t), .int (a1)] (mQe R none) := by
  unfold f_X4_expect at h
  refine mCt.of (by decide) (Nat.le_of_ble_eq_true rfl) ?_
  intro x
  refine mG.aload_n 0 dX4_expect_0 rfl ?_
  obtain ⟨q1, hq1, h⟩ := bdp h
  refine mG.callV0 (as := []) (st := []) (S2 := S) (r := some (.int (q1))) dX4_expect_1 mvX4_kind wk15_17 rfl ht rfl (by decide) (Nat.le_of_ble_eq_true rfl) (c_X4_kind ht hq1) ?_
  refine mG.iload_n 1 dX4_expect_4 rfl ?_
  refine mG.icmp_ne 15 dX4_expect_5 (by decide) (fun c4 => ?_) (fun c4 => ?_)
  · replace h := itn c4 h
    refine mG.aload_n 0 dX4_expect_15 rfl ?_
    refine mG.iconst (v := 1) dX4_expect_16 rfl ?_
    obtain ⟨q2, hq2, h⟩ := bdp h
    refine mG.callV0 (as := [.int 1]) (st := []) (S2 := q2) (r := none) dX4_expect_17 mvX4_fail wk16_5 rfl ht rfl (by decide) (Nat.le_of_ble_eq_true rfl) (c_X4_fail ht hq2) ?_
    obtain rfl := Option.some.inj h
    exact mG.vret dX4_expect_20 rfl ⟨rfl, rfl, rfl⟩
  · replace h := itp c4 h
    refine mG.aload_n 0 dX4_expect_8 rfl ?_
    obtain ⟨q3, hq3, h⟩ := bdp h
    refine mG.callV0 (as := []) (st := []) (S2 := q3) (r := none) dX4_expect_9 mvX4_advance wk16_13 rfl ht rfl (by decide) (Nat.le_of_ble_eq_true rfl) (c_X4_advance ht hq3) ?_
    refine mG.goto 20 dX4_expect_12 (by decide) ?_
    obtain rfl := Option.some.inj h
    exact mG.vret dX4_expect_20 rfl ⟨rfl, rfl, rfl⟩
theorem dX4_expectNumber_0 : decode cX4_expectNumber 0 = .ok (.aload_n 0, 1) := by decide +kernel
theorem dX4_expectNumber_1 : decode cX4_expectNumber 1 = .ok (.invokevirtual 51, 3) := by decide +kernel
theorem dX4_expectNumber_4 : decode cX4_expectNumber 4 = .ok (.iconst 2, 1) := by decide +kernel
theorem dX4_expectNumber_5 : decode cX4_expectNumber 5 = .ok (.if_icmp .eq 10, 3) := by decide +kernel
theorem dX4_expectNumber_8 : decode cX4_expectNumber 8 = .ok (.aload_n 0, 1) := by decide +kernel
theorem dX4_expectNumber_9 : decode cX4_expectNumber 9 = .ok (.iconst 1, 1) := by decide +kernel
theorem dX4_expectNumber_10 : decode cX4_expectNumber 10 = .ok (.invokevirtual 115, 3) := by decide +kernel
theorem dX4_expectNumber_13 : decode cX4_expectNumber 13 = .ok (.iconst (-1), 1) := by decide +kernel
theorem dX4_expectNumber_14 : decode cX4_expectNumber 14 = .ok (.ireturn, 1) := by decide +kernel
theorem dX4_expectNumber_15 : decode cX4_expectNumber 15 = .ok (.aload_n 0, 1) := by decide +kernel
theorem dX4_expectNumber_16 : decode cX4_expectNumber 16 = .ok (.getfield 29, 3) := by decide +kernel
theorem dX4_expectNumber_19 : decode cX4_expectNumber 19 = .ok (.aload_n 0, 1) := by decide +kernel
theorem dX4_expectNumber_20 : decode cX4_expectNumber 20 = .ok (.getfield 35, 3) := by decide +kernel
theorem dX4_expectNumber_23 : decode cX4_expectNumber 23 = .ok (.iaload, 1) := by decide +kernel
theorem dX4_expectNumber_24 : decode cX4_expectNumber 24 = .ok (.istore_n 3, 1) := by decide +kernel
theorem dX4_expectNumber_25 : decode cX4_expectNumber 25 = .ok (.iload_n 3, 1) := by decide +kernel
theorem dX4_expectNumber_26 : decode cX4_expectNumber 26 = .ok (.iload_n 1, 1) := by decide +kernel
theorem dX4_expectNumber_27 : decode cX4_expectNumber 27 = .ok (.iload_n 2, 1) := by decide +kernel
theorem dX4_expectNumber_28 : decode cX4_expectNumber 28 = .ok (.invokestatic 118, 3) := by decide +kernel
theorem dX4_expectNumber_31 : decode cX4_expectNumber 31 = .ok (.ifCond .ne 8, 3) := by decide +kernel
theorem dX4_expectNumber_34 : decode cX4_expectNumber 34 = .ok (.aload_n 0, 1) := by decide +kernel
theorem dX4_expectNumber_35 : decode cX4_expectNumber 35 = .ok (.iconst 2, 1) := by decide +kernel
theorem dX4_expectNumber_36 : decode cX4_expectNumber 36 = .ok (.invokevirtual 115, 3) := by decide +kernel
theorem dX4_expectNumber_39 : decode cX4_expectNumber 39 = .ok (.aload_n 0, 1) := by decide +kernel
theorem dX4_expectNumber_40 : decode cX4_expectNumber 40 = .ok (.invokevirtual 59, 3) := by decide +kernel
theorem dX4_expectNumber_43 : decode cX4_expectNumber 43 = .ok (.iload_n 3, 1) := by decide +kernel
theorem dX4_expectNumber_44 : decode cX4_expectNumber 44 = .ok (.ireturn, 1) := by decide +kernel
def f_X4_expectNumber (F : Nat) (S : mS) (t : Nat) (a1 : Int32) (a2 : Int32) : Option (mS × Int32) := bd (f_X4_kind F S t) fun q1 => if q1 = (2 : Int32) then (ck (inb (S.1 t 7) 301) (if (f_X8_isWithin S (S.1 (t + 8) (S.1 t 7).toNatClampNeg) a1 a2) = true then (bd (f_X4_advance F S t) fun q3 => some (q3, S.1 (t + 8) (S.1 t 7).toNatClampNeg)) else (bd (f_X4_fail F S t (2 : Int32)) fun q4 => bd (f_X4_advance F q4 t) fun q5 => some (q5, S.1 (t + 8) (S.1 t 7).toNatClampNeg)))) else (bd (f_X4_fail F S t (1 : Int32)) fun q7 => some (q7, (-1 : Int32)))
set_option maxHeartbeats 4000000 in
set_option maxRecDepth 100000 in
theorem c_X4_expectNumber {F : Nat} {S : mS} {t : Nat} {a1 : Int32} {a2 : Int32} {R : mS × Int32} (ht : kd0 t = 4) (h : f_X4_expectNumber F S t a1 a2 = some R) : mCt μX4_expectNumber 2 0 0 E0 S [.ref (t), .int (a1), .int (a2)] (mQe R.1 (some (.int R.2))) := by
  unfold f_X4_expectNumber at h
  refine mCt.of (by decide) (Nat.le_of_ble_eq_true rfl) ?_
  intro x
  refine mG.aload_n 0 dX4_expectNumber_0 rfl ?_
  obtain ⟨q1, hq1, h⟩ := bdp h
  refine mG.callV0 (as := []) (st := []) (S2 := S) (r := some (.int (q1))) dX4_expectNumber_1 mvX4_kind wk15_17 rfl ht rfl (by decide) (Nat.le_of_ble_eq_true rfl) (c_X4_kind ht hq1) ?_
  refine mG.iconst (v := 2) dX4_expectNumber_4 rfl ?_
  refine mG.icmp_eq 15 dX4_expectNumber_5 (by decide) (fun c8 => ?_) (fun c8 => ?_)
  · replace h := itp c8 h
    refine mG.aload_n 0 dX4_expectNumber_15 rfl ?_
    refine mG.get (v := .ref (t + 8)) dX4_expectNumber_16 mfX4_29 ht (lr4_values ht) ?_
    refine mG.aload_n 0 dX4_expectNumber_19 rfl ?_
    refine mG.get (v := .int (S.1 t 7)) dX4_expectNumber_20 mfX4_35 ht rfl ?_
    obtain ⟨b2, h⟩ := ckp h
    refine mG.iald dX4_expectNumber_23 (lk4_values ht) (ll4_values ht) (inbp b2) ?_
    refine mG.istore_n (lv2 := [(3, .int (S.1 (t + 8) (S.1 t 7).toNatClampNeg)), (0, .ref (t)), (1, .int (a1)), (2, .int (a2))]) dX4_expectNumber_24 rfl (by decide) rfl ?_
    refine mG.iload_n 0 dX4_expectNumber_25 rfl ?_
    refine mG.iload_n 2 dX4_expectNumber_26 rfl ?_
    refine mG.iload_n 3 dX4_expectNumber_27 rfl ?_
    refine mG.callSN0 (as := [.int (S.1 (t + 8) (S.1 t 7).toNatClampNeg), .int (a1), .int (a2)]) (st := []) (S2 := S) (r := some (.int (bI (f_X8_isWithin S (S.1 (t + 8) (S.1 t 7).toNatClampNeg) a1 a2)))) dX4_expectNumber_28 mbX8_isWithin wk6_19 (List.mem_of_getElem? (i := 9) rfl) rfl rfl (by decide) (Nat.le_of_ble_eq_true rfl) (c_X8_isWithin  rfl) ?_
    refine mG.ifz_ne (b := f_X8_isWithin S (S.1 (t + 8) (S.1 t 7).toNatClampNeg) a1 a2) 39 dX4_expectNumber_31 (by decide) (fun c6 => ?_) (fun c6 => ?_)
    · replace h := itp c6 h
      refine mG.aload_n 1 dX4_expectNumber_39 rfl ?_
      obtain ⟨q3, hq3, h⟩ := bdp h
      refine mG.callV0 (as := []) (st := []) (S2 := q3) (r := none) dX4_expectNumber_40 mvX4_advance wk16_13 rfl ht rfl (by decide) (Nat.le_of_ble_eq_true rfl) (c_X4_advance ht hq3) ?_
      refine mG.iload_n 0 dX4_expectNumber_43 rfl ?_
      obtain rfl := Option.some.inj h
      exact mG.iret dX4_expectNumber_44 rfl ⟨rfl, rfl, rfl⟩
    · replace h := itn c6 h
      refine mG.aload_n 1 dX4_expectNumber_34 rfl ?_
      refine mG.iconst (v := 2) dX4_expectNumber_35 rfl ?_
      obtain ⟨q4, hq4, h⟩ := bdp h
      refine mG.callV0 (as := [.int 2]) (st := []) (S2 := q4) (r := none) dX4_expectNumber_36 mvX4_fail wk16_5 rfl ht rfl (by decide) (Nat.le_of_ble_eq_true rfl) (c_X4_fail ht hq4) ?_
      refine mG.aload_n 1 dX4_expectNumber_39 rfl ?_
      obtain ⟨q5, hq5, h⟩ := bdp h
      refine mG.callV0 (as := []) (st := []) (S2 := q5) (r := none) dX4_expectNumber_40 mvX4_advance wk16_13 rfl ht rfl (by decide) (Nat.le_of_ble_eq_true rfl) (c_X4_advance ht hq5) ?_
      refine mG.iload_n 0 dX4_expectNumber_43 rfl ?_
      obtain rfl := Option.some.inj h
      exact mG.iret dX4_expectNumber_44 rfl ⟨rfl, rfl, rfl⟩
  · replace h := itn c8 h
    refine mG.aload_n 0 dX4_expectNumber_8 rfl ?_
    refine mG.iconst (v := 1) dX4_expectNumber_9 rfl ?_
    obtain ⟨q7, hq7, h⟩ := bdp h
    refine mG.callV0 (as := [.int 1]) (st := []) (S2 := q7) (r := none) dX4_expectNumber_10 mvX4_fail wk16_5 rfl ht rfl (by decide) (Nat.le_of_ble_eq_true rfl) (c_X4_fail ht hq7) ?_
    refine mG.iconst (v := (-1)) dX4_expectNumber_13 rfl ?_
    obtain rfl := Option.some.inj h
    exact mG.iret dX4_expectNumber_14 rfl ⟨rfl, rfl, rfl⟩
theorem dX4_readName_0 : decode cX4_readName 0 = .ok (.iload_n 1, 1) := by decide +kernel
theorem dX4_readName_1 : decode cX4_readName 1 = .ok (.bipush 23, 2) := by decide +kernel
theorem dX4_readName_3 : decode cX4_readName 3 = .ok (.if_icmp .ne 15, 3) := by decide +kernel
theorem dX4_readName_6 : decode cX4_readName 6 = .ok (.aload_n 0, 1) := by decide +kernel
theorem dX4_readName_7 : decode cX4_readName 7 = .ok (.getfield 135, 3) := by decide +kernel
theorem dX4_readName_10 : decode cX4_readName 10 = .ok (.ifCond .eq 8, 3) := by decide +kernel
theorem dX4_readName_13 : decode cX4_readName 13 = .ok (.aload_n 0, 1) := by decide +kernel
theorem dX4_readName_14 : decode cX4_readName 14 = .ok (.iconst 5, 1) := by decide +kernel
theorem dX4_readName_15 : decode cX4_readName 15 = .ok (.invokevirtual 115, 3) := by decide +kernel
theorem dX4_readName_18 : decode cX4_readName 18 = .ok (.aload_n 0, 1) := by decide +kernel
theorem dX4_readName_19 : decode cX4_readName 19 = .ok (.getfield 12, 3) := by decide +kernel
theorem dX4_readName_22 : decode cX4_readName 22 = .ok (.sipush 10000, 3) := by decide +kernel
theorem dX4_readName_25 : decode cX4_readName 25 = .ok (.iload_n 1, 1) := by decide +kernel
theorem dX4_readName_26 : decode cX4_readName 26 = .ok (.iadd, 1) := by decide +kernel
theorem dX4_readName_27 : decode cX4_readName 27 = .ok (.invokevirtual 172, 3) := by decide +kernel
theorem dX4_readName_30 : decode cX4_readName 30 = .ok (.aload_n 0, 1) := by decide +kernel
theorem dX4_readName_31 : decode cX4_readName 31 = .ok (.invokevirtual 59, 3) := by decide +kernel
theorem dX4_readName_34 : decode cX4_readName 34 = .ok (.return_, 1) := by decide +kernel
def f_X4_readName (F : Nat) (S : mS) (t : Nat) (a1 : Int32) : Option mS := if a1 = (23 : Int32) then (if (S.1 t 8) = 0 then (bd (f_X5_append F S (t + 1) ((10000 : Int32) + a1)) fun q3 => bd (f_X4_advance F q3 t) fun q4 => some q4) else (bd (f_X4_fail F S t (5 : Int32)) fun q5 => bd (f_X5_append F q5 (t + 1) ((10000 : Int32) + a1)) fun q6 => bd (f_X4_advance F q6 t) fun q7 => some q7)) else (bd (f_X5_append F S (t + 1) ((10000 : Int32) + a1)) fun q1 => bd (f_X4_advance F q1 t) fun q2 => some q2)
set_option maxHeartbeats 4000000 in
set_option maxRecDepth 100000 in
theorem c_X4_readName {F : Nat} {S : mS} {t : Nat} {a1 : Int32} {R : mS} (ht : kd0 t = 4) (h : f_X4_readName F S t a1 = some R) : mCt μX4_readName 2 0 0 E0 S [.ref (t), .int (a1)] (mQe R none) := by
  unfold f_X4_readName at h
  refine mCt.of (by decide) (Nat.le_of_ble_eq_true rfl) ?_
  intro x
  refine mG.iload_n 1 dX4_readName_0 rfl ?_
  refine mG.bipush (v := 23) dX4_readName_1 (by decide) ?_
  refine mG.icmp_ne 18 dX4_readName_3 (by decide) (fun c9 => ?_) (fun c9 => ?_)
  · replace h := itn c9 h
    refine mG.aload_n 0 dX4_readName_18 rfl ?_
    refine mG.get (v := .ref (t + 1)) dX4_readName_19 mfX4_12 ht (lr4_draft ht) ?_
    refine mG.sipush (v := 10000) dX4_readName_22 (by decide) ?_
    refine mG.iload_n 1 dX4_readName_25 rfl ?_
    refine mG.iadd dX4_readName_26 ?_
    obtain ⟨q1, hq1, h⟩ := bdp h
    refine mG.callV0 (as := [.int ((10000 : Int32) + a1)]) (st := []) (S2 := q1) (r := none) dX4_readName_27 mvX5_append wk18_0 rfl (lk4_draft ht) rfl (by decide) (Nat.le_of_ble_eq_true rfl) (c_X5_append (lk4_draft ht) hq1) ?_
    refine mG.aload_n 0 dX4_readName_30 rfl ?_
    obtain ⟨q2, hq2, h⟩ := bdp h
    refine mG.callV0 (as := []) (st := []) (S2 := q2) (r := none) dX4_readName_31 mvX4_advance wk16_13 rfl ht rfl (by decide) (Nat.le_of_ble_eq_true rfl) (c_X4_advance ht hq2) ?_
    obtain rfl := Option.some.inj h
    exact mG.vret dX4_readName_34 rfl ⟨rfl, rfl, rfl⟩
  · replace h := itp c9 h
    refine mG.aload_n 0 dX4_readName_6 rfl ?_
    refine mG.get (v := .int (S.1 t 8)) dX4_readName_7 mfX4_135 ht rfl ?_
    refine mG.if_eq 18 dX4_readName_10 (by decide) (fun c8 => ?_) (fun c8 => ?_)
    · replace h := itp c8 h
      refine mG.aload_n 0 dX4_readName_18 rfl ?_
      refine mG.get (v := .ref (t + 1)) dX4_readName_19 mfX4_12 ht (lr4_draft ht) ?_
      refine mG.sipush (v := 10000) dX4_readName_22 (by decide) ?_
      refine mG.iload_n 1 dX4_readName_25 rfl ?_
      refine mG.iadd dX4_readName_26 ?_
      obtain ⟨q3, hq3, h⟩ := bdp h
      refine mG.callV0 (as := [.int ((10000 : Int32) + a1)]) (st := []) (S2 := q3) (r := none) dX4_readName_27 mvX5_append wk18_0 rfl (lk4_draft ht) rfl (by decide) (Nat.le_of_ble_eq_true rfl) (c_X5_append (lk4_draft ht) hq3) ?_
      refine mG.aload_n 0 dX4_readName_30 rfl ?_
      obtain ⟨q4, hq4, h⟩ := bdp h
      refine mG.callV0 (as := []) (st := []) (S2 := q4) (r := none) dX4_readName_31 mvX4_advance wk16_13 rfl ht rfl (by decide) (Nat.le_of_ble_eq_true rfl) (c_X4_advance ht hq4) ?_
      obtain rfl := Option.some.inj h
      exact mG.vret dX4_readName_34 rfl ⟨rfl, rfl, rfl⟩
    · replace h := itn c8 h
      refine mG.aload_n 0 dX4_readName_13 rfl ?_
      refine mG.iconst (v := 5) dX4_readName_14 rfl ?_
      obtain ⟨q5, hq5, h⟩ := bdp h
      refine mG.callV0 (as := [.int 5]) (st := []) (S2 := q5) (r := none) dX4_readName_15 mvX4_fail wk16_5 rfl ht rfl (by decide) (Nat.le_of_ble_eq_true rfl) (c_X4_fail ht hq5) ?_
      refine mG.aload_n 0 dX4_readName_18 rfl ?_
      refine mG.get (v := .ref (t + 1)) dX4_readName_19 mfX4_12 ht (lr4_draft ht) ?_
      refine mG.sipush (v := 10000) dX4_readName_22 (by decide) ?_
      refine mG.iload_n 1 dX4_readName_25 rfl ?_
      refine mG.iadd dX4_readName_26 ?_
      obtain ⟨q6, hq6, h⟩ := bdp h
      refine mG.callV0 (as := [.int ((10000 : Int32) + a1)]) (st := []) (S2 := q6) (r := none) dX4_readName_27 mvX5_append wk18_0 rfl (lk4_draft ht) rfl (by decide) (Nat.le_of_ble_eq_true rfl) (c_X5_append (lk4_draft ht) hq6) ?_
      refine mG.aload_n 0 dX4_readName_30 rfl ?_
      obtain ⟨q7, hq7, h⟩ := bdp h
      refine mG.callV0 (as := []) (st := []) (S2 := q7) (r := none) dX4_readName_31 mvX4_advance wk16_13 rfl ht rfl (by decide) (Nat.le_of_ble_eq_true rfl) (c_X4_advance ht hq7) ?_
      obtain rfl := Option.some.inj h
      exact mG.vret dX4_readName_34 rfl ⟨rfl, rfl, rfl⟩
theorem dX4_canEnter_0 : decode cX4_canEnter 0 = .ok (.iload_n 1, 1) := by decide +kernel
theorem dX4_canEnter_1 : decode cX4_canEnter 1 = .ok (.bipush 8, 2) := by decide +kernel
theorem dX4_canEnter_3 : decode cX4_canEnter 3 = .ok (.if_icmp .lt 10, 3) := by decide +kernel
theorem dX4_canEnter_6 : decode cX4_canEnter 6 = .ok (.aload_n 0, 1) := by decide +kernel
theorem dX4_canEnter_7 : decode cX4_canEnter 7 = .ok (.iconst 3, 1) := by decide +kernel
theorem dX4_canEnter_8 : decode cX4_canEnter 8 = .ok (.invokevirtual 115, 3) := by decide +kernel
theorem dX4_canEnter_11 : decode cX4_canEnter 11 = .ok (.iconst 0, 1) := by decide +kernel
theorem dX4_canEnter_12 : decode cX4_canEnter 12 = .ok (.ireturn, 1) := by decide +kernel
theorem dX4_canEnter_13 : decode cX4_canEnter 13 = .ok (.aload_n 0, 1) := by decide +kernel
theorem dX4_canEnter_14 : decode cX4_canEnter 14 = .ok (.invokevirtual 59, 3) := by decide +kernel
theorem dX4_canEnter_17 : decode cX4_canEnter 17 = .ok (.iconst 1, 1) := by decide +kernel
theorem dX4_canEnter_18 : decode cX4_canEnter 18 = .ok (.ireturn, 1) := by decide +kernel
def f_X4_canEnter (F : Nat) (S : mS) (t : Nat) (a1 : Int32) : Option (mS × Bool) := if a1 < (8 : Int32) then (bd (f_X4_advance F S t) fun q1 => some (q1, true)) else (bd (f_X4_fail F S t (3 : Int32)) fun q2 => some (q2, false))
set_option maxHeartbeats 4000000 in
set_option maxRecDepth 100000 in
theorem c_X4_canEnter {F : Nat} {S : mS} {t : Nat} {a1 : Int32} {R : mS × Bool} (ht : kd0 t = 4) (h : f_X4_canEnter F S t a1 = some R) : mCt μX4_canEnter 2 0 0 E0 S [.ref (t), .int (a1)] (mQe R.1 (some (.int (bI R.2)))) := by
  unfold f_X4_canEnter at h
  refine mCt.of (by decide) (Nat.le_of_ble_eq_true rfl) ?_
  intro x
  refine mG.iload_n 1 dX4_canEnter_0 rfl ?_
  refine mG.bipush (v := 8) dX4_canEnter_1 (by decide) ?_
  refine mG.icmp_lt 13 dX4_canEnter_3 (by decide) (fun c3 => ?_) (fun c3 => ?_)
  · replace h := itp c3 h
    refine mG.aload_n 0 dX4_canEnter_13 rfl ?_
    obtain ⟨q1, hq1, h⟩ := bdp h
    refine mG.callV0 (as := []) (st := []) (S2 := q1) (r := none) dX4_canEnter_14 mvX4_advance wk16_13 rfl ht rfl (by decide) (Nat.le_of_ble_eq_true rfl) (c_X4_advance ht hq1) ?_
    refine mG.iconst (v := 1) dX4_canEnter_17 rfl ?_
    obtain rfl := Option.some.inj h
    exact mG.zret (b := true) dX4_canEnter_18 rfl rfl ⟨rfl, rfl, rfl⟩
  · replace h := itn c3 h
    refine mG.aload_n 0 dX4_canEnter_6 rfl ?_
    refine mG.iconst (v := 3) dX4_canEnter_7 rfl ?_
    obtain ⟨q2, hq2, h⟩ := bdp h
    refine mG.callV0 (as := [.int 3]) (st := []) (S2 := q2) (r := none) dX4_canEnter_8 mvX4_fail wk16_5 rfl ht rfl (by decide) (Nat.le_of_ble_eq_true rfl) (c_X4_fail ht hq2) ?_
    refine mG.iconst (v := 0) dX4_canEnter_11 rfl ?_
    obtain rfl := Option.some.inj h
    exact mG.zret (b := false) dX4_canEnter_12 rfl rfl ⟨rfl, rfl, rfl⟩
theorem dX4_readProduct_0 : decode cX4_readProduct 0 = .ok (.aload_n 0, 1) := by decide +kernel
theorem dX4_readProduct_1 : decode cX4_readProduct 1 = .ok (.iload_n 1, 1) := by decide +kernel
theorem dX4_readProduct_2 : decode cX4_readProduct 2 = .ok (.invokevirtual 169, 3) := by decide +kernel
theorem dX4_readProduct_5 : decode cX4_readProduct 5 = .ok (.iconst 0, 1) := by decide +kernel
theorem dX4_readProduct_6 : decode cX4_readProduct 6 = .ok (.istore_n 2, 1) := by decide +kernel
theorem dX4_readProduct_7 : decode cX4_readProduct 7 = .ok (.iload_n 2, 1) := by decide +kernel
theorem dX4_readProduct_8 : decode cX4_readProduct 8 = .ok (.sipush 300, 3) := by decide +kernel
theorem dX4_readProduct_11 : decode cX4_readProduct 11 = .ok (.if_icmp .ge 46, 3) := by decide +kernel
theorem dX4_readProduct_14 : decode cX4_readProduct 14 = .ok (.aload_n 0, 1) := by decide +kernel
theorem dX4_readProduct_15 : decode cX4_readProduct 15 = .ok (.invokevirtual 51, 3) := by decide +kernel
theorem dX4_readProduct_18 : decode cX4_readProduct 18 = .ok (.bipush 9, 2) := by decide +kernel
theorem dX4_readProduct_20 : decode cX4_readProduct 20 = .ok (.if_icmp .eq 12, 3) := by decide +kernel
theorem dX4_readProduct_23 : decode cX4_readProduct 23 = .ok (.aload_n 0, 1) := by decide +kernel
theorem dX4_readProduct_24 : decode cX4_readProduct 24 = .ok (.invokevirtual 51, 3) := by decide +kernel
theorem dX4_readProduct_27 : decode cX4_readProduct 27 = .ok (.bipush 10, 2) := by decide +kernel
theorem dX4_readProduct_29 : decode cX4_readProduct 29 = .ok (.if_icmp .ne 28, 3) := by decide +kernel
theorem dX4_readProduct_32 : decode cX4_readProduct 32 = .ok (.aload_n 0, 1) := by decide +kernel
theorem dX4_readProduct_33 : decode cX4_readProduct 33 = .ok (.invokevirtual 51, 3) := by decide +kernel
theorem dX4_readProduct_36 : decode cX4_readProduct 36 = .ok (.istore_n 3, 1) := by decide +kernel
theorem dX4_readProduct_37 : decode cX4_readProduct 37 = .ok (.aload_n 0, 1) := by decide +kernel
theorem dX4_readProduct_38 : decode cX4_readProduct 38 = .ok (.invokevirtual 59, 3) := by decide +kernel
theorem dX4_readProduct_41 : decode cX4_readProduct 41 = .ok (.aload_n 0, 1) := by decide +kernel
theorem dX4_readProduct_42 : decode cX4_readProduct 42 = .ok (.iload_n 1, 1) := by decide +kernel
theorem dX4_readProduct_43 : decode cX4_readProduct 43 = .ok (.invokevirtual 169, 3) := by decide +kernel
theorem dX4_readProduct_46 : decode cX4_readProduct 46 = .ok (.aload_n 0, 1) := by decide +kernel
theorem dX4_readProduct_47 : decode cX4_readProduct 47 = .ok (.iload_n 3, 1) := by decide +kernel
theorem dX4_readProduct_48 : decode cX4_readProduct 48 = .ok (.invokevirtual 157, 3) := by decide +kernel
theorem dX4_readProduct_51 : decode cX4_readProduct 51 = .ok (.iinc 2 1, 3) := by decide +kernel
theorem dX4_readProduct_54 : decode cX4_readProduct 54 = .ok (.goto (-47), 3) := by decide +kernel
theorem dX4_readProduct_57 : decode cX4_readProduct 57 = .ok (.return_, 1) := by decide +kernel
def lX4_readProduct_32 (rX4_readOne : mS → Nat → Int32 → Option mS) (F : Nat) (K7 : mS → Int32 → Option mS) (t : Nat) (a1 : Int32) (S : mS) (v2 : Int32) : Option mS := bd (f_X4_kind F S t) fun q1 => bd (f_X4_advance F S t) fun q2 => bd (rX4_readOne q2 t a1) fun q3 => bd (f_X4_emit F q3 t q1) fun q4 => K7 q4 (v2 + 1)
set_option maxHeartbeats 4000000 in
set_option maxRecDepth 100000 in
theorem gX4_readProduct_32 {x : mX} {D0 D : Nat} (hD : D0 + 1 ≤ D) (hD2 : 3 ≤ D) {rX4_readOne : mS → Nat → Int32 → Option mS} {F : Nat} {t : Nat} {a1 : Int32} {K7 : mS → Int32 → Option mS} {R : mS} (hrX4_readOne : ∀ {S : mS} {t : Nat} {a1 : Int32} {R : mS}, kd0 t = 4 → rX4_readOne S t a1 = some R → mCt μX4_readOne D0 0 0 E0 S [.ref t, .int a1] (mQe R none)) (ht : kd0 t = 4) (hK7 : ∀ (S : mS) (v2 : Int32) , K7 S v2 = some R → mG x μX4_readProduct D 0 0 (mQe R none) 0 0 E0 S 7 [(0, .ref (t)), (1, .int (a1)), (2, .int (v2))] []) (S : mS) (v2 : Int32)  (h : lX4_readProduct_32 rX4_readOne F K7 t a1 S v2 = some R) : mG x μX4_readProduct D 0 0 (mQe R none) 0 0 E0 S 32 [(0, .ref (t)), (1, .int (a1)), (2, .int (v2))] [] := by
  unfold lX4_readProduct_32 at h
  refine mG.aload_n 0 dX4_readProduct_32 rfl ?_
  obtain ⟨q1, hq1, h⟩ := bdp h
  refine mG.callV0 (as := []) (st := []) (S2 := S) (r := some (.int (q1))) dX4_readProduct_33 mvX4_kind wk15_17 rfl ht rfl (by omega) (Nat.le_of_ble_eq_true rfl) (c_X4_kind ht hq1) ?_
  refine mG.istore_n (lv2 := [(3, .int (q1)), (0, .ref (t)), (1, .int (a1)), (2, .int (v2))]) dX4_readProduct_36 rfl (by decide) rfl ?_
  refine mG.aload_n 1 dX4_readProduct_37 rfl ?_
  obtain ⟨q2, hq2, h⟩ := bdp h
  refine mG.callV0 (as := []) (st := []) (S2 := q2) (r := none) dX4_readProduct_38 mvX4_advance wk16_13 rfl ht rfl (by omega) (Nat.le_of_ble_eq_true rfl) (c_X4_advance ht hq2) ?_
  refine mG.aload_n 1 dX4_readProduct_41 rfl ?_
  refine mG.iload_n 2 dX4_readProduct_42 rfl ?_
  obtain ⟨q3, hq3, h⟩ := bdp h
  refine mG.callV0 (as := [.int (a1)]) (st := []) (S2 := q3) (r := none) dX4_readProduct_43 mvX4_readOne wk18_9 rfl ht rfl (by omega) (Nat.le_of_ble_eq_true rfl) (hrX4_readOne ht hq3) ?_
  refine mG.aload_n 1 dX4_readProduct_46 rfl ?_
  refine mG.iload_n 0 dX4_readProduct_47 rfl ?_
  obtain ⟨q4, hq4, h⟩ := bdp h
  refine mG.callV0 (as := [.int (q1)]) (st := []) (S2 := q4) (r := none) dX4_readProduct_48 mvX4_emit wk17_20 rfl ht rfl (by omega) (Nat.le_of_ble_eq_true rfl) (c_X4_emit ht hq4) ?_
  refine mG.iinc 3 (u := v2 + 1) (lv2 := [(2, .int (v2 + 1)), (3, .int (q1)), (0, .ref (t)), (1, .int (a1))]) dX4_readProduct_51 rfl rfl (by decide) rfl ?_
  refine mG.goto 7 dX4_readProduct_54 (by decide) ?_
  refine mG.sub (lv2 := [(0, .ref (t)), (1, .int (a1)), (2, .int (v2 + 1))]) [2, 3, 0] rfl ?_
  exact hK7 q4 (v2 + 1)  h
def lX4_readProduct_7 (rX4_readOne : mS → Nat → Int32 → Option mS) (F : Nat)  (t : Nat) (a1 : Int32) : Nat → mS → Int32 → Option mS
  | 0, _, _ => none
  | n + 1, S, v2 => if (300 : Int32) ≤ v2 then (some S) else (bd (f_X4_kind F S t) fun q1 => if q1 = (9 : Int32) then (lX4_readProduct_32 rX4_readOne F (fun (S : mS) (v2 : Int32) => lX4_readProduct_7 rX4_readOne F  t a1 n S v2) t a1 S v2) else (bd (f_X4_kind F S t) fun q2 => if q2 = (10 : Int32) then (lX4_readProduct_32 rX4_readOne F (fun (S : mS) (v2 : Int32) => lX4_readProduct_7 rX4_readOne F  t a1 n S v2) t a1 S v2) else (some S)))
set_option maxHeartbeats 4000000 in
set_option maxRecDepth 100000 in
theorem gX4_readProduct_7 {x : mX} {D0 D : Nat} (hD : D0 + 1 ≤ D) (hD2 : 3 ≤ D) {rX4_readOne : mS → Nat → Int32 → Option mS} {F : Nat} {t : Nat} {a1 : Int32}   {R : mS} (hrX4_readOne : ∀ {S : mS} {t : Nat} {a1 : Int32} {R : mS}, kd0 t = 4 → rX4_readOne S t a1 = some R → mCt μX4_readOne D0 0 0 E0 S [.ref t, .int a1] (mQe R none)) (ht : kd0 t = 4)  : ∀ (n : Nat) (S : mS) (v2 : Int32), lX4_readProduct_7 rX4_readOne F  t a1 n S v2 = some R → mG x μX4_readProduct D 0 0 (mQe R none) 0 0 E0 S 7 [(0, .ref (t)), (1, .int (a1)), (2, .int (v2))] [] := by
  intro n
  induction n with
  | zero =>
    intro S v2 h
    cases h
  | succ n ih =>
    intro S v2 h
    unfold lX4_readProduct_7 at h
    refine mG.iload_n 2 dX4_readProduct_7 rfl ?_
    refine mG.sipush (v := 300) dX4_readProduct_8 (by decide) ?_
    refine mG.icmp_ge 57 dX4_readProduct_11 (by decide) (fun c5 => ?_) (fun c5 => ?_)
    · replace h := itp c5 h
      obtain rfl := Option.some.inj h
      exact mG.vret dX4_readProduct_57 rfl ⟨rfl, rfl, rfl⟩
    · replace h := itn c5 h
      refine mG.aload_n 0 dX4_readProduct_14 rfl ?_
      obtain ⟨q1, hq1, h⟩ := bdp h
      refine mG.callV0 (as := []) (st := []) (S2 := S) (r := some (.int (q1))) dX4_readProduct_15 mvX4_kind wk15_17 rfl ht rfl (by omega) (Nat.le_of_ble_eq_true rfl) (c_X4_kind ht hq1) ?_
      refine mG.bipush (v := 9) dX4_readProduct_18 (by decide) ?_
      refine mG.icmp_eq 32 dX4_readProduct_20 (by decide) (fun c4 => ?_) (fun c4 => ?_)
      · replace h := itp c4 h
        refine mG.sub (lv2 := [(0, .ref (t)), (1, .int (a1)), (2, .int (v2))]) [0, 1, 2] rfl ?_
        exact gX4_readProduct_32 hD hD2 hrX4_readOne ht (fun S v2 h => by exact ih S v2  h)  S v2  h
      · replace h := itn c4 h
        refine mG.aload_n 0 dX4_readProduct_23 rfl ?_
        obtain ⟨q2, hq2, h⟩ := bdp h
        refine mG.callV0 (as := []) (st := []) (S2 := S) (r := some (.int (q2))) dX4_readProduct_24 mvX4_kind wk15_17 rfl ht rfl (by omega) (Nat.le_of_ble_eq_true rfl) (c_X4_kind ht hq2) ?_
        refine mG.bipush (v := 10) dX4_readProduct_27 (by decide) ?_
        refine mG.icmp_ne 57 dX4_readProduct_29 (by decide) (fun c3 => ?_) (fun c3 => ?_)
        · replace h := itn c3 h
          obtain rfl := Option.some.inj h
          exact mG.vret dX4_readProduct_57 rfl ⟨rfl, rfl, rfl⟩
        · replace h := itp c3 h
          refine mG.sub (lv2 := [(0, .ref (t)), (1, .int (a1)), (2, .int (v2))]) [0, 1, 2] rfl ?_
          exact gX4_readProduct_32 hD hD2 hrX4_readOne ht (fun S v2 h => by exact ih S v2  h)  S v2  h
def b_X4_readProduct (rX4_readOne : mS → Nat → Int32 → Option mS) (F : Nat) (S : mS) (t : Nat) (a1 : Int32) : Option mS := bd (rX4_readOne S t a1) fun q1 => lX4_readProduct_7 rX4_readOne F  t a1 F q1 (0 : Int32)
set_option maxHeartbeats 4000000 in
set_option maxRecDepth 100000 in
theorem cb_X4_readProduct {D0 D : Nat} (hD : D0 + 1 ≤ D) (hD2 : 3 ≤ D) {rX4_readOne : mS → Nat → Int32 → Option mS} {F : Nat} {S : mS} {t : Nat} {a1 : Int32} {R : mS} (hrX4_readOne : ∀ {S : mS} {t : Nat} {a1 : Int32} {R : mS}, kd0 t = 4 → rX4_readOne S t a1 = some R → mCt μX4_readOne D0 0 0 E0 S [.ref t, .int a1] (mQe R none)) (ht : kd0 t = 4) (h : b_X4_readProduct rX4_readOne F S t a1 = some R) : mCt μX4_readProduct D 0 0 E0 S [.ref (t), .int (a1)] (mQe R none) := by
  unfold b_X4_readProduct at h
  refine mCt.of (by decide) (Nat.le_of_ble_eq_true rfl) ?_
  intro x
  refine mG.aload_n 0 dX4_readProduct_0 rfl ?_
  refine mG.iload_n 1 dX4_readProduct_1 rfl ?_
  obtain ⟨q1, hq1, h⟩ := bdp h
  refine mG.callV0 (as := [.int (a1)]) (st := []) (S2 := q1) (r := none) dX4_readProduct_2 mvX4_readOne wk18_9 rfl ht rfl (by omega) (Nat.le_of_ble_eq_true rfl) (hrX4_readOne ht hq1) ?_
  refine mG.iconst (v := 0) dX4_readProduct_5 rfl ?_
  refine mG.istore_n (lv2 := [(2, .int 0), (0, .ref (t)), (1, .int (a1))]) dX4_readProduct_6 rfl (by decide) rfl ?_
  refine mG.sub (lv2 := [(0, .ref (t)), (1, .int (a1)), (2, .int 0)]) [1, 2, 0] rfl ?_
  exact gX4_readProduct_7 hD hD2 hrX4_readOne ht  F q1 (0 : Int32)  h
theorem dX4_readSum_0 : decode cX4_readSum 0 = .ok (.aload_n 0, 1) := by decide +kernel
theorem dX4_readSum_1 : decode cX4_readSum 1 = .ok (.iload_n 1, 1) := by decide +kernel
theorem dX4_readSum_2 : decode cX4_readSum 2 = .ok (.invokevirtual 166, 3) := by decide +kernel
theorem dX4_readSum_5 : decode cX4_readSum 5 = .ok (.iconst 0, 1) := by decide +kernel
theorem dX4_readSum_6 : decode cX4_readSum 6 = .ok (.istore_n 2, 1) := by decide +kernel
theorem dX4_readSum_7 : decode cX4_readSum 7 = .ok (.iload_n 2, 1) := by decide +kernel
theorem dX4_readSum_8 : decode cX4_readSum 8 = .ok (.sipush 300, 3) := by decide +kernel
theorem dX4_readSum_11 : decode cX4_readSum 11 = .ok (.if_icmp .ge 46, 3) := by decide +kernel
theorem dX4_readSum_14 : decode cX4_readSum 14 = .ok (.aload_n 0, 1) := by decide +kernel
theorem dX4_readSum_15 : decode cX4_readSum 15 = .ok (.invokevirtual 51, 3) := by decide +kernel
theorem dX4_readSum_18 : decode cX4_readSum 18 = .ok (.bipush 7, 2) := by decide +kernel
theorem dX4_readSum_20 : decode cX4_readSum 20 = .ok (.if_icmp .eq 12, 3) := by decide +kernel
theorem dX4_readSum_23 : decode cX4_readSum 23 = .ok (.aload_n 0, 1) := by decide +kernel
theorem dX4_readSum_24 : decode cX4_readSum 24 = .ok (.invokevirtual 51, 3) := by decide +kernel
theorem dX4_readSum_27 : decode cX4_readSum 27 = .ok (.bipush 8, 2) := by decide +kernel
theorem dX4_readSum_29 : decode cX4_readSum 29 = .ok (.if_icmp .ne 28, 3) := by decide +kernel
theorem dX4_readSum_32 : decode cX4_readSum 32 = .ok (.aload_n 0, 1) := by decide +kernel
theorem dX4_readSum_33 : decode cX4_readSum 33 = .ok (.invokevirtual 51, 3) := by decide +kernel
theorem dX4_readSum_36 : decode cX4_readSum 36 = .ok (.istore_n 3, 1) := by decide +kernel
theorem dX4_readSum_37 : decode cX4_readSum 37 = .ok (.aload_n 0, 1) := by decide +kernel
theorem dX4_readSum_38 : decode cX4_readSum 38 = .ok (.invokevirtual 59, 3) := by decide +kernel
theorem dX4_readSum_41 : decode cX4_readSum 41 = .ok (.aload_n 0, 1) := by decide +kernel
theorem dX4_readSum_42 : decode cX4_readSum 42 = .ok (.iload_n 1, 1) := by decide +kernel
theorem dX4_readSum_43 : decode cX4_readSum 43 = .ok (.invokevirtual 166, 3) := by decide +kernel
theorem dX4_readSum_46 : decode cX4_readSum 46 = .ok (.aload_n 0, 1) := by decide +kernel
theorem dX4_readSum_47 : decode cX4_readSum 47 = .ok (.iload_n 3, 1) := by decide +kernel
theorem dX4_readSum_48 : decode cX4_readSum 48 = .ok (.invokevirtual 157, 3) := by decide +kernel
theorem dX4_readSum_51 : decode cX4_readSum 51 = .ok (.iinc 2 1, 3) := by decide +kernel
theorem dX4_readSum_54 : decode cX4_readSum 54 = .ok (.goto (-47), 3) := by decide +kernel
theorem dX4_readSum_57 : decode cX4_readSum 57 = .ok (.return_, 1) := by decide +kernel
def lX4_readSum_32 (rX4_readProduct : mS → Nat → Int32 → Option mS) (F : Nat) (K7 : mS → Int32 → Option mS) (t : Nat) (a1 : Int32) (S : mS) (v2 : Int32) : Option mS := bd (f_X4_kind F S t) fun q1 => bd (f_X4_advance F S t) fun q2 => bd (rX4_readProduct q2 t a1) fun q3 => bd (f_X4_emit F q3 t q1) fun q4 => K7 q4 (v2 + 1)
set_option maxHeartbeats 4000000 in
set_option maxRecDepth 100000 in
theorem gX4_readSum_32 {x : mX} {D0 D : Nat} (hD : D0 + 1 ≤ D) (hD2 : 3 ≤ D) {rX4_readProduct : mS → Nat → Int32 → Option mS} {F : Nat} {t : Nat} {a1 : Int32} {K7 : mS → Int32 → Option mS} {R : mS} (hrX4_readProduct : ∀ {S : mS} {t : Nat} {a1 : Int32} {R : mS}, kd0 t = 4 → rX4_readProduct S t a1 = some R → mCt μX4_readProduct D0 0 0 E0 S [.ref t, .int a1] (mQe R none)) (ht : kd0 t = 4) (hK7 : ∀ (S : mS) (v2 : Int32) , K7 S v2 = some R → mG x μX4_readSum D 0 0 (mQe R none) 0 0 E0 S 7 [(0, .ref (t)), (1, .int (a1)), (2, .int (v2))] []) (S : mS) (v2 : Int32)  (h : lX4_readSum_32 rX4_readProduct F K7 t a1 S v2 = some R) : mG x μX4_readSum D 0 0 (mQe R none) 0 0 E0 S 32 [(0, .ref (t)), (1, .int (a1)), (2, .int (v2))] [] := by
  unfold lX4_readSum_32 at h
  refine mG.aload_n 0 dX4_readSum_32 rfl ?_
  obtain ⟨q1, hq1, h⟩ := bdp h
  refine mG.callV0 (as := []) (st := []) (S2 := S) (r := some (.int (q1))) dX4_readSum_33 mvX4_kind wk15_17 rfl ht rfl (by omega) (Nat.le_of_ble_eq_true rfl) (c_X4_kind ht hq1) ?_
  refine mG.istore_n (lv2 := [(3, .int (q1)), (0, .ref (t)), (1, .int (a1)), (2, .int (v2))]) dX4_readSum_36 rfl (by decide) rfl ?_
  refine mG.aload_n 1 dX4_readSum_37 rfl ?_
  obtain ⟨q2, hq2, h⟩ := bdp h
  refine mG.callV0 (as := []) (st := []) (S2 := q2) (r := none) dX4_readSum_38 mvX4_advance wk16_13 rfl ht rfl (by omega) (Nat.le_of_ble_eq_true rfl) (c_X4_advance ht hq2) ?_
  refine mG.aload_n 1 dX4_readSum_41 rfl ?_
  refine mG.iload_n 2 dX4_readSum_42 rfl ?_
  obtain ⟨q3, hq3, h⟩ := bdp h
  refine mG.callV0 (as := [.int (a1)]) (st := []) (S2 := q3) (r := none) dX4_readSum_43 mvX4_readProduct wk17_17 rfl ht rfl (by omega) (Nat.le_of_ble_eq_true rfl) (hrX4_readProduct ht hq3) ?_
  refine mG.aload_n 1 dX4_readSum_46 rfl ?_
  refine mG.iload_n 0 dX4_readSum_47 rfl ?_
  obtain ⟨q4, hq4, h⟩ := bdp h
  refine mG.callV0 (as := [.int (q1)]) (st := []) (S2 := q4) (r := none) dX4_readSum_48 mvX4_emit wk17_20 rfl ht rfl (by omega) (Nat.le_of_ble_eq_true rfl) (c_X4_emit ht hq4) ?_
  refine mG.iinc 3 (u := v2 + 1) (lv2 := [(2, .int (v2 + 1)), (3, .int (q1)), (0, .ref (t)), (1, .int (a1))]) dX4_readSum_51 rfl rfl (by decide) rfl ?_
  refine mG.goto 7 dX4_readSum_54 (by decide) ?_
  refine mG.sub (lv2 := [(0, .ref (t)), (1, .int (a1)), (2, .int (v2 + 1))]) [2, 3, 0] rfl ?_
  exact hK7 q4 (v2 + 1)  h
def lX4_readSum_7 (rX4_readProduct : mS → Nat → Int32 → Option mS) (F : Nat)  (t : Nat) (a1 : Int32) : Nat → mS → Int32 → Option mS
  | 0, _, _ => none
  | n + 1, S, v2 => if (300 : Int32) ≤ v2 then (some S) else (bd (f_X4_kind F S t) fun q1 => if q1 = (7 : Int32) then (lX4_readSum_32 rX4_readProduct F (fun (S : mS) (v2 : Int32) => lX4_readSum_7 rX4_readProduct F  t a1 n S v2) t a1 S v2) else (bd (f_X4_kind F S t) fun q2 => if q2 = (8 : Int32) then (lX4_readSum_32 rX4_readProduct F (fun (S : mS) (v2 : Int32) => lX4_readSum_7 rX4_readProduct F  t a1 n S v2) t a1 S v2) else (some S)))
set_option maxHeartbeats 4000000 in
set_option maxRecDepth 100000 in
theorem gX4_readSum_7 {x : mX} {D0 D : Nat} (hD : D0 + 1 ≤ D) (hD2 : 3 ≤ D) {rX4_readProduct : mS → Nat → Int32 → Option mS} {F : Nat} {t : Nat} {a1 : Int32}   {R : mS} (hrX4_readProduct : ∀ {S : mS} {t : Nat} {a1 : Int32} {R : mS}, kd0 t = 4 → rX4_readProduct S t a1 = some R → mCt μX4_readProduct D0 0 0 E0 S [.ref t, .int a1] (mQe R none)) (ht : kd0 t = 4)  : ∀ (n : Nat) (S : mS) (v2 : Int32), lX4_readSum_7 rX4_readProduct F  t a1 n S v2 = some R → mG x μX4_readSum D 0 0 (mQe R none) 0 0 E0 S 7 [(0, .ref (t)), (1, .int (a1)), (2, .int (v2))] [] := by
  intro n
  induction n with
  | zero =>
    intro S v2 h
    cases h
  | succ n ih =>
    intro S v2 h
    unfold lX4_readSum_7 at h
    refine mG.iload_n 2 dX4_readSum_7 rfl ?_
    refine mG.sipush (v := 300) dX4_readSum_8 (by decide) ?_
    refine mG.icmp_ge 57 dX4_readSum_11 (by decide) (fun c5 => ?_) (fun c5 => ?_)
    · replace h := itp c5 h
      obtain rfl := Option.some.inj h
      exact mG.vret dX4_readSum_57 rfl ⟨rfl, rfl, rfl⟩
    · replace h := itn c5 h
      refine mG.aload_n 0 dX4_readSum_14 rfl ?_
      obtain ⟨q1, hq1, h⟩ := bdp h
      refine mG.callV0 (as := []) (st := []) (S2 := S) (r := some (.int (q1))) dX4_readSum_15 mvX4_kind wk15_17 rfl ht rfl (by omega) (Nat.le_of_ble_eq_true rfl) (c_X4_kind ht hq1) ?_
      refine mG.bipush (v := 7) dX4_readSum_18 (by decide) ?_
      refine mG.icmp_eq 32 dX4_readSum_20 (by decide) (fun c4 => ?_) (fun c4 => ?_)
      · replace h := itp c4 h
        refine mG.sub (lv2 := [(0, .ref (t)), (1, .int (a1)), (2, .int (v2))]) [0, 1, 2] rfl ?_
        exact gX4_readSum_32 hD hD2 hrX4_readProduct ht (fun S v2 h => by exact ih S v2  h)  S v2  h
      · replace h := itn c4 h
        refine mG.aload_n 0 dX4_readSum_23 rfl ?_
        obtain ⟨q2, hq2, h⟩ := bdp h
        refine mG.callV0 (as := []) (st := []) (S2 := S) (r := some (.int (q2))) dX4_readSum_24 mvX4_kind wk15_17 rfl ht rfl (by omega) (Nat.le_of_ble_eq_true rfl) (c_X4_kind ht hq2) ?_
        refine mG.bipush (v := 8) dX4_readSum_27 (by decide) ?_
        refine mG.icmp_ne 57 dX4_readSum_29 (by decide) (fun c3 => ?_) (fun c3 => ?_)
        · replace h := itn c3 h
          obtain rfl := Option.some.inj h
          exact mG.vret dX4_readSum_57 rfl ⟨rfl, rfl, rfl⟩
        · replace h := itp c3 h
          refine mG.sub (lv2 := [(0, .ref (t)), (1, .int (a1)), (2, .int (v2))]) [0, 1, 2] rfl ?_
          exact gX4_readSum_32 hD hD2 hrX4_readProduct ht (fun S v2 h => by exact ih S v2  h)  S v2  h
def b_X4_readSum (rX4_readProduct : mS → Nat → Int32 → Option mS) (F : Nat) (S : mS) (t : Nat) (a1 : Int32) : Option mS := bd (rX4_readProduct S t a1) fun q1 => lX4_readSum_7 rX4_readProduct F  t a1 F q1 (0 : Int32)
set_option maxHeartbeats 4000000 in
set_option maxRecDepth 100000 in
theorem cb_X4_readSum {D0 D : Nat} (hD : D0 + 1 ≤ D) (hD2 : 3 ≤ D) {rX4_readProduct : mS → Nat → Int32 → Option mS} {F : Nat} {S : mS} {t : Nat} {a1 : Int32} {R : mS} (hrX4_readProduct : ∀ {S : mS} {t : Nat} {a1 : Int32} {R : mS}, kd0 t = 4 → rX4_readProduct S t a1 = some R → mCt μX4_readProduct D0 0 0 E0 S [.ref t, .int a1] (mQe R none)) (ht : kd0 t = 4) (h : b_X4_readSum rX4_readProduct F S t a1 = some R) : mCt μX4_readSum D 0 0 E0 S [.ref (t), .int (a1)] (mQe R none) := by
  unfold b_X4_readSum at h
  refine mCt.of (by decide) (Nat.le_of_ble_eq_true rfl) ?_
  intro x
  refine mG.aload_n 0 dX4_readSum_0 rfl ?_
  refine mG.iload_n 1 dX4_readSum_1 rfl ?_
  obtain ⟨q1, hq1, h⟩ := bdp h
  refine mG.callV0 (as := [.int (a1)]) (st := []) (S2 := q1) (r := none) dX4_readSum_2 mvX4_readProduct wk17_17 rfl ht rfl (by omega) (Nat.le_of_ble_eq_true rfl) (hrX4_readProduct ht hq1) ?_
  refine mG.iconst (v := 0) dX4_readSum_5 rfl ?_
  refine mG.istore_n (lv2 := [(2, .int 0), (0, .ref (t)), (1, .int (a1))]) dX4_readSum_6 rfl (by decide) rfl ?_
  refine mG.sub (lv2 := [(0, .ref (t)), (1, .int (a1)), (2, .int 0)]) [1, 2, 0] rfl ?_
  exact gX4_readSum_7 hD hD2 hrX4_readProduct ht  F q1 (0 : Int32)  h
theorem dX4_readEntered_0 : decode cX4_readEntered 0 = .ok (.iload_n 1, 1) := by decide +kernel
theorem dX4_readEntered_1 : decode cX4_readEntered 1 = .ok (.bipush 11, 2) := by decide +kernel
theorem dX4_readEntered_3 : decode cX4_readEntered 3 = .ok (.if_icmp .ne 17, 3) := by decide +kernel
theorem dX4_readEntered_6 : decode cX4_readEntered 6 = .ok (.aload_n 0, 1) := by decide +kernel
theorem dX4_readEntered_7 : decode cX4_readEntered 7 = .ok (.iload_n 2, 1) := by decide +kernel
theorem dX4_readEntered_8 : decode cX4_readEntered 8 = .ok (.invokevirtual 148, 3) := by decide +kernel
theorem dX4_readEntered_11 : decode cX4_readEntered 11 = .ok (.aload_n 0, 1) := by decide +kernel
theorem dX4_readEntered_12 : decode cX4_readEntered 12 = .ok (.bipush 12, 2) := by decide +kernel
theorem dX4_readEntered_14 : decode cX4_readEntered 14 = .ok (.invokevirtual 72, 3) := by decide +kernel
theorem dX4_readEntered_17 : decode cX4_readEntered 17 = .ok (.goto 45, 3) := by decide +kernel
theorem dX4_readEntered_20 : decode cX4_readEntered 20 = .ok (.iload_n 1, 1) := by decide +kernel
theorem dX4_readEntered_21 : decode cX4_readEntered 21 = .ok (.bipush 8, 2) := by decide +kernel
theorem dX4_readEntered_23 : decode cX4_readEntered 23 = .ok (.if_icmp .ne 17, 3) := by decide +kernel
theorem dX4_readEntered_26 : decode cX4_readEntered 26 = .ok (.aload_n 0, 1) := by decide +kernel
theorem dX4_readEntered_27 : decode cX4_readEntered 27 = .ok (.iload_n 2, 1) := by decide +kernel
theorem dX4_readEntered_28 : decode cX4_readEntered 28 = .ok (.invokevirtual 169, 3) := by decide +kernel
theorem dX4_readEntered_31 : decode cX4_readEntered 31 = .ok (.aload_n 0, 1) := by decide +kernel
theorem dX4_readEntered_32 : decode cX4_readEntered 32 = .ok (.bipush 38, 2) := by decide +kernel
theorem dX4_readEntered_34 : decode cX4_readEntered 34 = .ok (.invokevirtual 157, 3) := by decide +kernel
theorem dX4_readEntered_37 : decode cX4_readEntered 37 = .ok (.goto 25, 3) := by decide +kernel
theorem dX4_readEntered_40 : decode cX4_readEntered 40 = .ok (.aload_n 0, 1) := by decide +kernel
theorem dX4_readEntered_41 : decode cX4_readEntered 41 = .ok (.iload_n 2, 1) := by decide +kernel
theorem dX4_readEntered_42 : decode cX4_readEntered 42 = .ok (.invokevirtual 169, 3) := by decide +kernel
theorem dX4_readEntered_45 : decode cX4_readEntered 45 = .ok (.aload_n 0, 1) := by decide +kernel
theorem dX4_readEntered_46 : decode cX4_readEntered 46 = .ok (.bipush 32, 2) := by decide +kernel
theorem dX4_readEntered_48 : decode cX4_readEntered 48 = .ok (.invokevirtual 72, 3) := by decide +kernel
theorem dX4_readEntered_51 : decode cX4_readEntered 51 = .ok (.aload_n 0, 1) := by decide +kernel
theorem dX4_readEntered_52 : decode cX4_readEntered 52 = .ok (.iload_n 2, 1) := by decide +kernel
theorem dX4_readEntered_53 : decode cX4_readEntered 53 = .ok (.invokevirtual 169, 3) := by decide +kernel
theorem dX4_readEntered_56 : decode cX4_readEntered 56 = .ok (.aload_n 0, 1) := by decide +kernel
theorem dX4_readEntered_57 : decode cX4_readEntered 57 = .ok (.bipush 37, 2) := by decide +kernel
theorem dX4_readEntered_59 : decode cX4_readEntered 59 = .ok (.invokevirtual 157, 3) := by decide +kernel
theorem dX4_readEntered_62 : decode cX4_readEntered 62 = .ok (.return_, 1) := by decide +kernel
def b_X4_readEntered (rX4_readSum : mS → Nat → Int32 → Option mS) (rX4_readOne : mS → Nat → Int32 → Option mS) (F : Nat) (S : mS) (t : Nat) (a1 : Int32) (a2 : Int32) : Option mS := if a1 = (11 : Int32) then (bd (rX4_readSum S t a2) fun q8 => bd (f_X4_expect F q8 t (12 : Int32)) fun q9 => some q9) else (if a1 = (8 : Int32) then (bd (rX4_readOne S t a2) fun q5 => bd (f_X4_emit F q5 t (38 : Int32)) fun q6 => some q6) else (bd (rX4_readOne S t a2) fun q1 => bd (f_X4_expect F q1 t (32 : Int32)) fun q2 => bd (rX4_readOne q2 t a2) fun q3 => bd (f_X4_emit F q3 t (37 : Int32)) fun q4 => some q4))
set_option maxHeartbeats 4000000 in
set_option maxRecDepth 100000 in
theorem cb_X4_readEntered {D0 D : Nat} (hD : D0 + 1 ≤ D) (hD2 : 3 ≤ D) {rX4_readSum : mS → Nat → Int32 → Option mS} {rX4_readOne : mS → Nat → Int32 → Option mS} {F : Nat} {S : mS} {t : Nat} {a1 : Int32} {a2 : Int32} {R : mS} (hrX4_readSum : ∀ {S : mS} {t : Nat} {a1 : Int32} {R : mS}, kd0 t = 4 → rX4_readSum S t a1 = some R → mCt μX4_readSum D0 0 0 E0 S [.ref t, .int a1] (mQe R none)) (hrX4_readOne : ∀ {S : mS} {t : Nat} {a1 : Int32} {R : mS}, kd0 t = 4 → rX4_readOne S t a1 = some R → mCt μX4_readOne D0 0 0 E0 S [.ref t, .int a1] (mQe R none)) (ht : kd0 t = 4) (h : b_X4_readEntered rX4_readSum rX4_readOne F S t a1 a2 = some R) : mCt μX4_readEntered D 0 0 E0 S [.ref (t), .int (a1), .int (a2)] (mQe R none) := by
  unfold b_X4_readEntered at h
  refine mCt.of (by decide) (Nat.le_of_ble_eq_true rfl) ?_
  intro x
  refine mG.iload_n 1 dX4_readEntered_0 rfl ?_
  refine mG.bipush (v := 11) dX4_readEntered_1 (by decide) ?_
  refine mG.icmp_ne 20 dX4_readEntered_3 (by decide) (fun c10 => ?_) (fun c10 => ?_)
  · replace h := itn c10 h
    refine mG.iload_n 1 dX4_readEntered_20 rfl ?_
    refine mG.bipush (v := 8) dX4_readEntered_21 (by decide) ?_
    refine mG.icmp_ne 40 dX4_readEntered_23 (by decide) (fun c7 => ?_) (fun c7 => ?_)
    · replace h := itn c7 h
      refine mG.aload_n 0 dX4_readEntered_40 rfl ?_
      refine mG.iload_n 2 dX4_readEntered_41 rfl ?_
      obtain ⟨q1, hq1, h⟩ := bdp h
      refine mG.callV0 (as := [.int (a2)]) (st := []) (S2 := q1) (r := none) dX4_readEntered_42 mvX4_readOne wk18_9 rfl ht rfl (by omega) (Nat.le_of_ble_eq_true rfl) (hrX4_readOne ht hq1) ?_
      refine mG.aload_n 0 dX4_readEntered_45 rfl ?_
      refine mG.bipush (v := 32) dX4_readEntered_46 (by decide) ?_
      obtain ⟨q2, hq2, h⟩ := bdp h
      refine mG.callV0 (as := [.int 32]) (st := []) (S2 := q2) (r := none) dX4_readEntered_48 mvX4_expect wk18_5 rfl ht rfl (by omega) (Nat.le_of_ble_eq_true rfl) (c_X4_expect ht hq2) ?_
      refine mG.aload_n 0 dX4_readEntered_51 rfl ?_
      refine mG.iload_n 2 dX4_readEntered_52 rfl ?_
      obtain ⟨q3, hq3, h⟩ := bdp h
      refine mG.callV0 (as := [.int (a2)]) (st := []) (S2 := q3) (r := none) dX4_readEntered_53 mvX4_readOne wk18_9 rfl ht rfl (by omega) (Nat.le_of_ble_eq_true rfl) (hrX4_readOne ht hq3) ?_
      refine mG.aload_n 0 dX4_readEntered_56 rfl ?_
      refine mG.bipush (v := 37) dX4_readEntered_57 (by decide) ?_
      obtain ⟨q4, hq4, h⟩ := bdp h
      refine mG.callV0 (as := [.int 37]) (st := []) (S2 := q4) (r := none) dX4_readEntered_59 mvX4_emit wk17_20 rfl ht rfl (by omega) (Nat.le_of_ble_eq_true rfl) (c_X4_emit ht hq4) ?_
      obtain rfl := Option.some.inj h
      exact mG.vret dX4_readEntered_62 rfl ⟨rfl, rfl, rfl⟩
    · replace h := itp c7 h
      refine mG.aload_n 0 dX4_readEntered_26 rfl ?_
      refine mG.iload_n 2 dX4_readEntered_27 rfl ?_
      obtain ⟨q5, hq5, h⟩ := bdp h
      refine mG.callV0 (as := [.int (a2)]) (st := []) (S2 := q5) (r := none) dX4_readEntered_28 mvX4_readOne wk18_9 rfl ht rfl (by omega) (Nat.le_of_ble_eq_true rfl) (hrX4_readOne ht hq5) ?_
      refine mG.aload_n 0 dX4_readEntered_31 rfl ?_
      refine mG.bipush (v := 38) dX4_readEntered_32 (by decide) ?_
      obtain ⟨q6, hq6, h⟩ := bdp h
      refine mG.callV0 (as := [.int 38]) (st := []) (S2 := q6) (r := none) dX4_readEntered_34 mvX4_emit wk17_20 rfl ht rfl (by omega) (Nat.le_of_ble_eq_true rfl) (c_X4_emit ht hq6) ?_
      refine mG.goto 62 dX4_readEntered_37 (by decide) ?_
      obtain rfl := Option.some.inj h
      exact mG.vret dX4_readEntered_62 rfl ⟨rfl, rfl, rfl⟩
  · replace h := itp c10 h
    refine mG.aload_n 0 dX4_readEntered_6 rfl ?_
    refine mG.iload_n 2 dX4_readEntered_7 rfl ?_
    obtain ⟨q8, hq8, h⟩ := bdp h
    refine mG.callV0 (as := [.int (a2)]) (st := []) (S2 := q8) (r := none) dX4_readEntered_8 mvX4_readSum wk17_13 rfl ht rfl (by omega) (Nat.le_of_ble_eq_true rfl) (hrX4_readSum ht hq8) ?_
    refine mG.aload_n 0 dX4_readEntered_11 rfl ?_
    refine mG.bipush (v := 12) dX4_readEntered_12 (by decide) ?_
    obtain ⟨q9, hq9, h⟩ := bdp h
    refine mG.callV0 (as := [.int 12]) (st := []) (S2 := q9) (r := none) dX4_readEntered_14 mvX4_expect wk18_5 rfl ht rfl (by omega) (Nat.le_of_ble_eq_true rfl) (c_X4_expect ht hq9) ?_
    refine mG.goto 62 dX4_readEntered_17 (by decide) ?_
    obtain rfl := Option.some.inj h
    exact mG.vret dX4_readEntered_62 rfl ⟨rfl, rfl, rfl⟩
theorem dX4_readOne_0 : decode cX4_readOne 0 = .ok (.aload_n 0, 1) := by decide +kernel
theorem dX4_readOne_1 : decode cX4_readOne 1 = .ok (.invokevirtual 51, 3) := by decide +kernel
theorem dX4_readOne_4 : decode cX4_readOne 4 = .ok (.istore_n 2, 1) := by decide +kernel
theorem dX4_readOne_5 : decode cX4_readOne 5 = .ok (.iload_n 2, 1) := by decide +kernel
theorem dX4_readOne_6 : decode cX4_readOne 6 = .ok (.iconst 2, 1) := by decide +kernel
theorem dX4_readOne_7 : decode cX4_readOne 7 = .ok (.if_icmp .ne 21, 3) := by decide +kernel
theorem dX4_readOne_10 : decode cX4_readOne 10 = .ok (.aload_n 0, 1) := by decide +kernel
theorem dX4_readOne_11 : decode cX4_readOne 11 = .ok (.getfield 12, 3) := by decide +kernel
theorem dX4_readOne_14 : decode cX4_readOne 14 = .ok (.aload_n 0, 1) := by decide +kernel
theorem dX4_readOne_15 : decode cX4_readOne 15 = .ok (.iconst 0, 1) := by decide +kernel
theorem dX4_readOne_16 : decode cX4_readOne 16 = .ok (.sipush 9999, 3) := by decide +kernel
theorem dX4_readOne_19 : decode cX4_readOne 19 = .ok (.invokevirtual 128, 3) := by decide +kernel
theorem dX4_readOne_22 : decode cX4_readOne 22 = .ok (.invokevirtual 172, 3) := by decide +kernel
theorem dX4_readOne_25 : decode cX4_readOne 25 = .ok (.goto 64, 3) := by decide +kernel
theorem dX4_readOne_28 : decode cX4_readOne 28 = .ok (.iload_n 2, 1) := by decide +kernel
theorem dX4_readOne_29 : decode cX4_readOne 29 = .ok (.bipush 16, 2) := by decide +kernel
theorem dX4_readOne_31 : decode cX4_readOne 31 = .ok (.bipush 23, 2) := by decide +kernel
theorem dX4_readOne_33 : decode cX4_readOne 33 = .ok (.invokestatic 118, 3) := by decide +kernel
theorem dX4_readOne_36 : decode cX4_readOne 36 = .ok (.ifCond .eq 11, 3) := by decide +kernel
theorem dX4_readOne_39 : decode cX4_readOne 39 = .ok (.aload_n 0, 1) := by decide +kernel
theorem dX4_readOne_40 : decode cX4_readOne 40 = .ok (.iload_n 2, 1) := by decide +kernel
theorem dX4_readOne_41 : decode cX4_readOne 41 = .ok (.invokevirtual 175, 3) := by decide +kernel
theorem dX4_readOne_44 : decode cX4_readOne 44 = .ok (.goto 45, 3) := by decide +kernel
theorem dX4_readOne_47 : decode cX4_readOne 47 = .ok (.iload_n 2, 1) := by decide +kernel
theorem dX4_readOne_48 : decode cX4_readOne 48 = .ok (.bipush 11, 2) := by decide +kernel
theorem dX4_readOne_50 : decode cX4_readOne 50 = .ok (.if_icmp .eq 23, 3) := by decide +kernel
theorem dX4_readOne_53 : decode cX4_readOne 53 = .ok (.iload_n 2, 1) := by decide +kernel
theorem dX4_readOne_54 : decode cX4_readOne 54 = .ok (.bipush 8, 2) := by decide +kernel
theorem dX4_readOne_56 : decode cX4_readOne 56 = .ok (.if_icmp .eq 17, 3) := by decide +kernel
theorem dX4_readOne_59 : decode cX4_readOne 59 = .ok (.iload_n 2, 1) := by decide +kernel
theorem dX4_readOne_60 : decode cX4_readOne 60 = .ok (.bipush 37, 2) := by decide +kernel
theorem dX4_readOne_62 : decode cX4_readOne 62 = .ok (.if_icmp .eq 11, 3) := by decide +kernel
theorem dX4_readOne_65 : decode cX4_readOne 65 = .ok (.aload_n 0, 1) := by decide +kernel
theorem dX4_readOne_66 : decode cX4_readOne 66 = .ok (.iconst 1, 1) := by decide +kernel
theorem dX4_readOne_67 : decode cX4_readOne 67 = .ok (.invokevirtual 115, 3) := by decide +kernel
theorem dX4_readOne_70 : decode cX4_readOne 70 = .ok (.goto 19, 3) := by decide +kernel
theorem dX4_readOne_73 : decode cX4_readOne 73 = .ok (.aload_n 0, 1) := by decide +kernel
theorem dX4_readOne_74 : decode cX4_readOne 74 = .ok (.iload_n 1, 1) := by decide +kernel
theorem dX4_readOne_75 : decode cX4_readOne 75 = .ok (.invokevirtual 160, 3) := by decide +kernel
theorem dX4_readOne_78 : decode cX4_readOne 78 = .ok (.ifCond .eq 11, 3) := by decide +kernel
theorem dX4_readOne_81 : decode cX4_readOne 81 = .ok (.aload_n 0, 1) := by decide +kernel
theorem dX4_readOne_82 : decode cX4_readOne 82 = .ok (.iload_n 2, 1) := by decide +kernel
theorem dX4_readOne_83 : decode cX4_readOne 83 = .ok (.iload_n 1, 1) := by decide +kernel
theorem dX4_readOne_84 : decode cX4_readOne 84 = .ok (.iconst 1, 1) := by decide +kernel
theorem dX4_readOne_85 : decode cX4_readOne 85 = .ok (.iadd, 1) := by decide +kernel
theorem dX4_readOne_86 : decode cX4_readOne 86 = .ok (.invokevirtual 178, 3) := by decide +kernel
theorem dX4_readOne_89 : decode cX4_readOne 89 = .ok (.return_, 1) := by decide +kernel
def b_X4_readOne (rX4_readEntered : mS → Nat → Int32 → Int32 → Option mS) (F : Nat) (S : mS) (t : Nat) (a1 : Int32) : Option mS := bd (f_X4_kind F S t) fun q1 => if q1 = (2 : Int32) then (bd (f_X4_expectNumber F S t (0 : Int32) (9999 : Int32)) fun q17 => bd (f_X5_append F q17.1 (t + 1) q17.2) fun q18 => some q18) else (if (f_X8_isWithin S q1 (16 : Int32) (23 : Int32)) = true then (bd (f_X4_readName F S t q1) fun q15 => some q15) else (if q1 = (11 : Int32) then (bd (f_X4_canEnter F S t a1) fun q2 => if q2.2 = true then (bd (rX4_readEntered q2.1 t q1 (a1 + (1 : Int32))) fun q3 => some q3) else (some q2.1)) else (if q1 = (8 : Int32) then (bd (f_X4_canEnter F S t a1) fun q5 => if q5.2 = true then (bd (rX4_readEntered q5.1 t q1 (a1 + (1 : Int32))) fun q6 => some q6) else (some q5.1)) else (if q1 = (37 : Int32) then (bd (f_X4_canEnter F S t a1) fun q8 => if q8.2 = true then (bd (rX4_readEntered q8.1 t q1 (a1 + (1 : Int32))) fun q9 => some q9) else (some q8.1)) else (bd (f_X4_fail F S t (1 : Int32)) fun q11 => some q11)))))
set_option maxHeartbeats 4000000 in
set_option maxRecDepth 100000 in
theorem cb_X4_readOne {D0 D : Nat} (hD : D0 + 1 ≤ D) (hD2 : 3 ≤ D) {rX4_readEntered : mS → Nat → Int32 → Int32 → Option mS} {F : Nat} {S : mS} {t : Nat} {a1 : Int32} {R : mS} (hrX4_readEntered : ∀ {S : mS} {t : Nat} {a1 : Int32} {a2 : Int32} {R : mS}, kd0 t = 4 → rX4_readEntered S t a1 a2 = some R → mCt μX4_readEntered D0 0 0 E0 S [.ref t, .int a1, .int a2] (mQe R none)) (ht : kd0 t = 4) (h : b_X4_readOne rX4_readEntered F S t a1 = some R) : mCt μX4_readOne D 0 0 E0 S [.ref (t), .int (a1)] (mQe R none) := by
  unfold b_X4_readOne at h
  refine mCt.of (by decide) (Nat.le_of_ble_eq_true rfl) ?_
  intro x
  refine mG.aload_n 0 dX4_readOne_0 rfl ?_
  obtain ⟨q1, hq1, h⟩ := bdp h
  refine mG.callV0 (as := []) (st := []) (S2 := S) (r := some (.int (q1))) dX4_readOne_1 mvX4_kind wk15_17 rfl ht rfl (by omega) (Nat.le_of_ble_eq_true rfl) (c_X4_kind ht hq1) ?_
  refine mG.istore_n (lv2 := [(2, .int (q1)), (0, .ref (t)), (1, .int (a1))]) dX4_readOne_4 rfl (by decide) rfl ?_
  refine mG.iload_n 0 dX4_readOne_5 rfl ?_
  refine mG.iconst (v := 2) dX4_readOne_6 rfl ?_
  refine mG.icmp_ne 28 dX4_readOne_7 (by decide) (fun c19 => ?_) (fun c19 => ?_)
  · replace h := itn c19 h
    refine mG.iload_n 0 dX4_readOne_28 rfl ?_
    refine mG.bipush (v := 16) dX4_readOne_29 (by decide) ?_
    refine mG.bipush (v := 23) dX4_readOne_31 (by decide) ?_
    refine mG.callSN0 (as := [.int (q1), .int 16, .int 23]) (st := []) (S2 := S) (r := some (.int (bI (f_X8_isWithin S q1 (16 : Int32) (23 : Int32))))) dX4_readOne_33 mbX8_isWithin wk6_19 (List.mem_of_getElem? (i := 9) rfl) rfl rfl (by omega) (Nat.le_of_ble_eq_true rfl) (c_X8_isWithin  rfl) ?_
    refine mG.ifz_eq (b := f_X8_isWithin S q1 (16 : Int32) (23 : Int32)) 47 dX4_readOne_36 (by decide) (fun c16 => ?_) (fun c16 => ?_)
    · replace h := itn c16 h
      refine mG.iload_n 0 dX4_readOne_47 rfl ?_
      refine mG.bipush (v := 11) dX4_readOne_48 (by decide) ?_
      refine mG.icmp_eq 73 dX4_readOne_50 (by decide) (fun c14 => ?_) (fun c14 => ?_)
      · replace h := itp c14 h
        refine mG.aload_n 1 dX4_readOne_73 rfl ?_
        refine mG.iload_n 2 dX4_readOne_74 rfl ?_
        obtain ⟨q2, hq2, h⟩ := bdp h
        refine mG.callV0 (as := [.int (a1)]) (st := []) (S2 := q2.1) (r := some (.int (bI (q2.2)))) dX4_readOne_75 mvX4_canEnter wk17_9 rfl ht rfl (by omega) (Nat.le_of_ble_eq_true rfl) (c_X4_canEnter ht hq2) ?_
        refine mG.ifz_eq (b := q2.2) 89 dX4_readOne_78 (by decide) (fun c4 => ?_) (fun c4 => ?_)
        · replace h := itn c4 h
          obtain rfl := Option.some.inj h
          exact mG.vret dX4_readOne_89 rfl ⟨rfl, rfl, rfl⟩
        · replace h := itp c4 h
          refine mG.aload_n 1 dX4_readOne_81 rfl ?_
          refine mG.iload_n 0 dX4_readOne_82 rfl ?_
          refine mG.iload_n 2 dX4_readOne_83 rfl ?_
          refine mG.iconst (v := 1) dX4_readOne_84 rfl ?_
          refine mG.iadd dX4_readOne_85 ?_
          obtain ⟨q3, hq3, h⟩ := bdp h
          refine mG.callV0 (as := [.int (q1), .int (a1 + (1 : Int32))]) (st := []) (S2 := q3) (r := none) dX4_readOne_86 mvX4_readEntered wk18_21 rfl ht rfl (by omega) (Nat.le_of_ble_eq_true rfl) (hrX4_readEntered ht hq3) ?_
          obtain rfl := Option.some.inj h
          exact mG.vret dX4_readOne_89 rfl ⟨rfl, rfl, rfl⟩
      · replace h := itn c14 h
        refine mG.iload_n 0 dX4_readOne_53 rfl ?_
        refine mG.bipush (v := 8) dX4_readOne_54 (by decide) ?_
        refine mG.icmp_eq 73 dX4_readOne_56 (by decide) (fun c13 => ?_) (fun c13 => ?_)
        · replace h := itp c13 h
          refine mG.aload_n 1 dX4_readOne_73 rfl ?_
          refine mG.iload_n 2 dX4_readOne_74 rfl ?_
          obtain ⟨q5, hq5, h⟩ := bdp h
          refine mG.callV0 (as := [.int (a1)]) (st := []) (S2 := q5.1) (r := some (.int (bI (q5.2)))) dX4_readOne_75 mvX4_canEnter wk17_9 rfl ht rfl (by omega) (Nat.le_of_ble_eq_true rfl) (c_X4_canEnter ht hq5) ?_
          refine mG.ifz_eq (b := q5.2) 89 dX4_readOne_78 (by decide) (fun c7 => ?_) (fun c7 => ?_)
          · replace h := itn c7 h
            obtain rfl := Option.some.inj h
            exact mG.vret dX4_readOne_89 rfl ⟨rfl, rfl, rfl⟩
          · replace h := itp c7 h
            refine mG.aload_n 1 dX4_readOne_81 rfl ?_
            refine mG.iload_n 0 dX4_readOne_82 rfl ?_
            refine mG.iload_n 2 dX4_readOne_83 rfl ?_
            refine mG.iconst (v := 1) dX4_readOne_84 rfl ?_
            refine mG.iadd dX4_readOne_85 ?_
            obtain ⟨q6, hq6, h⟩ := bdp h
            refine mG.callV0 (as := [.int (q1), .int (a1 + (1 : Int32))]) (st := []) (S2 := q6) (r := none) dX4_readOne_86 mvX4_readEntered wk18_21 rfl ht rfl (by omega) (Nat.le_of_ble_eq_true rfl) (hrX4_readEntered ht hq6) ?_
            obtain rfl := Option.some.inj h
            exact mG.vret dX4_readOne_89 rfl ⟨rfl, rfl, rfl⟩
        · replace h := itn c13 h
          refine mG.iload_n 0 dX4_readOne_59 rfl ?_
          refine mG.bipush (v := 37) dX4_readOne_60 (by decide) ?_
          refine mG.icmp_eq 73 dX4_readOne_62 (by decide) (fun c12 => ?_) (fun c12 => ?_)
          · replace h := itp c12 h
            refine mG.aload_n 1 dX4_readOne_73 rfl ?_
            refine mG.iload_n 2 dX4_readOne_74 rfl ?_
            obtain ⟨q8, hq8, h⟩ := bdp h
            refine mG.callV0 (as := [.int (a1)]) (st := []) (S2 := q8.1) (r := some (.int (bI (q8.2)))) dX4_readOne_75 mvX4_canEnter wk17_9 rfl ht rfl (by omega) (Nat.le_of_ble_eq_true rfl) (c_X4_canEnter ht hq8) ?_
            refine mG.ifz_eq (b := q8.2) 89 dX4_readOne_78 (by decide) (fun c10 => ?_) (fun c10 => ?_)
            · replace h := itn c10 h
              obtain rfl := Option.some.inj h
              exact mG.vret dX4_readOne_89 rfl ⟨rfl, rfl, rfl⟩
            · replace h := itp c10 h
              refine mG.aload_n 1 dX4_readOne_81 rfl ?_
              refine mG.iload_n 0 dX4_readOne_82 rfl ?_
              refine mG.iload_n 2 dX4_readOne_83 rfl ?_
              refine mG.iconst (v := 1) dX4_readOne_84 rfl ?_
              refine mG.iadd dX4_readOne_85 ?_
              obtain ⟨q9, hq9, h⟩ := bdp h
              refine mG.callV0 (as := [.int (q1), .int (a1 + (1 : Int32))]) (st := []) (S2 := q9) (r := none) dX4_readOne_86 mvX4_readEntered wk18_21 rfl ht rfl (by omega) (Nat.le_of_ble_eq_true rfl) (hrX4_readEntered ht hq9) ?_
              obtain rfl := Option.some.inj h
              exact mG.vret dX4_readOne_89 rfl ⟨rfl, rfl, rfl⟩
          · replace h := itn c12 h
            refine mG.aload_n 1 dX4_readOne_65 rfl ?_
            refine mG.iconst (v := 1) dX4_readOne_66 rfl ?_
            obtain ⟨q11, hq11, h⟩ := bdp h
            refine mG.callV0 (as := [.int 1]) (st := []) (S2 := q11) (r := none) dX4_readOne_67 mvX4_fail wk16_5 rfl ht rfl (by omega) (Nat.le_of_ble_eq_true rfl) (c_X4_fail ht hq11) ?_
            refine mG.goto 89 dX4_readOne_70 (by decide) ?_
            obtain rfl := Option.some.inj h
            exact mG.vret dX4_readOne_89 rfl ⟨rfl, rfl, rfl⟩
    · replace h := itp c16 h
      refine mG.aload_n 1 dX4_readOne_39 rfl ?_
      refine mG.iload_n 0 dX4_readOne_40 rfl ?_
      obtain ⟨q15, hq15, h⟩ := bdp h
      refine mG.callV0 (as := [.int (q1)]) (st := []) (S2 := q15) (r := none) dX4_readOne_41 mvX4_readName wk18_17 rfl ht rfl (by omega) (Nat.le_of_ble_eq_true rfl) (c_X4_readName ht hq15) ?_
      refine mG.goto 89 dX4_readOne_44 (by decide) ?_
      obtain rfl := Option.some.inj h
      exact mG.vret dX4_readOne_89 rfl ⟨rfl, rfl, rfl⟩
  · replace h := itp c19 h
    refine mG.aload_n 1 dX4_readOne_10 rfl ?_
    refine mG.get (v := .ref (t + 1)) dX4_readOne_11 mfX4_12 ht (lr4_draft ht) ?_
    refine mG.aload_n 1 dX4_readOne_14 rfl ?_
    refine mG.iconst (v := 0) dX4_readOne_15 rfl ?_
    refine mG.sipush (v := 9999) dX4_readOne_16 (by decide) ?_
    obtain ⟨q17, hq17, h⟩ := bdp h
    refine mG.callV0 (as := [.int 0, .int 9999]) (st := [.ref (t + 1)]) (S2 := q17.1) (r := some (.int (q17.2))) dX4_readOne_19 mvX4_expectNumber wk18_13 rfl ht rfl (by omega) (Nat.le_of_ble_eq_true rfl) (c_X4_expectNumber ht hq17) ?_
    obtain ⟨q18, hq18, h⟩ := bdp h
    refine mG.callV0 (as := [.int (q17.2)]) (st := []) (S2 := q18) (r := none) dX4_readOne_22 mvX5_append wk18_0 rfl (lk4_draft ht) rfl (by omega) (Nat.le_of_ble_eq_true rfl) (c_X5_append (lk4_draft ht) hq18) ?_
    refine mG.goto 89 dX4_readOne_25 (by decide) ?_
    obtain rfl := Option.some.inj h
    exact mG.vret dX4_readOne_89 rfl ⟨rfl, rfl, rfl⟩
def fD_X4_readOne (F : Nat) : Nat → mS → Nat → Int32 → Option mS
  | 0 => fun _ _ _ => none
  | D + 1 => b_X4_readOne (b_X4_readEntered (b_X4_readSum (b_X4_readProduct (fD_X4_readOne F D) F) F) (fD_X4_readOne F D) F) F
def fD_X4_readProduct (F D : Nat) : mS → Nat → Int32 → Option mS := b_X4_readProduct (fD_X4_readOne F D) F
def fD_X4_readSum (F D : Nat) : mS → Nat → Int32 → Option mS := b_X4_readSum (fD_X4_readProduct F D) F
def fD_X4_readEntered (F D : Nat) : mS → Nat → Int32 → Int32 → Option mS := b_X4_readEntered (fD_X4_readSum F D) (fD_X4_readOne F D) F
theorem cR_X4_readProduct {F D : Nat} (hO : ∀ {S : mS} {t : Nat} {a1 : Int32} {R : mS}, kd0 t = 4 → fD_X4_readOne F D S t a1 = some R → mCt μX4_readOne (4 * D + 6) 0 0 E0 S [.ref t, .int a1] (mQe R none)) {S : mS} {t : Nat} {a1 : Int32} {R : mS} (ht : kd0 t = 4) (h : fD_X4_readProduct F D S t a1 = some R) : mCt μX4_readProduct (4 * D + 7) 0 0 E0 S [.ref t, .int a1] (mQe R none) := cb_X4_readProduct (D0 := 4 * D + 6) (by omega) (by omega) hO ht h
theorem cR_X4_readSum {F D : Nat} (hO : ∀ {S : mS} {t : Nat} {a1 : Int32} {R : mS}, kd0 t = 4 → fD_X4_readOne F D S t a1 = some R → mCt μX4_readOne (4 * D + 6) 0 0 E0 S [.ref t, .int a1] (mQe R none)) {S : mS} {t : Nat} {a1 : Int32} {R : mS} (ht : kd0 t = 4) (h : fD_X4_readSum F D S t a1 = some R) : mCt μX4_readSum (4 * D + 8) 0 0 E0 S [.ref t, .int a1] (mQe R none) := cb_X4_readSum (D0 := 4 * D + 7) (by omega) (by omega) (fun h1 h2 => cR_X4_readProduct hO h1 h2) ht h
theorem cR_X4_readEntered {F D : Nat} (hO : ∀ {S : mS} {t : Nat} {a1 : Int32} {R : mS}, kd0 t = 4 → fD_X4_readOne F D S t a1 = some R → mCt μX4_readOne (4 * D + 6) 0 0 E0 S [.ref t, .int a1] (mQe R none)) {S : mS} {t : Nat} {a1 a2 : Int32} {R : mS} (ht : kd0 t = 4) (h : fD_X4_readEntered F D S t a1 a2 = some R) : mCt μX4_readEntered (4 * D + 9) 0 0 E0 S [.ref t, .int a1, .int a2] (mQe R none) := cb_X4_readEntered (D0 := 4 * D + 8) (by omega) (by omega) (fun h1 h2 => cR_X4_readSum hO h1 h2) (fun h1 h2 => (hO h1 h2).mono (by omega)) ht h
theorem cD_X4_readOne {F : Nat} : ∀ (D : Nat) {S : mS} {t : Nat} {a1 : Int32} {R : mS} (ht : kd0 t = 4) (h : fD_X4_readOne F D S t a1 = some R), mCt μX4_readOne (4 * D + 6) 0 0 E0 S [.ref t, .int a1] (mQe R none)
  | 0 => fun ht h => by cases h
  | D + 1 => fun ht h => cb_X4_readOne (D0 := 4 * D + 9) (by omega) (by omega) (fun h1 h2 => cR_X4_readEntered (fun h3 h4 => cD_X4_readOne D h3 h4) h1 h2) ht h
def f_X4_readOne (F : Nat) (S : mS) (t : Nat) (a1 : Int32) : Option mS := fD_X4_readOne F 16 S t a1
theorem c_X4_readOne {F : Nat} {S : mS} {t : Nat} {a1 : Int32} {R : mS} (ht : kd0 t = 4) (h : f_X4_readOne F S t a1 = some R) : mCt μX4_readOne 70 0 0 E0 S [.ref (t), .int (a1)] (mQe R none) := cD_X4_readOne 16 ht h
def f_X4_readProduct (F : Nat) (S : mS) (t : Nat) (a1 : Int32) : Option mS := fD_X4_readProduct F 16 S t a1
theorem c_X4_readProduct {F : Nat} {S : mS} {t : Nat} {a1 : Int32} {R : mS} (ht : kd0 t = 4) (h : f_X4_readProduct F S t a1 = some R) : mCt μX4_readProduct 71 0 0 E0 S [.ref (t), .int (a1)] (mQe R none) := cR_X4_readProduct (D := 16) (fun h1 h2 => cD_X4_readOne 16 h1 h2) ht h
def f_X4_readSum (F : Nat) (S : mS) (t : Nat) (a1 : Int32) : Option mS := fD_X4_readSum F 16 S t a1
theorem c_X4_readSum {F : Nat} {S : mS} {t : Nat} {a1 : Int32} {R : mS} (ht : kd0 t = 4) (h : f_X4_readSum F S t a1 = some R) : mCt μX4_readSum 72 0 0 E0 S [.ref (t), .int (a1)] (mQe R none) := cR_X4_readSum (D := 16) (fun h1 h2 => cD_X4_readOne 16 h1 h2) ht h
def f_X4_readEntered (F : Nat) (S : mS) (t : Nat) (a1 a2 : Int32) : Option mS := fD_X4_readEntered F 16 S t a1 a2
theorem c_X4_readEntered {F : Nat} {S : mS} {t : Nat} {a1 a2 : Int32} {R : mS} (ht : kd0 t = 4) (h : f_X4_readEntered F S t a1 a2 = some R) : mCt μX4_readEntered 73 0 0 E0 S [.ref (t), .int (a1), .int (a2)] (mQe R none) := cR_X4_readEntered (D := 16) (fun h1 h2 => cD_X4_readOne 16 h1 h2) ht h
theorem dX4_isLetter_0 : decode cX4_isLetter 0 = .ok (.iload_n 0, 1) := by decide +kernel
theorem dX4_isLetter_1 : decode cX4_isLetter 1 = .ok (.bipush 97, 2) := by decide +kernel
theorem dX4_isLetter_3 : decode cX4_isLetter 3 = .ok (.if_icmp .lt 9, 3) := by decide +kernel
theorem dX4_isLetter_6 : decode cX4_isLetter 6 = .ok (.iload_n 0, 1) := by decide +kernel
theorem dX4_isLetter_7 : decode cX4_isLetter 7 = .ok (.bipush 122, 2) := by decide +kernel
theorem dX4_isLetter_9 : decode cX4_isLetter 9 = .ok (.if_icmp .le 15, 3) := by decide +kernel
theorem dX4_isLetter_12 : decode cX4_isLetter 12 = .ok (.iload_n 0, 1) := by decide +kernel
theorem dX4_isLetter_13 : decode cX4_isLetter 13 = .ok (.bipush 65, 2) := by decide +kernel
theorem dX4_isLetter_15 : decode cX4_isLetter 15 = .ok (.if_icmp .lt 13, 3) := by decide +kernel
theorem dX4_isLetter_18 : decode cX4_isLetter 18 = .ok (.iload_n 0, 1) := by decide +kernel
theorem dX4_isLetter_19 : decode cX4_isLetter 19 = .ok (.bipush 90, 2) := by decide +kernel
theorem dX4_isLetter_21 : decode cX4_isLetter 21 = .ok (.if_icmp .gt 7, 3) := by decide +kernel
theorem dX4_isLetter_24 : decode cX4_isLetter 24 = .ok (.iconst 1, 1) := by decide +kernel
theorem dX4_isLetter_25 : decode cX4_isLetter 25 = .ok (.goto 4, 3) := by decide +kernel
theorem dX4_isLetter_28 : decode cX4_isLetter 28 = .ok (.iconst 0, 1) := by decide +kernel
theorem dX4_isLetter_29 : decode cX4_isLetter 29 = .ok (.ireturn, 1) := by decide +kernel
def f_X4_isLetter (S0 : mS) (a1 : Int32) : Bool := if a1 < (97 : Int32) then (if a1 < (65 : Int32) then (false) else (if (90 : Int32) < a1 then (false) else (true))) else (if a1 ≤ (122 : Int32) then (true) else (if a1 < (65 : Int32) then (false) else (if (90 : Int32) < a1 then (false) else (true))))
set_option maxHeartbeats 4000000 in
set_option maxRecDepth 100000 in
theorem c_X4_isLetter {S0 : mS} {a1 : Int32} {R : Bool}  (h : f_X4_isLetter S0 a1 = R) : mCt μX4_isLetter 1 0 0 E0 S0 [.int (a1)] (mQe S0 (some (.int (bI R)))) := by
  unfold f_X4_isLetter at h
  refine mCt.of (by decide) (Nat.le_of_ble_eq_true rfl) ?_
  intro x
  refine mG.iload_n 0 dX4_isLetter_0 rfl ?_
  refine mG.bipush (v := 97) dX4_isLetter_1 (by decide) ?_
  refine mG.icmp_lt 12 dX4_isLetter_3 (by decide) (fun c6 => ?_) (fun c6 => ?_)
  · replace h := itp c6 h
    refine mG.iload_n 0 dX4_isLetter_12 rfl ?_
    refine mG.bipush (v := 65) dX4_isLetter_13 (by decide) ?_
    refine mG.icmp_lt 28 dX4_isLetter_15 (by decide) (fun c2 => ?_) (fun c2 => ?_)
    · replace h := itp c2 h
      refine mG.iconst (v := 0) dX4_isLetter_28 rfl ?_
      subst h
      exact mG.zret (b := false) dX4_isLetter_29 rfl rfl ⟨rfl, rfl, rfl⟩
    · replace h := itn c2 h
      refine mG.iload_n 0 dX4_isLetter_18 rfl ?_
      refine mG.bipush (v := 90) dX4_isLetter_19 (by decide) ?_
      refine mG.icmp_gt 28 dX4_isLetter_21 (by decide) (fun c1 => ?_) (fun c1 => ?_)
      · replace h := itp c1 h
        refine mG.iconst (v := 0) dX4_isLetter_28 rfl ?_
        subst h
        exact mG.zret (b := false) dX4_isLetter_29 rfl rfl ⟨rfl, rfl, rfl⟩
      · replace h := itn c1 h
        refine mG.iconst (v := 1) dX4_isLetter_24 rfl ?_
        refine mG.goto 29 dX4_isLetter_25 (by decide) ?_
        subst h
        exact mG.zret (b := true) dX4_isLetter_29 rfl rfl ⟨rfl, rfl, rfl⟩
  · replace h := itn c6 h
    refine mG.iload_n 0 dX4_isLetter_6 rfl ?_
    refine mG.bipush (v := 122) dX4_isLetter_7 (by decide) ?_
    refine mG.icmp_le 24 dX4_isLetter_9 (by decide) (fun c5 => ?_) (fun c5 => ?_)
    · replace h := itp c5 h
      refine mG.iconst (v := 1) dX4_isLetter_24 rfl ?_
      refine mG.goto 29 dX4_isLetter_25 (by decide) ?_
      subst h
      exact mG.zret (b := true) dX4_isLetter_29 rfl rfl ⟨rfl, rfl, rfl⟩
    · replace h := itn c5 h
      refine mG.iload_n 0 dX4_isLetter_12 rfl ?_
      refine mG.bipush (v := 65) dX4_isLetter_13 (by decide) ?_
      refine mG.icmp_lt 28 dX4_isLetter_15 (by decide) (fun c4 => ?_) (fun c4 => ?_)
      · replace h := itp c4 h
        refine mG.iconst (v := 0) dX4_isLetter_28 rfl ?_
        subst h
        exact mG.zret (b := false) dX4_isLetter_29 rfl rfl ⟨rfl, rfl, rfl⟩
      · replace h := itn c4 h
        refine mG.iload_n 0 dX4_isLetter_18 rfl ?_
        refine mG.bipush (v := 90) dX4_isLetter_19 (by decide) ?_
        refine mG.icmp_gt 28 dX4_isLetter_21 (by decide) (fun c3 => ?_) (fun c3 => ?_)
        · replace h := itp c3 h
          refine mG.iconst (v := 0) dX4_isLetter_28 rfl ?_
          subst h
          exact mG.zret (b := false) dX4_isLetter_29 rfl rfl ⟨rfl, rfl, rfl⟩
        · replace h := itn c3 h
          refine mG.iconst (v := 1) dX4_isLetter_24 rfl ?_
          refine mG.goto 29 dX4_isLetter_25 (by decide) ?_
          subst h
          exact mG.zret (b := true) dX4_isLetter_29 rfl rfl ⟨rfl, rfl, rfl⟩
theorem dX4_isDigit_0 : decode cX4_isDigit 0 = .ok (.iload_n 0, 1) := by decide +kernel
theorem dX4_isDigit_1 : decode cX4_isDigit 1 = .ok (.bipush 48, 2) := by decide +kernel
theorem dX4_isDigit_3 : decode cX4_isDigit 3 = .ok (.if_icmp .lt 13, 3) := by decide +kernel
theorem dX4_isDigit_6 : decode cX4_isDigit 6 = .ok (.iload_n 0, 1) := by decide +kernel
theorem dX4_isDigit_7 : decode cX4_isDigit 7 = .ok (.bipush 57, 2) := by decide +kernel
theorem dX4_isDigit_9 : decode cX4_isDigit 9 = .ok (.if_icmp .gt 7, 3) := by decide +kernel
theorem dX4_isDigit_12 : decode cX4_isDigit 12 = .ok (.iconst 1, 1) := by decide +kernel
theorem dX4_isDigit_13 : decode cX4_isDigit 13 = .ok (.goto 4, 3) := by decide +kernel
theorem dX4_isDigit_16 : decode cX4_isDigit 16 = .ok (.iconst 0, 1) := by decide +kernel
theorem dX4_isDigit_17 : decode cX4_isDigit 17 = .ok (.ireturn, 1) := by decide +kernel
def f_X4_isDigit (S0 : mS) (a1 : Int32) : Bool := if a1 < (48 : Int32) then (false) else (if (57 : Int32) < a1 then (false) else (true))
set_option maxHeartbeats 4000000 in
set_option maxRecDepth 100000 in
theorem c_X4_isDigit {S0 : mS} {a1 : Int32} {R : Bool}  (h : f_X4_isDigit S0 a1 = R) : mCt μX4_isDigit 1 0 0 E0 S0 [.int (a1)] (mQe S0 (some (.int (bI R)))) := by
  unfold f_X4_isDigit at h
  refine mCt.of (by decide) (Nat.le_of_ble_eq_true rfl) ?_
  intro x
  refine mG.iload_n 0 dX4_isDigit_0 rfl ?_
  refine mG.bipush (v := 48) dX4_isDigit_1 (by decide) ?_
  refine mG.icmp_lt 16 dX4_isDigit_3 (by decide) (fun c2 => ?_) (fun c2 => ?_)
  · replace h := itp c2 h
    refine mG.iconst (v := 0) dX4_isDigit_16 rfl ?_
    subst h
    exact mG.zret (b := false) dX4_isDigit_17 rfl rfl ⟨rfl, rfl, rfl⟩
  · replace h := itn c2 h
    refine mG.iload_n 0 dX4_isDigit_6 rfl ?_
    refine mG.bipush (v := 57) dX4_isDigit_7 (by decide) ?_
    refine mG.icmp_gt 16 dX4_isDigit_9 (by decide) (fun c1 => ?_) (fun c1 => ?_)
    · replace h := itp c1 h
      refine mG.iconst (v := 0) dX4_isDigit_16 rfl ?_
      subst h
      exact mG.zret (b := false) dX4_isDigit_17 rfl rfl ⟨rfl, rfl, rfl⟩
    · replace h := itn c1 h
      refine mG.iconst (v := 1) dX4_isDigit_12 rfl ?_
      refine mG.goto 17 dX4_isDigit_13 (by decide) ?_
      subst h
      exact mG.zret (b := true) dX4_isDigit_17 rfl rfl ⟨rfl, rfl, rfl⟩
theorem dX4_tokenEnd_0 : decode cX4_tokenEnd 0 = .ok (.iload_n 1, 1) := by decide +kernel
theorem dX4_tokenEnd_1 : decode cX4_tokenEnd 1 = .ok (.iconst 1, 1) := by decide +kernel
theorem dX4_tokenEnd_2 : decode cX4_tokenEnd 2 = .ok (.iadd, 1) := by decide +kernel
theorem dX4_tokenEnd_3 : decode cX4_tokenEnd 3 = .ok (.istore_n 3, 1) := by decide +kernel
theorem dX4_tokenEnd_4 : decode cX4_tokenEnd 4 = .ok (.aload_n 0, 1) := by decide +kernel
theorem dX4_tokenEnd_5 : decode cX4_tokenEnd 5 = .ok (.iload_n 1, 1) := by decide +kernel
theorem dX4_tokenEnd_6 : decode cX4_tokenEnd 6 = .ok (.iaload, 1) := by decide +kernel
theorem dX4_tokenEnd_7 : decode cX4_tokenEnd 7 = .ok (.invokestatic 88, 3) := by decide +kernel
theorem dX4_tokenEnd_10 : decode cX4_tokenEnd 10 = .ok (.ifCond .eq 23, 3) := by decide +kernel
theorem dX4_tokenEnd_13 : decode cX4_tokenEnd 13 = .ok (.iload_n 3, 1) := by decide +kernel
theorem dX4_tokenEnd_14 : decode cX4_tokenEnd 14 = .ok (.iload_n 2, 1) := by decide +kernel
theorem dX4_tokenEnd_15 : decode cX4_tokenEnd 15 = .ok (.if_icmp .ge 79, 3) := by decide +kernel
theorem dX4_tokenEnd_18 : decode cX4_tokenEnd 18 = .ok (.aload_n 0, 1) := by decide +kernel
theorem dX4_tokenEnd_19 : decode cX4_tokenEnd 19 = .ok (.iload_n 3, 1) := by decide +kernel
theorem dX4_tokenEnd_20 : decode cX4_tokenEnd 20 = .ok (.iaload, 1) := by decide +kernel
theorem dX4_tokenEnd_21 : decode cX4_tokenEnd 21 = .ok (.invokestatic 88, 3) := by decide +kernel
theorem dX4_tokenEnd_24 : decode cX4_tokenEnd 24 = .ok (.ifCond .eq 70, 3) := by decide +kernel
theorem dX4_tokenEnd_27 : decode cX4_tokenEnd 27 = .ok (.iinc 3 1, 3) := by decide +kernel
theorem dX4_tokenEnd_30 : decode cX4_tokenEnd 30 = .ok (.goto (-17), 3) := by decide +kernel
theorem dX4_tokenEnd_33 : decode cX4_tokenEnd 33 = .ok (.aload_n 0, 1) := by decide +kernel
theorem dX4_tokenEnd_34 : decode cX4_tokenEnd 34 = .ok (.iload_n 1, 1) := by decide +kernel
theorem dX4_tokenEnd_35 : decode cX4_tokenEnd 35 = .ok (.iaload, 1) := by decide +kernel
theorem dX4_tokenEnd_36 : decode cX4_tokenEnd 36 = .ok (.invokestatic 91, 3) := by decide +kernel
theorem dX4_tokenEnd_39 : decode cX4_tokenEnd 39 = .ok (.ifCond .eq 23, 3) := by decide +kernel
theorem dX4_tokenEnd_42 : decode cX4_tokenEnd 42 = .ok (.iload_n 3, 1) := by decide +kernel
theorem dX4_tokenEnd_43 : decode cX4_tokenEnd 43 = .ok (.iload_n 2, 1) := by decide +kernel
theorem dX4_tokenEnd_44 : decode cX4_tokenEnd 44 = .ok (.if_icmp .ge 50, 3) := by decide +kernel
theorem dX4_tokenEnd_47 : decode cX4_tokenEnd 47 = .ok (.aload_n 0, 1) := by decide +kernel
theorem dX4_tokenEnd_48 : decode cX4_tokenEnd 48 = .ok (.iload_n 3, 1) := by decide +kernel
theorem dX4_tokenEnd_49 : decode cX4_tokenEnd 49 = .ok (.iaload, 1) := by decide +kernel
theorem dX4_tokenEnd_50 : decode cX4_tokenEnd 50 = .ok (.invokestatic 91, 3) := by decide +kernel
theorem dX4_tokenEnd_53 : decode cX4_tokenEnd 53 = .ok (.ifCond .eq 41, 3) := by decide +kernel
theorem dX4_tokenEnd_56 : decode cX4_tokenEnd 56 = .ok (.iinc 3 1, 3) := by decide +kernel
theorem dX4_tokenEnd_59 : decode cX4_tokenEnd 59 = .ok (.goto (-17), 3) := by decide +kernel
theorem dX4_tokenEnd_62 : decode cX4_tokenEnd 62 = .ok (.aload_n 0, 1) := by decide +kernel
theorem dX4_tokenEnd_63 : decode cX4_tokenEnd 63 = .ok (.iload_n 1, 1) := by decide +kernel
theorem dX4_tokenEnd_64 : decode cX4_tokenEnd 64 = .ok (.iaload, 1) := by decide +kernel
theorem dX4_tokenEnd_65 : decode cX4_tokenEnd 65 = .ok (.bipush 60, 2) := by decide +kernel
theorem dX4_tokenEnd_67 : decode cX4_tokenEnd 67 = .ok (.if_icmp .eq 11, 3) := by decide +kernel
theorem dX4_tokenEnd_70 : decode cX4_tokenEnd 70 = .ok (.aload_n 0, 1) := by decide +kernel
theorem dX4_tokenEnd_71 : decode cX4_tokenEnd 71 = .ok (.iload_n 1, 1) := by decide +kernel
theorem dX4_tokenEnd_72 : decode cX4_tokenEnd 72 = .ok (.iaload, 1) := by decide +kernel
theorem dX4_tokenEnd_73 : decode cX4_tokenEnd 73 = .ok (.bipush 62, 2) := by decide +kernel
theorem dX4_tokenEnd_75 : decode cX4_tokenEnd 75 = .ok (.if_icmp .ne 19, 3) := by decide +kernel
theorem dX4_tokenEnd_78 : decode cX4_tokenEnd 78 = .ok (.iload_n 3, 1) := by decide +kernel
theorem dX4_tokenEnd_79 : decode cX4_tokenEnd 79 = .ok (.iload_n 2, 1) := by decide +kernel
theorem dX4_tokenEnd_80 : decode cX4_tokenEnd 80 = .ok (.if_icmp .ge 14, 3) := by decide +kernel
theorem dX4_tokenEnd_83 : decode cX4_tokenEnd 83 = .ok (.aload_n 0, 1) := by decide +kernel
theorem dX4_tokenEnd_84 : decode cX4_tokenEnd 84 = .ok (.iload_n 3, 1) := by decide +kernel
theorem dX4_tokenEnd_85 : decode cX4_tokenEnd 85 = .ok (.iaload, 1) := by decide +kernel
theorem dX4_tokenEnd_86 : decode cX4_tokenEnd 86 = .ok (.bipush 61, 2) := by decide +kernel
theorem dX4_tokenEnd_88 : decode cX4_tokenEnd 88 = .ok (.if_icmp .ne 6, 3) := by decide +kernel
theorem dX4_tokenEnd_91 : decode cX4_tokenEnd 91 = .ok (.iinc 3 1, 3) := by decide +kernel
theorem dX4_tokenEnd_94 : decode cX4_tokenEnd 94 = .ok (.iload_n 3, 1) := by decide +kernel
theorem dX4_tokenEnd_95 : decode cX4_tokenEnd 95 = .ok (.ireturn, 1) := by decide +kernel
def lX4_tokenEnd_13 (F : Nat)  (a1 : Nat) (a2 : Int32) (a3 : Int32) : Nat → mS → Int32 → Option Int32
  | 0, _, _ => none
  | n + 1, S0, v3 => if a3 ≤ v3 then (some v3) else (ck (inb v3 300) (if (f_X4_isLetter S0 (S0.1 a1 v3.toNatClampNeg)) = true then (lX4_tokenEnd_13 F  a1 a2 a3 n S0 (v3 + 1)) else (some v3)))
set_option maxHeartbeats 4000000 in
set_option maxRecDepth 100000 in
theorem gX4_tokenEnd_13 {x : mX} {F : Nat} {a1 : Nat} {a2 : Int32} {a3 : Int32} {S0 : mS}   {R : Int32} (ha1 : kd0 a1 = 10) (ga1 : ln0 a1 = 300)  : ∀ (n : Nat) (v3 : Int32), lX4_tokenEnd_13 F  a1 a2 a3 n S0 v3 = some R → mG x μX4_tokenEnd 2 0 0 (mQe S0 (some (.int R))) 0 0 E0 S0 13 [(0, .ref (a1)), (2, .int (a3)), (3, .int (v3))] [] := by
  intro n
  induction n with
  | zero =>
    intro v3 h
    cases h
  | succ n ih =>
    intro v3 h
    unfold lX4_tokenEnd_13 at h
    refine mG.iload_n 2 dX4_tokenEnd_13 rfl ?_
    refine mG.iload_n 1 dX4_tokenEnd_14 rfl ?_
    refine mG.icmp_ge 94 dX4_tokenEnd_15 (by decide) (fun c3 => ?_) (fun c3 => ?_)
    · replace h := itp c3 h
      refine mG.iload_n 2 dX4_tokenEnd_94 rfl ?_
      obtain rfl := Option.some.inj h
      exact mG.iret dX4_tokenEnd_95 rfl ⟨rfl, rfl, rfl⟩
    · replace h := itn c3 h
      refine mG.aload_n 0 dX4_tokenEnd_18 rfl ?_
      refine mG.iload_n 2 dX4_tokenEnd_19 rfl ?_
      obtain ⟨b1, h⟩ := ckp h
      refine mG.iald dX4_tokenEnd_20 ha1 ga1 (inbp b1) ?_
      refine mG.callS0 (as := [.int (S0.1 a1 v3.toNatClampNeg)]) (st := []) (S2 := S0) (r := some (.int (bI (f_X4_isLetter S0 (S0.1 a1 v3.toNatClampNeg))))) dX4_tokenEnd_21 mbX4_isLetter wk10_14 wk10_13 rfl rfl (by decide) (Nat.le_of_ble_eq_true rfl) (c_X4_isLetter  rfl) ?_
      refine mG.ifz_eq (b := f_X4_isLetter S0 (S0.1 a1 v3.toNatClampNeg)) 94 dX4_tokenEnd_24 (by decide) (fun c2 => ?_) (fun c2 => ?_)
      · replace h := itn c2 h
        refine mG.iload_n 2 dX4_tokenEnd_94 rfl ?_
        obtain rfl := Option.some.inj h
        exact mG.iret dX4_tokenEnd_95 rfl ⟨rfl, rfl, rfl⟩
      · replace h := itp c2 h
        refine mG.iinc 2 (u := v3 + 1) (lv2 := [(3, .int (v3 + 1)), (0, .ref (a1)), (2, .int (a3))]) dX4_tokenEnd_27 rfl rfl (by decide) rfl ?_
        refine mG.goto 13 dX4_tokenEnd_30 (by decide) ?_
        refine mG.sub (lv2 := [(0, .ref (a1)), (2, .int (a3)), (3, .int (v3 + 1))]) [1, 2, 0] rfl ?_
        exact ih  (v3 + 1)  h
def lX4_tokenEnd_42 (F : Nat)  (a1 : Nat) (a2 : Int32) (a3 : Int32) : Nat → mS → Int32 → Option Int32
  | 0, _, _ => none
  | n + 1, S0, v3 => if a3 ≤ v3 then (some v3) else (ck (inb v3 300) (if (f_X4_isDigit S0 (S0.1 a1 v3.toNatClampNeg)) = true then (lX4_tokenEnd_42 F  a1 a2 a3 n S0 (v3 + 1)) else (some v3)))
set_option maxHeartbeats 4000000 in
set_option maxRecDepth 100000 in
theorem gX4_tokenEnd_42 {x : mX} {F : Nat} {a1 : Nat} {a2 : Int32} {a3 : Int32} {S0 : mS}   {R : Int32} (ha1 : kd0 a1 = 10) (ga1 : ln0 a1 = 300)  : ∀ (n : Nat) (v3 : Int32), lX4_tokenEnd_42 F  a1 a2 a3 n S0 v3 = some R → mG x μX4_tokenEnd 2 0 0 (mQe S0 (some (.int R))) 0 0 E0 S0 42 [(0, .ref (a1)), (2, .int (a3)), (3, .int (v3))] [] := by
  intro n
  induction n with
  | zero =>
    intro v3 h
    cases h
  | succ n ih =>
    intro v3 h
    unfold lX4_tokenEnd_42 at h
    refine mG.iload_n 2 dX4_tokenEnd_42 rfl ?_
    refine mG.iload_n 1 dX4_tokenEnd_43 rfl ?_
    refine mG.icmp_ge 94 dX4_tokenEnd_44 (by decide) (fun c3 => ?_) (fun c3 => ?_)
    · replace h := itp c3 h
      refine mG.iload_n 2 dX4_tokenEnd_94 rfl ?_
      obtain rfl := Option.some.inj h
      exact mG.iret dX4_tokenEnd_95 rfl ⟨rfl, rfl, rfl⟩
    · replace h := itn c3 h
      refine mG.aload_n 0 dX4_tokenEnd_47 rfl ?_
      refine mG.iload_n 2 dX4_tokenEnd_48 rfl ?_
      obtain ⟨b1, h⟩ := ckp h
      refine mG.iald dX4_tokenEnd_49 ha1 ga1 (inbp b1) ?_
      refine mG.callS0 (as := [.int (S0.1 a1 v3.toNatClampNeg)]) (st := []) (S2 := S0) (r := some (.int (bI (f_X4_isDigit S0 (S0.1 a1 v3.toNatClampNeg))))) dX4_tokenEnd_50 mbX4_isDigit wk10_17 wk10_16 rfl rfl (by decide) (Nat.le_of_ble_eq_true rfl) (c_X4_isDigit  rfl) ?_
      refine mG.ifz_eq (b := f_X4_isDigit S0 (S0.1 a1 v3.toNatClampNeg)) 94 dX4_tokenEnd_53 (by decide) (fun c2 => ?_) (fun c2 => ?_)
      · replace h := itn c2 h
        refine mG.iload_n 2 dX4_tokenEnd_94 rfl ?_
        obtain rfl := Option.some.inj h
        exact mG.iret dX4_tokenEnd_95 rfl ⟨rfl, rfl, rfl⟩
      · replace h := itp c2 h
        refine mG.iinc 2 (u := v3 + 1) (lv2 := [(3, .int (v3 + 1)), (0, .ref (a1)), (2, .int (a3))]) dX4_tokenEnd_56 rfl rfl (by decide) rfl ?_
        refine mG.goto 42 dX4_tokenEnd_59 (by decide) ?_
        refine mG.sub (lv2 := [(0, .ref (a1)), (2, .int (a3)), (3, .int (v3 + 1))]) [1, 2, 0] rfl ?_
        exact ih  (v3 + 1)  h
def f_X4_tokenEnd (F : Nat) (S0 : mS) (a1 : Nat) (a2 : Int32) (a3 : Int32) : Option Int32 := ck (inb a2 300) (if (f_X4_isLetter S0 (S0.1 a1 a2.toNatClampNeg)) = true then (lX4_tokenEnd_13 F  a1 a2 a3 F S0 (a2 + (1 : Int32))) else (ck (inb a2 300) (if (f_X4_isDigit S0 (S0.1 a1 a2.toNatClampNeg)) = true then (lX4_tokenEnd_42 F  a1 a2 a3 F S0 (a2 + (1 : Int32))) else (ck (inb a2 300) (if (S0.1 a1 a2.toNatClampNeg) = (60 : Int32) then (if a3 ≤ (a2 + (1 : Int32)) then (some (a2 + (1 : Int32))) else (ck (inb (a2 + (1 : Int32)) 300) (if (S0.1 a1 (a2 + (1 : Int32)).toNatClampNeg) = (61 : Int32) then (some ((a2 + (1 : Int32)) + 1)) else (some (a2 + (1 : Int32)))))) else (ck (inb a2 300) (if (S0.1 a1 a2.toNatClampNeg) = (62 : Int32) then (if a3 ≤ (a2 + (1 : Int32)) then (some (a2 + (1 : Int32))) else (ck (inb (a2 + (1 : Int32)) 300) (if (S0.1 a1 (a2 + (1 : Int32)).toNatClampNeg) = (61 : Int32) then (some ((a2 + (1 : Int32)) + 1)) else (some (a2 + (1 : Int32)))))) else (some (a2 + (1 : Int32))))))))))
set_option maxHeartbeats 4000000 in
set_option maxRecDepth 100000 in
theorem c_X4_tokenEnd {F : Nat} {S0 : mS} {a1 : Nat} {a2 : Int32} {a3 : Int32} {R : Int32} (ha1 : kd0 a1 = 10) (ga1 : ln0 a1 = 300) (h : f_X4_tokenEnd F S0 a1 a2 a3 = some R) : mCt μX4_tokenEnd 2 0 0 E0 S0 [.ref (a1), .int (a2), .int (a3)] (mQe S0 (some (.int R))) := by
  unfold f_X4_tokenEnd at h
  refine mCt.of (by decide) (Nat.le_of_ble_eq_true rfl) ?_
  intro x
  refine mG.iload_n 1 dX4_tokenEnd_0 rfl ?_
  refine mG.iconst (v := 1) dX4_tokenEnd_1 rfl ?_
  refine mG.iadd dX4_tokenEnd_2 ?_
  refine mG.istore_n (lv2 := [(3, .int (a2 + (1 : Int32))), (0, .ref (a1)), (1, .int (a2)), (2, .int (a3))]) dX4_tokenEnd_3 rfl (by decide) rfl ?_
  refine mG.aload_n 1 dX4_tokenEnd_4 rfl ?_
  refine mG.iload_n 2 dX4_tokenEnd_5 rfl ?_
  obtain ⟨b1, h⟩ := ckp h
  refine mG.iald dX4_tokenEnd_6 ha1 ga1 (inbp b1) ?_
  refine mG.callS0 (as := [.int (S0.1 a1 a2.toNatClampNeg)]) (st := []) (S2 := S0) (r := some (.int (bI (f_X4_isLetter S0 (S0.1 a1 a2.toNatClampNeg))))) dX4_tokenEnd_7 mbX4_isLetter wk10_14 wk10_13 rfl rfl (by decide) (Nat.le_of_ble_eq_true rfl) (c_X4_isLetter  rfl) ?_
  refine mG.ifz_eq (b := f_X4_isLetter S0 (S0.1 a1 a2.toNatClampNeg)) 33 dX4_tokenEnd_10 (by decide) (fun c14 => ?_) (fun c14 => ?_)
  · replace h := itn c14 h
    refine mG.aload_n 1 dX4_tokenEnd_33 rfl ?_
    refine mG.iload_n 2 dX4_tokenEnd_34 rfl ?_
    obtain ⟨b2, h⟩ := ckp h
    refine mG.iald dX4_tokenEnd_35 ha1 ga1 (inbp b2) ?_
    refine mG.callS0 (as := [.int (S0.1 a1 a2.toNatClampNeg)]) (st := []) (S2 := S0) (r := some (.int (bI (f_X4_isDigit S0 (S0.1 a1 a2.toNatClampNeg))))) dX4_tokenEnd_36 mbX4_isDigit wk10_17 wk10_16 rfl rfl (by decide) (Nat.le_of_ble_eq_true rfl) (c_X4_isDigit  rfl) ?_
    refine mG.ifz_eq (b := f_X4_isDigit S0 (S0.1 a1 a2.toNatClampNeg)) 62 dX4_tokenEnd_39 (by decide) (fun c13 => ?_) (fun c13 => ?_)
    · replace h := itn c13 h
      refine mG.aload_n 1 dX4_tokenEnd_62 rfl ?_
      refine mG.iload_n 2 dX4_tokenEnd_63 rfl ?_
      obtain ⟨b3, h⟩ := ckp h
      refine mG.iald dX4_tokenEnd_64 ha1 ga1 (inbp b3) ?_
      refine mG.bipush (v := 60) dX4_tokenEnd_65 (by decide) ?_
      refine mG.icmp_eq 78 dX4_tokenEnd_67 (by decide) (fun c12 => ?_) (fun c12 => ?_)
      · replace h := itp c12 h
        refine mG.iload_n 0 dX4_tokenEnd_78 rfl ?_
        refine mG.iload_n 3 dX4_tokenEnd_79 rfl ?_
        refine mG.icmp_ge 94 dX4_tokenEnd_80 (by decide) (fun c6 => ?_) (fun c6 => ?_)
        · replace h := itp c6 h
          refine mG.iload_n 0 dX4_tokenEnd_94 rfl ?_
          obtain rfl := Option.some.inj h
          exact mG.iret dX4_tokenEnd_95 rfl ⟨rfl, rfl, rfl⟩
        · replace h := itn c6 h
          refine mG.aload_n 1 dX4_tokenEnd_83 rfl ?_
          refine mG.iload_n 0 dX4_tokenEnd_84 rfl ?_
          obtain ⟨b4, h⟩ := ckp h
          refine mG.iald dX4_tokenEnd_85 ha1 ga1 (inbp b4) ?_
          refine mG.bipush (v := 61) dX4_tokenEnd_86 (by decide) ?_
          refine mG.icmp_ne 94 dX4_tokenEnd_88 (by decide) (fun c5 => ?_) (fun c5 => ?_)
          · replace h := itn c5 h
            refine mG.iload_n 0 dX4_tokenEnd_94 rfl ?_
            obtain rfl := Option.some.inj h
            exact mG.iret dX4_tokenEnd_95 rfl ⟨rfl, rfl, rfl⟩
          · replace h := itp c5 h
            refine mG.iinc 0 (u := (a2 + (1 : Int32)) + 1) (lv2 := [(3, .int ((a2 + (1 : Int32)) + 1)), (0, .ref (a1)), (1, .int (a2)), (2, .int (a3))]) dX4_tokenEnd_91 rfl rfl (by decide) rfl ?_
            refine mG.iload_n 0 dX4_tokenEnd_94 rfl ?_
            obtain rfl := Option.some.inj h
            exact mG.iret dX4_tokenEnd_95 rfl ⟨rfl, rfl, rfl⟩
      · replace h := itn c12 h
        refine mG.aload_n 1 dX4_tokenEnd_70 rfl ?_
        refine mG.iload_n 2 dX4_tokenEnd_71 rfl ?_
        obtain ⟨b7, h⟩ := ckp h
        refine mG.iald dX4_tokenEnd_72 ha1 ga1 (inbp b7) ?_
        refine mG.bipush (v := 62) dX4_tokenEnd_73 (by decide) ?_
        refine mG.icmp_ne 94 dX4_tokenEnd_75 (by decide) (fun c11 => ?_) (fun c11 => ?_)
        · replace h := itn c11 h
          refine mG.iload_n 0 dX4_tokenEnd_94 rfl ?_
          obtain rfl := Option.some.inj h
          exact mG.iret dX4_tokenEnd_95 rfl ⟨rfl, rfl, rfl⟩
        · replace h := itp c11 h
          refine mG.iload_n 0 dX4_tokenEnd_78 rfl ?_
          refine mG.iload_n 3 dX4_tokenEnd_79 rfl ?_
          refine mG.icmp_ge 94 dX4_tokenEnd_80 (by decide) (fun c10 => ?_) (fun c10 => ?_)
          · replace h := itp c10 h
            refine mG.iload_n 0 dX4_tokenEnd_94 rfl ?_
            obtain rfl := Option.some.inj h
            exact mG.iret dX4_tokenEnd_95 rfl ⟨rfl, rfl, rfl⟩
          · replace h := itn c10 h
            refine mG.aload_n 1 dX4_tokenEnd_83 rfl ?_
            refine mG.iload_n 0 dX4_tokenEnd_84 rfl ?_
            obtain ⟨b8, h⟩ := ckp h
            refine mG.iald dX4_tokenEnd_85 ha1 ga1 (inbp b8) ?_
            refine mG.bipush (v := 61) dX4_tokenEnd_86 (by decide) ?_
            refine mG.icmp_ne 94 dX4_tokenEnd_88 (by decide) (fun c9 => ?_) (fun c9 => ?_)
            · replace h := itn c9 h
              refine mG.iload_n 0 dX4_tokenEnd_94 rfl ?_
              obtain rfl := Option.some.inj h
              exact mG.iret dX4_tokenEnd_95 rfl ⟨rfl, rfl, rfl⟩
            · replace h := itp c9 h
              refine mG.iinc 0 (u := (a2 + (1 : Int32)) + 1) (lv2 := [(3, .int ((a2 + (1 : Int32)) + 1)), (0, .ref (a1)), (1, .int (a2)), (2, .int (a3))]) dX4_tokenEnd_91 rfl rfl (by decide) rfl ?_
              refine mG.iload_n 0 dX4_tokenEnd_94 rfl ?_
              obtain rfl := Option.some.inj h
              exact mG.iret dX4_tokenEnd_95 rfl ⟨rfl, rfl, rfl⟩
    · replace h := itp c13 h
      refine mG.sub (lv2 := [(0, .ref (a1)), (2, .int (a3)), (3, .int (a2 + (1 : Int32)))]) [1, 3, 0] rfl ?_
      exact gX4_tokenEnd_42 ha1 ga1  F  (a2 + (1 : Int32))  h
  · replace h := itp c14 h
    refine mG.sub (lv2 := [(0, .ref (a1)), (2, .int (a3)), (3, .int (a2 + (1 : Int32)))]) [1, 3, 0] rfl ?_
    exact gX4_tokenEnd_13 ha1 ga1  F  (a2 + (1 : Int32))  h
theorem dX4_valueOf_0 : decode cX4_valueOf 0 = .ok (.iconst 0, 1) := by decide +kernel
theorem dX4_valueOf_1 : decode cX4_valueOf 1 = .ok (.istore_n 3, 1) := by decide +kernel
theorem dX4_valueOf_2 : decode cX4_valueOf 2 = .ok (.iload_n 1, 1) := by decide +kernel
theorem dX4_valueOf_3 : decode cX4_valueOf 3 = .ok (.istore 4, 2) := by decide +kernel
theorem dX4_valueOf_5 : decode cX4_valueOf 5 = .ok (.iload 4, 2) := by decide +kernel
theorem dX4_valueOf_7 : decode cX4_valueOf 7 = .ok (.iload_n 2, 1) := by decide +kernel
theorem dX4_valueOf_8 : decode cX4_valueOf 8 = .ok (.if_icmp .ge 28, 3) := by decide +kernel
theorem dX4_valueOf_11 : decode cX4_valueOf 11 = .ok (.sipush 10000, 3) := by decide +kernel
theorem dX4_valueOf_14 : decode cX4_valueOf 14 = .ok (.iload_n 3, 1) := by decide +kernel
theorem dX4_valueOf_15 : decode cX4_valueOf 15 = .ok (.bipush 10, 2) := by decide +kernel
theorem dX4_valueOf_17 : decode cX4_valueOf 17 = .ok (.imul, 1) := by decide +kernel
theorem dX4_valueOf_18 : decode cX4_valueOf 18 = .ok (.aload_n 0, 1) := by decide +kernel
theorem dX4_valueOf_19 : decode cX4_valueOf 19 = .ok (.iload 4, 2) := by decide +kernel
theorem dX4_valueOf_21 : decode cX4_valueOf 21 = .ok (.iaload, 1) := by decide +kernel
theorem dX4_valueOf_22 : decode cX4_valueOf 22 = .ok (.iadd, 1) := by decide +kernel
theorem dX4_valueOf_23 : decode cX4_valueOf 23 = .ok (.bipush 48, 2) := by decide +kernel
theorem dX4_valueOf_25 : decode cX4_valueOf 25 = .ok (.isub, 1) := by decide +kernel
theorem dX4_valueOf_26 : decode cX4_valueOf 26 = .ok (.invokestatic 41, 3) := by decide +kernel
theorem dX4_valueOf_29 : decode cX4_valueOf 29 = .ok (.istore_n 3, 1) := by decide +kernel
theorem dX4_valueOf_30 : decode cX4_valueOf 30 = .ok (.iinc 4 1, 3) := by decide +kernel
theorem dX4_valueOf_33 : decode cX4_valueOf 33 = .ok (.goto (-28), 3) := by decide +kernel
theorem dX4_valueOf_36 : decode cX4_valueOf 36 = .ok (.iload_n 3, 1) := by decide +kernel
theorem dX4_valueOf_37 : decode cX4_valueOf 37 = .ok (.ireturn, 1) := by decide +kernel
def lX4_valueOf_5 (F : Nat)  (a1 : Nat) (a2 : Int32) (a3 : Int32) : Nat → mS → Int32 → Int32 → Option Int32
  | 0, _, _, _ => none
  | n + 1, S0, v3, v4 => if a3 ≤ v4 then (some v3) else (ck (inb v4 300) (lX4_valueOf_5 F  a1 a2 a3 n S0 (imin (10000 : Int32) (((v3 * (10 : Int32)) + (S0.1 a1 v4.toNatClampNeg)) - (48 : Int32))) (v4 + 1)))
set_option maxHeartbeats 4000000 in
set_option maxRecDepth 100000 in
theorem gX4_valueOf_5 {x : mX} {F : Nat} {a1 : Nat} {a2 : Int32} {a3 : Int32} {S0 : mS}   {R : Int32} (ha1 : kd0 a1 = 10) (ga1 : ln0 a1 = 300)  : ∀ (n : Nat) (v3 : Int32) (v4 : Int32), lX4_valueOf_5 F  a1 a2 a3 n S0 v3 v4 = some R → mG x μX4_valueOf 1 0 0 (mQe S0 (some (.int R))) 0 0 E0 S0 5 [(0, .ref (a1)), (2, .int (a3)), (3, .int (v3)), (4, .int (v4))] [] := by
  intro n
  induction n with
  | zero =>
    intro v3 v4 h
    cases h
  | succ n ih =>
    intro v3 v4 h
    unfold lX4_valueOf_5 at h
    refine mG.iload 3 dX4_valueOf_5 rfl ?_
    refine mG.iload_n 1 dX4_valueOf_7 rfl ?_
    refine mG.icmp_ge 36 dX4_valueOf_8 (by decide) (fun c2 => ?_) (fun c2 => ?_)
    · replace h := itp c2 h
      refine mG.iload_n 2 dX4_valueOf_36 rfl ?_
      obtain rfl := Option.some.inj h
      exact mG.iret dX4_valueOf_37 rfl ⟨rfl, rfl, rfl⟩
    · replace h := itn c2 h
      refine mG.sipush (v := 10000) dX4_valueOf_11 (by decide) ?_
      refine mG.iload_n 2 dX4_valueOf_14 rfl ?_
      refine mG.bipush (v := 10) dX4_valueOf_15 (by decide) ?_
      refine mG.imul dX4_valueOf_17 ?_
      refine mG.aload_n 0 dX4_valueOf_18 rfl ?_
      refine mG.iload 3 dX4_valueOf_19 rfl ?_
      obtain ⟨b1, h⟩ := ckp h
      refine mG.iald dX4_valueOf_21 ha1 ga1 (inbp b1) ?_
      refine mG.iadd dX4_valueOf_22 ?_
      refine mG.bipush (v := 48) dX4_valueOf_23 (by decide) ?_
      refine mG.isub dX4_valueOf_25 ?_
      refine mG.mmin dX4_valueOf_26 wk9_19 (by decide) (Nat.le_of_ble_eq_true rfl) (Nat.le_refl _) (Nat.le_refl _) ?_
      refine mG.istore_n (lv2 := [(3, .int (imin (10000 : Int32) (((v3 * (10 : Int32)) + (S0.1 a1 v4.toNatClampNeg)) - (48 : Int32)))), (0, .ref (a1)), (2, .int (a3)), (4, .int (v4))]) dX4_valueOf_29 rfl (by decide) rfl ?_
      refine mG.iinc 3 (u := v4 + 1) (lv2 := [(4, .int (v4 + 1)), (3, .int (imin (10000 : Int32) (((v3 * (10 : Int32)) + (S0.1 a1 v4.toNatClampNeg)) - (48 : Int32)))), (0, .ref (a1)), (2, .int (a3))]) dX4_valueOf_30 rfl rfl (by decide) rfl ?_
      refine mG.goto 5 dX4_valueOf_33 (by decide) ?_
      refine mG.sub (lv2 := [(0, .ref (a1)), (2, .int (a3)), (3, .int (imin (10000 : Int32) (((v3 * (10 : Int32)) + (S0.1 a1 v4.toNatClampNeg)) - (48 : Int32)))), (4, .int (v4 + 1))]) [2, 3, 1, 0] rfl ?_
      exact ih  (imin (10000 : Int32) (((v3 * (10 : Int32)) + (S0.1 a1 v4.toNatClampNeg)) - (48 : Int32))) (v4 + 1)  h
def f_X4_valueOf (F : Nat) (S0 : mS) (a1 : Nat) (a2 : Int32) (a3 : Int32) : Option Int32 := lX4_valueOf_5 F  a1 a2 a3 F S0 (0 : Int32) a2
set_option maxHeartbeats 4000000 in
set_option maxRecDepth 100000 in
theorem c_X4_valueOf {F : Nat} {S0 : mS} {a1 : Nat} {a2 : Int32} {a3 : Int32} {R : Int32} (ha1 : kd0 a1 = 10) (ga1 : ln0 a1 = 300) (h : f_X4_valueOf F S0 a1 a2 a3 = some R) : mCt μX4_valueOf 1 0 0 E0 S0 [.ref (a1), .int (a2), .int (a3)] (mQe S0 (some (.int R))) := by
  unfold f_X4_valueOf at h
  refine mCt.of (by decide) (Nat.le_of_ble_eq_true rfl) ?_
  intro x
  refine mG.iconst (v := 0) dX4_valueOf_0 rfl ?_
  refine mG.istore_n (lv2 := [(3, .int 0), (0, .ref (a1)), (1, .int (a2)), (2, .int (a3))]) dX4_valueOf_1 rfl (by decide) rfl ?_
  refine mG.iload_n 2 dX4_valueOf_2 rfl ?_
  refine mG.istore (lv2 := [(4, .int (a2)), (3, .int 0), (0, .ref (a1)), (1, .int (a2)), (2, .int (a3))]) dX4_valueOf_3 (by decide) rfl ?_
  refine mG.sub (lv2 := [(0, .ref (a1)), (2, .int (a3)), (3, .int 0), (4, .int (a2))]) [2, 4, 1, 0] rfl ?_
  exact gX4_valueOf_5 ha1 ga1  F  (0 : Int32) a2  h
theorem dX4_isLaw_0 : decode cX4_isLaw 0 = .ok (.iload_n 0, 1) := by decide +kernel
theorem dX4_isLaw_1 : decode cX4_isLaw 1 = .ok (.bipush 24, 2) := by decide +kernel
theorem dX4_isLaw_3 : decode cX4_isLaw 3 = .ok (.bipush 26, 2) := by decide +kernel
theorem dX4_isLaw_5 : decode cX4_isLaw 5 = .ok (.invokestatic 118, 3) := by decide +kernel
theorem dX4_isLaw_8 : decode cX4_isLaw 8 = .ok (.ireturn, 1) := by decide +kernel
def f_X4_isLaw (S0 : mS) (a1 : Int32) : Bool := f_X8_isWithin S0 a1 (24 : Int32) (26 : Int32)
set_option maxHeartbeats 4000000 in
set_option maxRecDepth 100000 in
theorem c_X4_isLaw {S0 : mS} {a1 : Int32} {R : Bool}  (h : f_X4_isLaw S0 a1 = R) : mCt μX4_isLaw 2 0 0 E0 S0 [.int (a1)] (mQe S0 (some (.int (bI R)))) := by
  unfold f_X4_isLaw at h
  refine mCt.of (by decide) (Nat.le_of_ble_eq_true rfl) ?_
  intro x
  refine mG.iload_n 0 dX4_isLaw_0 rfl ?_
  refine mG.bipush (v := 24) dX4_isLaw_1 (by decide) ?_
  refine mG.bipush (v := 26) dX4_isLaw_3 (by decide) ?_
  refine mG.callSN0 (as := [.int (a1), .int 24, .int 26]) (st := []) (S2 := S0) (r := some (.int (bI (f_X8_isWithin S0 a1 (24 : Int32) (26 : Int32))))) dX4_isLaw_5 mbX8_isWithin wk6_19 (List.mem_of_getElem? (i := 9) rfl) rfl rfl (by decide) (Nat.le_of_ble_eq_true rfl) (c_X8_isWithin  rfl) ?_
  subst h
  exact mG.zret (b := f_X8_isWithin S0 a1 (24 : Int32) (26 : Int32)) dX4_isLaw_8 rfl rfl ⟨rfl, rfl, rfl⟩
theorem dX4_canStart_0 : decode cX4_canStart 0 = .ok (.iload_n 1, 1) := by decide +kernel
theorem dX4_canStart_1 : decode cX4_canStart 1 = .ok (.invokestatic 62, 3) := by decide +kernel
theorem dX4_canStart_4 : decode cX4_canStart 4 = .ok (.ifCond .ne 34, 3) := by decide +kernel
theorem dX4_canStart_7 : decode cX4_canStart 7 = .ok (.iload_n 1, 1) := by decide +kernel
theorem dX4_canStart_8 : decode cX4_canStart 8 = .ok (.bipush 27, 2) := by decide +kernel
theorem dX4_canStart_10 : decode cX4_canStart 10 = .ok (.bipush 30, 2) := by decide +kernel
theorem dX4_canStart_12 : decode cX4_canStart 12 = .ok (.invokestatic 118, 3) := by decide +kernel
theorem dX4_canStart_15 : decode cX4_canStart 15 = .ok (.ifCond .ne 23, 3) := by decide +kernel
theorem dX4_canStart_18 : decode cX4_canStart 18 = .ok (.iload_n 1, 1) := by decide +kernel
theorem dX4_canStart_19 : decode cX4_canStart 19 = .ok (.bipush 18, 2) := by decide +kernel
theorem dX4_canStart_21 : decode cX4_canStart 21 = .ok (.if_icmp .eq 17, 3) := by decide +kernel
theorem dX4_canStart_24 : decode cX4_canStart 24 = .ok (.iload_n 1, 1) := by decide +kernel
theorem dX4_canStart_25 : decode cX4_canStart 25 = .ok (.bipush 16, 2) := by decide +kernel
theorem dX4_canStart_27 : decode cX4_canStart 27 = .ok (.if_icmp .eq 11, 3) := by decide +kernel
theorem dX4_canStart_30 : decode cX4_canStart 30 = .ok (.aload_n 0, 1) := by decide +kernel
theorem dX4_canStart_31 : decode cX4_canStart 31 = .ok (.iconst 1, 1) := by decide +kernel
theorem dX4_canStart_32 : decode cX4_canStart 32 = .ok (.invokevirtual 115, 3) := by decide +kernel
theorem dX4_canStart_35 : decode cX4_canStart 35 = .ok (.goto 47, 3) := by decide +kernel
theorem dX4_canStart_38 : decode cX4_canStart 38 = .ok (.iload_n 1, 1) := by decide +kernel
theorem dX4_canStart_39 : decode cX4_canStart 39 = .ok (.invokestatic 62, 3) := by decide +kernel
theorem dX4_canStart_42 : decode cX4_canStart 42 = .ok (.ifCond .eq 22, 3) := by decide +kernel
theorem dX4_canStart_45 : decode cX4_canStart 45 = .ok (.aload_n 0, 1) := by decide +kernel
theorem dX4_canStart_46 : decode cX4_canStart 46 = .ok (.getfield 12, 3) := by decide +kernel
theorem dX4_canStart_49 : decode cX4_canStart 49 = .ok (.iload_n 1, 1) := by decide +kernel
theorem dX4_canStart_50 : decode cX4_canStart 50 = .ok (.invokevirtual 122, 3) := by decide +kernel
theorem dX4_canStart_53 : decode cX4_canStart 53 = .ok (.ifCond .eq 11, 3) := by decide +kernel
theorem dX4_canStart_56 : decode cX4_canStart 56 = .ok (.aload_n 0, 1) := by decide +kernel
theorem dX4_canStart_57 : decode cX4_canStart 57 = .ok (.iconst 4, 1) := by decide +kernel
theorem dX4_canStart_58 : decode cX4_canStart 58 = .ok (.invokevirtual 115, 3) := by decide +kernel
theorem dX4_canStart_61 : decode cX4_canStart 61 = .ok (.goto 21, 3) := by decide +kernel
theorem dX4_canStart_64 : decode cX4_canStart 64 = .ok (.aload_n 0, 1) := by decide +kernel
theorem dX4_canStart_65 : decode cX4_canStart 65 = .ok (.getfield 12, 3) := by decide +kernel
theorem dX4_canStart_68 : decode cX4_canStart 68 = .ok (.getfield 125, 3) := by decide +kernel
theorem dX4_canStart_71 : decode cX4_canStart 71 = .ok (.bipush 24, 2) := by decide +kernel
theorem dX4_canStart_73 : decode cX4_canStart 73 = .ok (.if_icmp .lt 9, 3) := by decide +kernel
theorem dX4_canStart_76 : decode cX4_canStart 76 = .ok (.aload_n 0, 1) := by decide +kernel
theorem dX4_canStart_77 : decode cX4_canStart 77 = .ok (.bipush 6, 2) := by decide +kernel
theorem dX4_canStart_79 : decode cX4_canStart 79 = .ok (.invokevirtual 115, 3) := by decide +kernel
theorem dX4_canStart_82 : decode cX4_canStart 82 = .ok (.aload_n 0, 1) := by decide +kernel
theorem dX4_canStart_83 : decode cX4_canStart 83 = .ok (.getfield 32, 3) := by decide +kernel
theorem dX4_canStart_86 : decode cX4_canStart 86 = .ok (.ifCond .ne 7, 3) := by decide +kernel
theorem dX4_canStart_89 : decode cX4_canStart 89 = .ok (.iconst 1, 1) := by decide +kernel
theorem dX4_canStart_90 : decode cX4_canStart 90 = .ok (.goto 4, 3) := by decide +kernel
theorem dX4_canStart_93 : decode cX4_canStart 93 = .ok (.iconst 0, 1) := by decide +kernel
theorem dX4_canStart_94 : decode cX4_canStart 94 = .ok (.ireturn, 1) := by decide +kernel
def lX4_canStart_38 (F : Nat) (K64 : mS → Option (mS × Bool)) (t : Nat) (a1 : Int32) (S : mS)  : Option (mS × Bool) := if (f_X4_isLaw S a1) = true then (bd (f_X5_has F S (t + 1) a1) fun q1 => if q1 = true then (bd (f_X4_fail F S t (4 : Int32)) fun q2 => if (q2.1 t 1) = 0 then (some (q2, true)) else (some (q2, false))) else (K64 S )) else (K64 S )
set_option maxHeartbeats 4000000 in
set_option maxRecDepth 100000 in
theorem gX4_canStart_38 {x : mX} {F : Nat} {t : Nat} {a1 : Int32} {K64 : mS → Option (mS × Bool)} {R : mS × Bool} (ht : kd0 t = 4) (hK64 : ∀ (S : mS)  , K64 S  = some R → mG x μX4_canStart 3 0 0 (mQe R.1 (some (.int (bI R.2)))) 0 0 E0 S 64 [(0, .ref (t))] []) (S : mS)   (h : lX4_canStart_38 F K64 t a1 S  = some R) : mG x μX4_canStart 3 0 0 (mQe R.1 (some (.int (bI R.2)))) 0 0 E0 S 38 [(0, .ref (t)), (1, .int (a1))] [] := by
  unfold lX4_canStart_38 at h
  refine mG.iload_n 1 dX4_canStart_38 rfl ?_
  refine mG.callS0 (as := [.int (a1)]) (st := []) (S2 := S) (r := some (.int (bI (f_X4_isLaw S a1)))) dX4_canStart_39 mbX4_isLaw wk16_3 wk16_2 rfl rfl (by decide) (Nat.le_of_ble_eq_true rfl) (c_X4_isLaw  rfl) ?_
  refine mG.ifz_eq (b := f_X4_isLaw S a1) 64 dX4_canStart_42 (by decide) (fun c5 => ?_) (fun c5 => ?_)
  · replace h := itn c5 h
    refine mG.sub (lv2 := [(0, .ref (t))]) [0] rfl ?_
    exact hK64 S   h
  · replace h := itp c5 h
    refine mG.aload_n 0 dX4_canStart_45 rfl ?_
    refine mG.get (v := .ref (t + 1)) dX4_canStart_46 mfX4_12 ht (lr4_draft ht) ?_
    refine mG.iload_n 1 dX4_canStart_49 rfl ?_
    obtain ⟨q1, hq1, h⟩ := bdp h
    refine mG.callV0 (as := [.int (a1)]) (st := []) (S2 := S) (r := some (.int (bI (q1)))) dX4_canStart_50 mvX5_has wk16_9 rfl (lk4_draft ht) rfl (by decide) (Nat.le_of_ble_eq_true rfl) (c_X5_has (lk4_draft ht) hq1) ?_
    refine mG.ifz_eq (b := q1) 64 dX4_canStart_53 (by decide) (fun c4 => ?_) (fun c4 => ?_)
    · replace h := itn c4 h
      refine mG.sub (lv2 := [(0, .ref (t))]) [0] rfl ?_
      exact hK64 S   h
    · replace h := itp c4 h
      refine mG.aload_n 0 dX4_canStart_56 rfl ?_
      refine mG.iconst (v := 4) dX4_canStart_57 rfl ?_
      obtain ⟨q2, hq2, h⟩ := bdp h
      refine mG.callV0 (as := [.int 4]) (st := []) (S2 := q2) (r := none) dX4_canStart_58 mvX4_fail wk16_5 rfl ht rfl (by decide) (Nat.le_of_ble_eq_true rfl) (c_X4_fail ht hq2) ?_
      refine mG.goto 82 dX4_canStart_61 (by decide) ?_
      refine mG.aload_n 0 dX4_canStart_82 rfl ?_
      refine mG.get (v := .int (q2.1 t 1)) dX4_canStart_83 mfX4_32 ht rfl ?_
      refine mG.if_ne 93 dX4_canStart_86 (by decide) (fun c3 => ?_) (fun c3 => ?_)
      · replace h := itn c3 h
        refine mG.iconst (v := 0) dX4_canStart_93 rfl ?_
        obtain rfl := Option.some.inj h
        exact mG.zret (b := false) dX4_canStart_94 rfl rfl ⟨rfl, rfl, rfl⟩
      · replace h := itp c3 h
        refine mG.iconst (v := 1) dX4_canStart_89 rfl ?_
        refine mG.goto 94 dX4_canStart_90 (by decide) ?_
        obtain rfl := Option.some.inj h
        exact mG.zret (b := true) dX4_canStart_94 rfl rfl ⟨rfl, rfl, rfl⟩
def lX4_canStart_64 (F : Nat)  (t : Nat) (a1 : Int32) (S : mS)  : Option (mS × Bool) := if (S.1 (t + 1) 5) < (24 : Int32) then (if (S.1 t 1) = 0 then (some (S, true)) else (some (S, false))) else (bd (f_X4_fail F S t (6 : Int32)) fun q2 => if (q2.1 t 1) = 0 then (some (q2, true)) else (some (q2, false)))
set_option maxHeartbeats 4000000 in
set_option maxRecDepth 100000 in
theorem gX4_canStart_64 {x : mX} {F : Nat} {t : Nat} {a1 : Int32}  {R : mS × Bool} (ht : kd0 t = 4)  (S : mS)   (h : lX4_canStart_64 F  t a1 S  = some R) : mG x μX4_canStart 3 0 0 (mQe R.1 (some (.int (bI R.2)))) 0 0 E0 S 64 [(0, .ref (t))] [] := by
  unfold lX4_canStart_64 at h
  refine mG.aload_n 0 dX4_canStart_64 rfl ?_
  refine mG.get (v := .ref (t + 1)) dX4_canStart_65 mfX4_12 ht (lr4_draft ht) ?_
  refine mG.get (v := .int (S.1 (t + 1) 5)) dX4_canStart_68 mfX4_125 (lk4_draft ht) rfl ?_
  refine mG.bipush (v := 24) dX4_canStart_71 (by decide) ?_
  refine mG.icmp_lt 82 dX4_canStart_73 (by decide) (fun c4 => ?_) (fun c4 => ?_)
  · replace h := itp c4 h
    refine mG.aload_n 0 dX4_canStart_82 rfl ?_
    refine mG.get (v := .int (S.1 t 1)) dX4_canStart_83 mfX4_32 ht rfl ?_
    refine mG.if_ne 93 dX4_canStart_86 (by decide) (fun c1 => ?_) (fun c1 => ?_)
    · replace h := itn c1 h
      refine mG.iconst (v := 0) dX4_canStart_93 rfl ?_
      obtain rfl := Option.some.inj h
      exact mG.zret (b := false) dX4_canStart_94 rfl rfl ⟨rfl, rfl, rfl⟩
    · replace h := itp c1 h
      refine mG.iconst (v := 1) dX4_canStart_89 rfl ?_
      refine mG.goto 94 dX4_canStart_90 (by decide) ?_
      obtain rfl := Option.some.inj h
      exact mG.zret (b := true) dX4_canStart_94 rfl rfl ⟨rfl, rfl, rfl⟩
  · replace h := itn c4 h
    refine mG.aload_n 0 dX4_canStart_76 rfl ?_
    refine mG.bipush (v := 6) dX4_canStart_77 (by decide) ?_
    obtain ⟨q2, hq2, h⟩ := bdp h
    refine mG.callV0 (as := [.int 6]) (st := []) (S2 := q2) (r := none) dX4_canStart_79 mvX4_fail wk16_5 rfl ht rfl (by decide) (Nat.le_of_ble_eq_true rfl) (c_X4_fail ht hq2) ?_
    refine mG.aload_n 0 dX4_canStart_82 rfl ?_
    refine mG.get (v := .int (q2.1 t 1)) dX4_canStart_83 mfX4_32 ht rfl ?_
    refine mG.if_ne 93 dX4_canStart_86 (by decide) (fun c3 => ?_) (fun c3 => ?_)
    · replace h := itn c3 h
      refine mG.iconst (v := 0) dX4_canStart_93 rfl ?_
      obtain rfl := Option.some.inj h
      exact mG.zret (b := false) dX4_canStart_94 rfl rfl ⟨rfl, rfl, rfl⟩
    · replace h := itp c3 h
      refine mG.iconst (v := 1) dX4_canStart_89 rfl ?_
      refine mG.goto 94 dX4_canStart_90 (by decide) ?_
      obtain rfl := Option.some.inj h
      exact mG.zret (b := true) dX4_canStart_94 rfl rfl ⟨rfl, rfl, rfl⟩
def f_X4_canStart (F : Nat) (S : mS) (t : Nat) (a1 : Int32) : Option (mS × Bool) := if (f_X4_isLaw S a1) = true then (lX4_canStart_38 F (fun (S : mS)  => lX4_canStart_64 F  t a1 S ) t a1 S ) else (if (f_X8_isWithin S a1 (27 : Int32) (30 : Int32)) = true then (lX4_canStart_38 F (fun (S : mS)  => lX4_canStart_64 F  t a1 S ) t a1 S ) else (if a1 = (18 : Int32) then (lX4_canStart_38 F (fun (S : mS)  => lX4_canStart_64 F  t a1 S ) t a1 S ) else (if a1 = (16 : Int32) then (lX4_canStart_38 F (fun (S : mS)  => lX4_canStart_64 F  t a1 S ) t a1 S ) else (bd (f_X4_fail F S t (1 : Int32)) fun q1 => if (q1.1 t 1) = 0 then (some (q1, true)) else (some (q1, false))))))
set_option maxHeartbeats 4000000 in
set_option maxRecDepth 100000 in
theorem c_X4_canStart {F : Nat} {S : mS} {t : Nat} {a1 : Int32} {R : mS × Bool} (ht : kd0 t = 4) (h : f_X4_canStart F S t a1 = some R) : mCt μX4_canStart 3 0 0 E0 S [.ref (t), .int (a1)] (mQe R.1 (some (.int (bI R.2)))) := by
  unfold f_X4_canStart at h
  refine mCt.of (by decide) (Nat.le_of_ble_eq_true rfl) ?_
  intro x
  refine mG.iload_n 1 dX4_canStart_0 rfl ?_
  refine mG.callS0 (as := [.int (a1)]) (st := []) (S2 := S) (r := some (.int (bI (f_X4_isLaw S a1)))) dX4_canStart_1 mbX4_isLaw wk16_3 wk16_2 rfl rfl (by decide) (Nat.le_of_ble_eq_true rfl) (c_X4_isLaw  rfl) ?_
  refine mG.ifz_ne (b := f_X4_isLaw S a1) 38 dX4_canStart_4 (by decide) (fun c6 => ?_) (fun c6 => ?_)
  · replace h := itp c6 h
    refine mG.sub (lv2 := [(0, .ref (t)), (1, .int (a1))]) [0, 1] rfl ?_
    exact gX4_canStart_38 ht (fun S h => by exact gX4_canStart_64 ht   S   h)  S   h
  · replace h := itn c6 h
    refine mG.iload_n 1 dX4_canStart_7 rfl ?_
    refine mG.bipush (v := 27) dX4_canStart_8 (by decide) ?_
    refine mG.bipush (v := 30) dX4_canStart_10 (by decide) ?_
    refine mG.callSN0 (as := [.int (a1), .int 27, .int 30]) (st := []) (S2 := S) (r := some (.int (bI (f_X8_isWithin S a1 (27 : Int32) (30 : Int32))))) dX4_canStart_12 mbX8_isWithin wk6_19 (List.mem_of_getElem? (i := 9) rfl) rfl rfl (by decide) (Nat.le_of_ble_eq_true rfl) (c_X8_isWithin  rfl) ?_
    refine mG.ifz_ne (b := f_X8_isWithin S a1 (27 : Int32) (30 : Int32)) 38 dX4_canStart_15 (by decide) (fun c5 => ?_) (fun c5 => ?_)
    · replace h := itp c5 h
      refine mG.sub (lv2 := [(0, .ref (t)), (1, .int (a1))]) [0, 1] rfl ?_
      exact gX4_canStart_38 ht (fun S h => by exact gX4_canStart_64 ht   S   h)  S   h
    · replace h := itn c5 h
      refine mG.iload_n 1 dX4_canStart_18 rfl ?_
      refine mG.bipush (v := 18) dX4_canStart_19 (by decide) ?_
      refine mG.icmp_eq 38 dX4_canStart_21 (by decide) (fun c4 => ?_) (fun c4 => ?_)
      · replace h := itp c4 h
        refine mG.sub (lv2 := [(0, .ref (t)), (1, .int (a1))]) [0, 1] rfl ?_
        exact gX4_canStart_38 ht (fun S h => by exact gX4_canStart_64 ht   S   h)  S   h
      · replace h := itn c4 h
        refine mG.iload_n 1 dX4_canStart_24 rfl ?_
        refine mG.bipush (v := 16) dX4_canStart_25 (by decide) ?_
        refine mG.icmp_eq 38 dX4_canStart_27 (by decide) (fun c3 => ?_) (fun c3 => ?_)
        · replace h := itp c3 h
          refine mG.sub (lv2 := [(0, .ref (t)), (1, .int (a1))]) [0, 1] rfl ?_
          exact gX4_canStart_38 ht (fun S h => by exact gX4_canStart_64 ht   S   h)  S   h
        · replace h := itn c3 h
          refine mG.aload_n 0 dX4_canStart_30 rfl ?_
          refine mG.iconst (v := 1) dX4_canStart_31 rfl ?_
          obtain ⟨q1, hq1, h⟩ := bdp h
          refine mG.callV0 (as := [.int 1]) (st := []) (S2 := q1) (r := none) dX4_canStart_32 mvX4_fail wk16_5 rfl ht rfl (by decide) (Nat.le_of_ble_eq_true rfl) (c_X4_fail ht hq1) ?_
          refine mG.goto 82 dX4_canStart_35 (by decide) ?_
          refine mG.aload_n 0 dX4_canStart_82 rfl ?_
          refine mG.get (v := .int (q1.1 t 1)) dX4_canStart_83 mfX4_32 ht rfl ?_
          refine mG.if_ne 93 dX4_canStart_86 (by decide) (fun c2 => ?_) (fun c2 => ?_)
          · replace h := itn c2 h
            refine mG.iconst (v := 0) dX4_canStart_93 rfl ?_
            obtain rfl := Option.some.inj h
            exact mG.zret (b := false) dX4_canStart_94 rfl rfl ⟨rfl, rfl, rfl⟩
          · replace h := itp c2 h
            refine mG.iconst (v := 1) dX4_canStart_89 rfl ?_
            refine mG.goto 94 dX4_canStart_90 (by decide) ?_
            obtain rfl := Option.some.inj h
            exact mG.zret (b := true) dX4_canStart_94 rfl rfl ⟨rfl, rfl, rfl⟩
theorem dX4_readDeed_0 : decode cX4_readDeed 0 = .ok (.iconst (-1), 1) := by decide +kernel
theorem dX4_readDeed_1 : decode cX4_readDeed 1 = .ok (.istore_n 2, 1) := by decide +kernel
theorem dX4_readDeed_2 : decode cX4_readDeed 2 = .ok (.iconst (-1), 1) := by decide +kernel
theorem dX4_readDeed_3 : decode cX4_readDeed 3 = .ok (.istore_n 3, 1) := by decide +kernel
theorem dX4_readDeed_4 : decode cX4_readDeed 4 = .ok (.iconst (-1), 1) := by decide +kernel
theorem dX4_readDeed_5 : decode cX4_readDeed 5 = .ok (.istore 4, 2) := by decide +kernel
theorem dX4_readDeed_7 : decode cX4_readDeed 7 = .ok (.iload_n 1, 1) := by decide +kernel
theorem dX4_readDeed_8 : decode cX4_readDeed 8 = .ok (.bipush 16, 2) := by decide +kernel
theorem dX4_readDeed_10 : decode cX4_readDeed 10 = .ok (.if_icmp .ne 14, 3) := by decide +kernel
theorem dX4_readDeed_13 : decode cX4_readDeed 13 = .ok (.aload_n 0, 1) := by decide +kernel
theorem dX4_readDeed_14 : decode cX4_readDeed 14 = .ok (.iconst 1, 1) := by decide +kernel
theorem dX4_readDeed_15 : decode cX4_readDeed 15 = .ok (.bipush 60, 2) := by decide +kernel
theorem dX4_readDeed_17 : decode cX4_readDeed 17 = .ok (.invokevirtual 128, 3) := by decide +kernel
theorem dX4_readDeed_20 : decode cX4_readDeed 20 = .ok (.istore_n 2, 1) := by decide +kernel
theorem dX4_readDeed_21 : decode cX4_readDeed 21 = .ok (.goto 106, 3) := by decide +kernel
theorem dX4_readDeed_24 : decode cX4_readDeed 24 = .ok (.iload_n 1, 1) := by decide +kernel
theorem dX4_readDeed_25 : decode cX4_readDeed 25 = .ok (.bipush 18, 2) := by decide +kernel
theorem dX4_readDeed_27 : decode cX4_readDeed 27 = .ok (.if_icmp .ne 44, 3) := by decide +kernel
theorem dX4_readDeed_30 : decode cX4_readDeed 30 = .ok (.aload_n 0, 1) := by decide +kernel
theorem dX4_readDeed_31 : decode cX4_readDeed 31 = .ok (.iconst 0, 1) := by decide +kernel
theorem dX4_readDeed_32 : decode cX4_readDeed 32 = .ok (.bipush 19, 2) := by decide +kernel
theorem dX4_readDeed_34 : decode cX4_readDeed 34 = .ok (.invokevirtual 128, 3) := by decide +kernel
theorem dX4_readDeed_37 : decode cX4_readDeed 37 = .ok (.istore_n 2, 1) := by decide +kernel
theorem dX4_readDeed_38 : decode cX4_readDeed 38 = .ok (.aload_n 0, 1) := by decide +kernel
theorem dX4_readDeed_39 : decode cX4_readDeed 39 = .ok (.bipush 19, 2) := by decide +kernel
theorem dX4_readDeed_41 : decode cX4_readDeed 41 = .ok (.invokevirtual 72, 3) := by decide +kernel
theorem dX4_readDeed_44 : decode cX4_readDeed 44 = .ok (.aload_n 0, 1) := by decide +kernel
theorem dX4_readDeed_45 : decode cX4_readDeed 45 = .ok (.iconst 0, 1) := by decide +kernel
theorem dX4_readDeed_46 : decode cX4_readDeed 46 = .ok (.sipush 9999, 3) := by decide +kernel
theorem dX4_readDeed_49 : decode cX4_readDeed 49 = .ok (.invokevirtual 128, 3) := by decide +kernel
theorem dX4_readDeed_52 : decode cX4_readDeed 52 = .ok (.istore_n 3, 1) := by decide +kernel
theorem dX4_readDeed_53 : decode cX4_readDeed 53 = .ok (.aload_n 0, 1) := by decide +kernel
theorem dX4_readDeed_54 : decode cX4_readDeed 54 = .ok (.bipush 20, 2) := by decide +kernel
theorem dX4_readDeed_56 : decode cX4_readDeed 56 = .ok (.invokevirtual 72, 3) := by decide +kernel
theorem dX4_readDeed_59 : decode cX4_readDeed 59 = .ok (.aload_n 0, 1) := by decide +kernel
theorem dX4_readDeed_60 : decode cX4_readDeed 60 = .ok (.iconst 0, 1) := by decide +kernel
theorem dX4_readDeed_61 : decode cX4_readDeed 61 = .ok (.bipush 99, 2) := by decide +kernel
theorem dX4_readDeed_63 : decode cX4_readDeed 63 = .ok (.invokevirtual 128, 3) := by decide +kernel
theorem dX4_readDeed_66 : decode cX4_readDeed 66 = .ok (.istore 4, 2) := by decide +kernel
theorem dX4_readDeed_68 : decode cX4_readDeed 68 = .ok (.goto 59, 3) := by decide +kernel
theorem dX4_readDeed_71 : decode cX4_readDeed 71 = .ok (.aload_n 0, 1) := by decide +kernel
theorem dX4_readDeed_72 : decode cX4_readDeed 72 = .ok (.iconst 0, 1) := by decide +kernel
theorem dX4_readDeed_73 : decode cX4_readDeed 73 = .ok (.iload_n 1, 1) := by decide +kernel
theorem dX4_readDeed_74 : decode cX4_readDeed 74 = .ok (.bipush 30, 2) := by decide +kernel
theorem dX4_readDeed_76 : decode cX4_readDeed 76 = .ok (.if_icmp .ne 8, 3) := by decide +kernel
theorem dX4_readDeed_79 : decode cX4_readDeed 79 = .ok (.bipush 19, 2) := by decide +kernel
theorem dX4_readDeed_81 : decode cX4_readDeed 81 = .ok (.goto 5, 3) := by decide +kernel
theorem dX4_readDeed_84 : decode cX4_readDeed 84 = .ok (.bipush 6, 2) := by decide +kernel
theorem dX4_readDeed_86 : decode cX4_readDeed 86 = .ok (.invokevirtual 128, 3) := by decide +kernel
theorem dX4_readDeed_89 : decode cX4_readDeed 89 = .ok (.istore_n 2, 1) := by decide +kernel
theorem dX4_readDeed_90 : decode cX4_readDeed 90 = .ok (.iload_n 1, 1) := by decide +kernel
theorem dX4_readDeed_91 : decode cX4_readDeed 91 = .ok (.bipush 28, 2) := by decide +kernel
theorem dX4_readDeed_93 : decode cX4_readDeed 93 = .ok (.if_icmp .eq 9, 3) := by decide +kernel
theorem dX4_readDeed_96 : decode cX4_readDeed 96 = .ok (.iload_n 1, 1) := by decide +kernel
theorem dX4_readDeed_97 : decode cX4_readDeed 97 = .ok (.bipush 30, 2) := by decide +kernel
theorem dX4_readDeed_99 : decode cX4_readDeed 99 = .ok (.if_icmp .ne 28, 3) := by decide +kernel
theorem dX4_readDeed_102 : decode cX4_readDeed 102 = .ok (.aload_n 0, 1) := by decide +kernel
theorem dX4_readDeed_103 : decode cX4_readDeed 103 = .ok (.iload_n 1, 1) := by decide +kernel
theorem dX4_readDeed_104 : decode cX4_readDeed 104 = .ok (.bipush 28, 2) := by decide +kernel
theorem dX4_readDeed_106 : decode cX4_readDeed 106 = .ok (.if_icmp .ne 8, 3) := by decide +kernel
theorem dX4_readDeed_109 : decode cX4_readDeed 109 = .ok (.bipush 31, 2) := by decide +kernel
theorem dX4_readDeed_111 : decode cX4_readDeed 111 = .ok (.goto 5, 3) := by decide +kernel
theorem dX4_readDeed_114 : decode cX4_readDeed 114 = .ok (.bipush 32, 2) := by decide +kernel
theorem dX4_readDeed_116 : decode cX4_readDeed 116 = .ok (.invokevirtual 72, 3) := by decide +kernel
theorem dX4_readDeed_119 : decode cX4_readDeed 119 = .ok (.aload_n 0, 1) := by decide +kernel
theorem dX4_readDeed_120 : decode cX4_readDeed 120 = .ok (.iconst 0, 1) := by decide +kernel
theorem dX4_readDeed_121 : decode cX4_readDeed 121 = .ok (.bipush 6, 2) := by decide +kernel
theorem dX4_readDeed_123 : decode cX4_readDeed 123 = .ok (.invokevirtual 128, 3) := by decide +kernel
theorem dX4_readDeed_126 : decode cX4_readDeed 126 = .ok (.istore_n 3, 1) := by decide +kernel
theorem dX4_readDeed_127 : decode cX4_readDeed 127 = .ok (.aload_n 0, 1) := by decide +kernel
theorem dX4_readDeed_128 : decode cX4_readDeed 128 = .ok (.getfield 12, 3) := by decide +kernel
theorem dX4_readDeed_131 : decode cX4_readDeed 131 = .ok (.iload_n 1, 1) := by decide +kernel
theorem dX4_readDeed_132 : decode cX4_readDeed 132 = .ok (.iload_n 2, 1) := by decide +kernel
theorem dX4_readDeed_133 : decode cX4_readDeed 133 = .ok (.iload_n 3, 1) := by decide +kernel
theorem dX4_readDeed_134 : decode cX4_readDeed 134 = .ok (.iload 4, 2) := by decide +kernel
theorem dX4_readDeed_136 : decode cX4_readDeed 136 = .ok (.invokevirtual 131, 3) := by decide +kernel
theorem dX4_readDeed_139 : decode cX4_readDeed 139 = .ok (.return_, 1) := by decide +kernel
def lX4_readDeed_86 (F : Nat) (K102 : mS → Int32 → Int32 → Option mS) (t : Nat) (a1 : Int32) (S : mS) (v3 : Int32) (v4 : Int32) (s0 : Int32) (s1 : Int32) : Option mS := bd (f_X4_expectNumber F S t s1 s0) fun q1 => if a1 = (28 : Int32) then (K102 q1.1 q1.2 v4) else (if a1 = (30 : Int32) then (K102 q1.1 q1.2 v4) else (bd (f_X5_appendClause F q1.1 (t + 1) a1 q1.2 v3 v4) fun q2 => some q2))
set_option maxHeartbeats 4000000 in
set_option maxRecDepth 100000 in
theorem gX4_readDeed_86 {x : mX} {F : Nat} {t : Nat} {a1 : Int32} {K102 : mS → Int32 → Int32 → Option mS} {R : mS} (ht : kd0 t = 4) (hK102 : ∀ (S : mS) (v2 : Int32) (v4 : Int32) , K102 S v2 v4 = some R → mG x μX4_readDeed 3 0 0 (mQe R none) 0 0 E0 S 102 [(0, .ref (t)), (1, .int (a1)), (2, .int (v2)), (4, .int (v4))] []) (S : mS) (v3 : Int32) (v4 : Int32) (s0 : Int32) (s1 : Int32) (ks2 : kd0 (t) = 4) (h : lX4_readDeed_86 F K102 t a1 S v3 v4 s0 s1 = some R) : mG x μX4_readDeed 3 0 0 (mQe R none) 0 0 E0 S 86 [(0, .ref (t)), (1, .int (a1)), (3, .int (v3)), (4, .int (v4))] [.int (s0), .int (s1), .ref (t)] := by
  unfold lX4_readDeed_86 at h
  obtain ⟨q1, hq1, h⟩ := bdp h
  refine mG.callV0 (as := [.int (s1), .int (s0)]) (st := []) (S2 := q1.1) (r := some (.int (q1.2))) dX4_readDeed_86 mvX4_expectNumber wk18_13 rfl ks2 rfl (by decide) (Nat.le_of_ble_eq_true rfl) (c_X4_expectNumber ks2 hq1) ?_
  refine mG.istore_n (lv2 := [(2, .int (q1.2)), (0, .ref (t)), (1, .int (a1)), (3, .int (v3)), (4, .int (v4))]) dX4_readDeed_89 rfl (by decide) rfl ?_
  refine mG.iload_n 2 dX4_readDeed_90 rfl ?_
  refine mG.bipush (v := 28) dX4_readDeed_91 (by decide) ?_
  refine mG.icmp_eq 102 dX4_readDeed_93 (by decide) (fun c4 => ?_) (fun c4 => ?_)
  · replace h := itp c4 h
    refine mG.sub (lv2 := [(0, .ref (t)), (1, .int (a1)), (2, .int (q1.2)), (4, .int (v4))]) [1, 2, 0, 4] rfl ?_
    exact hK102 q1.1 q1.2 v4  h
  · replace h := itn c4 h
    refine mG.iload_n 2 dX4_readDeed_96 rfl ?_
    refine mG.bipush (v := 30) dX4_readDeed_97 (by decide) ?_
    refine mG.icmp_ne 127 dX4_readDeed_99 (by decide) (fun c3 => ?_) (fun c3 => ?_)
    · replace h := itn c3 h
      refine mG.aload_n 1 dX4_readDeed_127 rfl ?_
      refine mG.get (v := .ref (t + 1)) dX4_readDeed_128 mfX4_12 ht (lr4_draft ht) ?_
      refine mG.iload_n 2 dX4_readDeed_131 rfl ?_
      refine mG.iload_n 0 dX4_readDeed_132 rfl ?_
      refine mG.iload_n 3 dX4_readDeed_133 rfl ?_
      refine mG.iload 4 dX4_readDeed_134 rfl ?_
      obtain ⟨q2, hq2, h⟩ := bdp h
      refine mG.callV0 (as := [.int (a1), .int (q1.2), .int (v3), .int (v4)]) (st := []) (S2 := q2) (r := none) dX4_readDeed_136 mvX5_appendClause wk19_4 rfl (lk4_draft ht) rfl (by decide) (Nat.le_of_ble_eq_true rfl) (c_X5_appendClause (lk4_draft ht) hq2) ?_
      obtain rfl := Option.some.inj h
      exact mG.vret dX4_readDeed_139 rfl ⟨rfl, rfl, rfl⟩
    · replace h := itp c3 h
      refine mG.sub (lv2 := [(0, .ref (t)), (1, .int (a1)), (2, .int (q1.2)), (4, .int (v4))]) [1, 2, 0, 4] rfl ?_
      exact hK102 q1.1 q1.2 v4  h
def lX4_readDeed_102 (F : Nat) (K116 : mS → Int32 → Int32 → Int32 → Option mS) (t : Nat) (a1 : Int32) (S : mS) (v2 : Int32) (v4 : Int32) : Option mS := if a1 = (28 : Int32) then (K116 S v2 v4 (31 : Int32)) else (K116 S v2 v4 (32 : Int32))
set_option maxHeartbeats 4000000 in
set_option maxRecDepth 100000 in
theorem gX4_readDeed_102 {x : mX} {F : Nat} {t : Nat} {a1 : Int32} {K116 : mS → Int32 → Int32 → Int32 → Option mS} {R : mS} (ht : kd0 t = 4) (hK116 : ∀ (S : mS) (v2 : Int32) (v4 : Int32) (s0 : Int32) (ks1 : kd0 (t) = 4), K116 S v2 v4 s0 = some R → mG x μX4_readDeed 3 0 0 (mQe R none) 0 0 E0 S 116 [(0, .ref (t)), (1, .int (a1)), (2, .int (v2)), (4, .int (v4))] [.int (s0), .ref (t)]) (S : mS) (v2 : Int32) (v4 : Int32)  (h : lX4_readDeed_102 F K116 t a1 S v2 v4 = some R) : mG x μX4_readDeed 3 0 0 (mQe R none) 0 0 E0 S 102 [(0, .ref (t)), (1, .int (a1)), (2, .int (v2)), (4, .int (v4))] [] := by
  unfold lX4_readDeed_102 at h
  refine mG.aload_n 0 dX4_readDeed_102 rfl ?_
  refine mG.iload_n 1 dX4_readDeed_103 rfl ?_
  refine mG.bipush (v := 28) dX4_readDeed_104 (by decide) ?_
  refine mG.icmp_ne 114 dX4_readDeed_106 (by decide) (fun c1 => ?_) (fun c1 => ?_)
  · replace h := itn c1 h
    refine mG.bipush (v := 32) dX4_readDeed_114 (by decide) ?_
    refine mG.sub (lv2 := [(0, .ref (t)), (1, .int (a1)), (2, .int (v2)), (4, .int (v4))]) [0, 1, 2, 3] rfl ?_
    exact hK116 S v2 v4 (32 : Int32) ht h
  · replace h := itp c1 h
    refine mG.bipush (v := 31) dX4_readDeed_109 (by decide) ?_
    refine mG.goto 116 dX4_readDeed_111 (by decide) ?_
    refine mG.sub (lv2 := [(0, .ref (t)), (1, .int (a1)), (2, .int (v2)), (4, .int (v4))]) [0, 1, 2, 3] rfl ?_
    exact hK116 S v2 v4 (31 : Int32) ht h
def lX4_readDeed_116 (F : Nat)  (t : Nat) (a1 : Int32) (S : mS) (v2 : Int32) (v4 : Int32) (s0 : Int32) : Option mS := bd (f_X4_expect F S t s0) fun q1 => bd (f_X4_expectNumber F q1 t (0 : Int32) (6 : Int32)) fun q2 => bd (f_X5_appendClause F q2.1 (t + 1) a1 v2 q2.2 v4) fun q3 => some q3
set_option maxHeartbeats 4000000 in
set_option maxRecDepth 100000 in
theorem gX4_readDeed_116 {x : mX} {F : Nat} {t : Nat} {a1 : Int32}  {R : mS} (ht : kd0 t = 4)  (S : mS) (v2 : Int32) (v4 : Int32) (s0 : Int32) (ks1 : kd0 (t) = 4) (h : lX4_readDeed_116 F  t a1 S v2 v4 s0 = some R) : mG x μX4_readDeed 3 0 0 (mQe R none) 0 0 E0 S 116 [(0, .ref (t)), (1, .int (a1)), (2, .int (v2)), (4, .int (v4))] [.int (s0), .ref (t)] := by
  unfold lX4_readDeed_116 at h
  obtain ⟨q1, hq1, h⟩ := bdp h
  refine mG.callV0 (as := [.int (s0)]) (st := []) (S2 := q1) (r := none) dX4_readDeed_116 mvX4_expect wk18_5 rfl ks1 rfl (by decide) (Nat.le_of_ble_eq_true rfl) (c_X4_expect ks1 hq1) ?_
  refine mG.aload_n 0 dX4_readDeed_119 rfl ?_
  refine mG.iconst (v := 0) dX4_readDeed_120 rfl ?_
  refine mG.bipush (v := 6) dX4_readDeed_121 (by decide) ?_
  obtain ⟨q2, hq2, h⟩ := bdp h
  refine mG.callV0 (as := [.int 0, .int 6]) (st := []) (S2 := q2.1) (r := some (.int (q2.2))) dX4_readDeed_123 mvX4_expectNumber wk18_13 rfl ht rfl (by decide) (Nat.le_of_ble_eq_true rfl) (c_X4_expectNumber ht hq2) ?_
  refine mG.istore_n (lv2 := [(3, .int (q2.2)), (0, .ref (t)), (1, .int (a1)), (2, .int (v2)), (4, .int (v4))]) dX4_readDeed_126 rfl (by decide) rfl ?_
  refine mG.aload_n 1 dX4_readDeed_127 rfl ?_
  refine mG.get (v := .ref (t + 1)) dX4_readDeed_128 mfX4_12 ht (lr4_draft ht) ?_
  refine mG.iload_n 2 dX4_readDeed_131 rfl ?_
  refine mG.iload_n 3 dX4_readDeed_132 rfl ?_
  refine mG.iload_n 0 dX4_readDeed_133 rfl ?_
  refine mG.iload 4 dX4_readDeed_134 rfl ?_
  obtain ⟨q3, hq3, h⟩ := bdp h
  refine mG.callV0 (as := [.int (a1), .int (v2), .int (q2.2), .int (v4)]) (st := []) (S2 := q3) (r := none) dX4_readDeed_136 mvX5_appendClause wk19_4 rfl (lk4_draft ht) rfl (by decide) (Nat.le_of_ble_eq_true rfl) (c_X5_appendClause (lk4_draft ht) hq3) ?_
  obtain rfl := Option.some.inj h
  exact mG.vret dX4_readDeed_139 rfl ⟨rfl, rfl, rfl⟩
def f_X4_readDeed (F : Nat) (S : mS) (t : Nat) (a1 : Int32) : Option mS := if a1 = (16 : Int32) then (bd (f_X4_expectNumber F S t (1 : Int32) (60 : Int32)) fun q9 => bd (f_X5_appendClause F q9.1 (t + 1) a1 q9.2 (-1 : Int32) (-1 : Int32)) fun q10 => some q10) else (if a1 = (18 : Int32) then (bd (f_X4_expectNumber F S t (0 : Int32) (19 : Int32)) fun q2 => bd (f_X4_expect F q2.1 t (19 : Int32)) fun q3 => bd (f_X4_expectNumber F q3 t (0 : Int32) (9999 : Int32)) fun q4 => bd (f_X4_expect F q4.1 t (20 : Int32)) fun q5 => bd (f_X4_expectNumber F q5 t (0 : Int32) (99 : Int32)) fun q6 => bd (f_X5_appendClause F q6.1 (t + 1) a1 q2.2 q4.2 q6.2) fun q7 => some q7) else (if a1 = (30 : Int32) then (lX4_readDeed_86 F (fun (S : mS) (v2 : Int32) (v4 : Int32) => lX4_readDeed_102 F (fun (S : mS) (v2 : Int32) (v4 : Int32) (s0 : Int32) => lX4_readDeed_116 F  t a1 S v2 v4 s0) t a1 S v2 v4) t a1 S (-1 : Int32) (-1 : Int32) (19 : Int32) (0 : Int32)) else (lX4_readDeed_86 F (fun (S : mS) (v2 : Int32) (v4 : Int32) => lX4_readDeed_102 F (fun (S : mS) (v2 : Int32) (v4 : Int32) (s0 : Int32) => lX4_readDeed_116 F  t a1 S v2 v4 s0) t a1 S v2 v4) t a1 S (-1 : Int32) (-1 : Int32) (6 : Int32) (0 : Int32))))
set_option maxHeartbeats 4000000 in
set_option maxRecDepth 100000 in
theorem c_X4_readDeed {F : Nat} {S : mS} {t : Nat} {a1 : Int32} {R : mS} (ht : kd0 t = 4) (h : f_X4_readDeed F S t a1 = some R) : mCt μX4_readDeed 3 0 0 E0 S [.ref (t), .int (a1)] (mQe R none) := by
  unfold f_X4_readDeed at h
  refine mCt.of (by decide) (Nat.le_of_ble_eq_true rfl) ?_
  intro x
  refine mG.iconst (v := (-1)) dX4_readDeed_0 rfl ?_
  refine mG.istore_n (lv2 := [(2, .int (-1)), (0, .ref (t)), (1, .int (a1))]) dX4_readDeed_1 rfl (by decide) rfl ?_
  refine mG.iconst (v := (-1)) dX4_readDeed_2 rfl ?_
  refine mG.istore_n (lv2 := [(3, .int (-1)), (2, .int (-1)), (0, .ref (t)), (1, .int (a1))]) dX4_readDeed_3 rfl (by decide) rfl ?_
  refine mG.iconst (v := (-1)) dX4_readDeed_4 rfl ?_
  refine mG.istore (lv2 := [(4, .int (-1)), (3, .int (-1)), (2, .int (-1)), (0, .ref (t)), (1, .int (a1))]) dX4_readDeed_5 (by decide) rfl ?_
  refine mG.iload_n 4 dX4_readDeed_7 rfl ?_
  refine mG.bipush (v := 16) dX4_readDeed_8 (by decide) ?_
  refine mG.icmp_ne 24 dX4_readDeed_10 (by decide) (fun c11 => ?_) (fun c11 => ?_)
  · replace h := itn c11 h
    refine mG.iload_n 4 dX4_readDeed_24 rfl ?_
    refine mG.bipush (v := 18) dX4_readDeed_25 (by decide) ?_
    refine mG.icmp_ne 71 dX4_readDeed_27 (by decide) (fun c8 => ?_) (fun c8 => ?_)
    · replace h := itn c8 h
      refine mG.aload_n 3 dX4_readDeed_71 rfl ?_
      refine mG.iconst (v := 0) dX4_readDeed_72 rfl ?_
      refine mG.iload_n 4 dX4_readDeed_73 rfl ?_
      refine mG.bipush (v := 30) dX4_readDeed_74 (by decide) ?_
      refine mG.icmp_ne 84 dX4_readDeed_76 (by decide) (fun c1 => ?_) (fun c1 => ?_)
      · replace h := itn c1 h
        refine mG.bipush (v := 6) dX4_readDeed_84 (by decide) ?_
        refine mG.sub (lv2 := [(0, .ref (t)), (1, .int (a1)), (3, .int (-1)), (4, .int (-1))]) [3, 4, 1, 0] rfl ?_
        exact gX4_readDeed_86 ht (fun S v2 v4 h => by exact gX4_readDeed_102 ht (fun S v2 v4 s0 ks1 h => by exact gX4_readDeed_116 ht   S v2 v4 s0 ks1 h)  S v2 v4  h)  S (-1 : Int32) (-1 : Int32) (6 : Int32) (0 : Int32) ht h
      · replace h := itp c1 h
        refine mG.bipush (v := 19) dX4_readDeed_79 (by decide) ?_
        refine mG.goto 86 dX4_readDeed_81 (by decide) ?_
        refine mG.sub (lv2 := [(0, .ref (t)), (1, .int (a1)), (3, .int (-1)), (4, .int (-1))]) [3, 4, 1, 0] rfl ?_
        exact gX4_readDeed_86 ht (fun S v2 v4 h => by exact gX4_readDeed_102 ht (fun S v2 v4 s0 ks1 h => by exact gX4_readDeed_116 ht   S v2 v4 s0 ks1 h)  S v2 v4  h)  S (-1 : Int32) (-1 : Int32) (19 : Int32) (0 : Int32) ht h
    · replace h := itp c8 h
      refine mG.aload_n 3 dX4_readDeed_30 rfl ?_
      refine mG.iconst (v := 0) dX4_readDeed_31 rfl ?_
      refine mG.bipush (v := 19) dX4_readDeed_32 (by decide) ?_
      obtain ⟨q2, hq2, h⟩ := bdp h
      refine mG.callV0 (as := [.int 0, .int 19]) (st := []) (S2 := q2.1) (r := some (.int (q2.2))) dX4_readDeed_34 mvX4_expectNumber wk18_13 rfl ht rfl (by decide) (Nat.le_of_ble_eq_true rfl) (c_X4_expectNumber ht hq2) ?_
      refine mG.istore_n (lv2 := [(2, .int (q2.2)), (4, .int (-1)), (3, .int (-1)), (0, .ref (t)), (1, .int (a1))]) dX4_readDeed_37 rfl (by decide) rfl ?_
      refine mG.aload_n 3 dX4_readDeed_38 rfl ?_
      refine mG.bipush (v := 19) dX4_readDeed_39 (by decide) ?_
      obtain ⟨q3, hq3, h⟩ := bdp h
      refine mG.callV0 (as := [.int 19]) (st := []) (S2 := q3) (r := none) dX4_readDeed_41 mvX4_expect wk18_5 rfl ht rfl (by decide) (Nat.le_of_ble_eq_true rfl) (c_X4_expect ht hq3) ?_
      refine mG.aload_n 3 dX4_readDeed_44 rfl ?_
      refine mG.iconst (v := 0) dX4_readDeed_45 rfl ?_
      refine mG.sipush (v := 9999) dX4_readDeed_46 (by decide) ?_
      obtain ⟨q4, hq4, h⟩ := bdp h
      refine mG.callV0 (as := [.int 0, .int 9999]) (st := []) (S2 := q4.1) (r := some (.int (q4.2))) dX4_readDeed_49 mvX4_expectNumber wk18_13 rfl ht rfl (by decide) (Nat.le_of_ble_eq_true rfl) (c_X4_expectNumber ht hq4) ?_
      refine mG.istore_n (lv2 := [(3, .int (q4.2)), (2, .int (q2.2)), (4, .int (-1)), (0, .ref (t)), (1, .int (a1))]) dX4_readDeed_52 rfl (by decide) rfl ?_
      refine mG.aload_n 3 dX4_readDeed_53 rfl ?_
      refine mG.bipush (v := 20) dX4_readDeed_54 (by decide) ?_
      obtain ⟨q5, hq5, h⟩ := bdp h
      refine mG.callV0 (as := [.int 20]) (st := []) (S2 := q5) (r := none) dX4_readDeed_56 mvX4_expect wk18_5 rfl ht rfl (by decide) (Nat.le_of_ble_eq_true rfl) (c_X4_expect ht hq5) ?_
      refine mG.aload_n 3 dX4_readDeed_59 rfl ?_
      refine mG.iconst (v := 0) dX4_readDeed_60 rfl ?_
      refine mG.bipush (v := 99) dX4_readDeed_61 (by decide) ?_
      obtain ⟨q6, hq6, h⟩ := bdp h
      refine mG.callV0 (as := [.int 0, .int 99]) (st := []) (S2 := q6.1) (r := some (.int (q6.2))) dX4_readDeed_63 mvX4_expectNumber wk18_13 rfl ht rfl (by decide) (Nat.le_of_ble_eq_true rfl) (c_X4_expectNumber ht hq6) ?_
      refine mG.istore (lv2 := [(4, .int (q6.2)), (3, .int (q4.2)), (2, .int (q2.2)), (0, .ref (t)), (1, .int (a1))]) dX4_readDeed_66 (by decide) rfl ?_
      refine mG.goto 127 dX4_readDeed_68 (by decide) ?_
      refine mG.aload_n 3 dX4_readDeed_127 rfl ?_
      refine mG.get (v := .ref (t + 1)) dX4_readDeed_128 mfX4_12 ht (lr4_draft ht) ?_
      refine mG.iload_n 4 dX4_readDeed_131 rfl ?_
      refine mG.iload_n 2 dX4_readDeed_132 rfl ?_
      refine mG.iload_n 1 dX4_readDeed_133 rfl ?_
      refine mG.iload 0 dX4_readDeed_134 rfl ?_
      obtain ⟨q7, hq7, h⟩ := bdp h
      refine mG.callV0 (as := [.int (a1), .int (q2.2), .int (q4.2), .int (q6.2)]) (st := []) (S2 := q7) (r := none) dX4_readDeed_136 mvX5_appendClause wk19_4 rfl (lk4_draft ht) rfl (by decide) (Nat.le_of_ble_eq_true rfl) (c_X5_appendClause (lk4_draft ht) hq7) ?_
      obtain rfl := Option.some.inj h
      exact mG.vret dX4_readDeed_139 rfl ⟨rfl, rfl, rfl⟩
  · replace h := itp c11 h
    refine mG.aload_n 3 dX4_readDeed_13 rfl ?_
    refine mG.iconst (v := 1) dX4_readDeed_14 rfl ?_
    refine mG.bipush (v := 60) dX4_readDeed_15 (by decide) ?_
    obtain ⟨q9, hq9, h⟩ := bdp h
    refine mG.callV0 (as := [.int 1, .int 60]) (st := []) (S2 := q9.1) (r := some (.int (q9.2))) dX4_readDeed_17 mvX4_expectNumber wk18_13 rfl ht rfl (by decide) (Nat.le_of_ble_eq_true rfl) (c_X4_expectNumber ht hq9) ?_
    refine mG.istore_n (lv2 := [(2, .int (q9.2)), (4, .int (-1)), (3, .int (-1)), (0, .ref (t)), (1, .int (a1))]) dX4_readDeed_20 rfl (by decide) rfl ?_
    refine mG.goto 127 dX4_readDeed_21 (by decide) ?_
    refine mG.aload_n 3 dX4_readDeed_127 rfl ?_
    refine mG.get (v := .ref (t + 1)) dX4_readDeed_128 mfX4_12 ht (lr4_draft ht) ?_
    refine mG.iload_n 4 dX4_readDeed_131 rfl ?_
    refine mG.iload_n 0 dX4_readDeed_132 rfl ?_
    refine mG.iload_n 2 dX4_readDeed_133 rfl ?_
    refine mG.iload 1 dX4_readDeed_134 rfl ?_
    obtain ⟨q10, hq10, h⟩ := bdp h
    refine mG.callV0 (as := [.int (a1), .int (q9.2), .int (-1), .int (-1)]) (st := []) (S2 := q10) (r := none) dX4_readDeed_136 mvX5_appendClause wk19_4 rfl (lk4_draft ht) rfl (by decide) (Nat.le_of_ble_eq_true rfl) (c_X5_appendClause (lk4_draft ht) hq10) ?_
    obtain rfl := Option.some.inj h
    exact mG.vret dX4_readDeed_139 rfl ⟨rfl, rfl, rfl⟩
theorem dX4_isRelation_0 : decode cX4_isRelation 0 = .ok (.iload_n 0, 1) := by decide +kernel
theorem dX4_isRelation_1 : decode cX4_isRelation 1 = .ok (.iconst 3, 1) := by decide +kernel
theorem dX4_isRelation_2 : decode cX4_isRelation 2 = .ok (.bipush 6, 2) := by decide +kernel
theorem dX4_isRelation_4 : decode cX4_isRelation 4 = .ok (.invokestatic 118, 3) := by decide +kernel
theorem dX4_isRelation_7 : decode cX4_isRelation 7 = .ok (.ifCond .ne 20, 3) := by decide +kernel
theorem dX4_isRelation_10 : decode cX4_isRelation 10 = .ok (.iload_n 0, 1) := by decide +kernel
theorem dX4_isRelation_11 : decode cX4_isRelation 11 = .ok (.bipush 14, 2) := by decide +kernel
theorem dX4_isRelation_13 : decode cX4_isRelation 13 = .ok (.bipush 15, 2) := by decide +kernel
theorem dX4_isRelation_15 : decode cX4_isRelation 15 = .ok (.invokestatic 118, 3) := by decide +kernel
theorem dX4_isRelation_18 : decode cX4_isRelation 18 = .ok (.ifCond .ne 9, 3) := by decide +kernel
theorem dX4_isRelation_21 : decode cX4_isRelation 21 = .ok (.iload_n 0, 1) := by decide +kernel
theorem dX4_isRelation_22 : decode cX4_isRelation 22 = .ok (.bipush 36, 2) := by decide +kernel
theorem dX4_isRelation_24 : decode cX4_isRelation 24 = .ok (.if_icmp .ne 7, 3) := by decide +kernel
theorem dX4_isRelation_27 : decode cX4_isRelation 27 = .ok (.iconst 1, 1) := by decide +kernel
theorem dX4_isRelation_28 : decode cX4_isRelation 28 = .ok (.goto 4, 3) := by decide +kernel
theorem dX4_isRelation_31 : decode cX4_isRelation 31 = .ok (.iconst 0, 1) := by decide +kernel
theorem dX4_isRelation_32 : decode cX4_isRelation 32 = .ok (.ireturn, 1) := by decide +kernel
def f_X4_isRelation (S0 : mS) (a1 : Int32) : Bool := if (f_X8_isWithin S0 a1 (3 : Int32) (6 : Int32)) = true then (true) else (if (f_X8_isWithin S0 a1 (14 : Int32) (15 : Int32)) = true then (true) else (if a1 = (36 : Int32) then (true) else (false)))
set_option maxHeartbeats 4000000 in
set_option maxRecDepth 100000 in
theorem c_X4_isRelation {S0 : mS} {a1 : Int32} {R : Bool}  (h : f_X4_isRelation S0 a1 = R) : mCt μX4_isRelation 2 0 0 E0 S0 [.int (a1)] (mQe S0 (some (.int (bI R)))) := by
  unfold f_X4_isRelation at h
  refine mCt.of (by decide) (Nat.le_of_ble_eq_true rfl) ?_
  intro x
  refine mG.iload_n 0 dX4_isRelation_0 rfl ?_
  refine mG.iconst (v := 3) dX4_isRelation_1 rfl ?_
  refine mG.bipush (v := 6) dX4_isRelation_2 (by decide) ?_
  refine mG.callSN0 (as := [.int (a1), .int 3, .int 6]) (st := []) (S2 := S0) (r := some (.int (bI (f_X8_isWithin S0 a1 (3 : Int32) (6 : Int32))))) dX4_isRelation_4 mbX8_isWithin wk6_19 (List.mem_of_getElem? (i := 9) rfl) rfl rfl (by decide) (Nat.le_of_ble_eq_true rfl) (c_X8_isWithin  rfl) ?_
  refine mG.ifz_ne (b := f_X8_isWithin S0 a1 (3 : Int32) (6 : Int32)) 27 dX4_isRelation_7 (by decide) (fun c3 => ?_) (fun c3 => ?_)
  · replace h := itp c3 h
    refine mG.iconst (v := 1) dX4_isRelation_27 rfl ?_
    refine mG.goto 32 dX4_isRelation_28 (by decide) ?_
    subst h
    exact mG.zret (b := true) dX4_isRelation_32 rfl rfl ⟨rfl, rfl, rfl⟩
  · replace h := itn c3 h
    refine mG.iload_n 0 dX4_isRelation_10 rfl ?_
    refine mG.bipush (v := 14) dX4_isRelation_11 (by decide) ?_
    refine mG.bipush (v := 15) dX4_isRelation_13 (by decide) ?_
    refine mG.callSN0 (as := [.int (a1), .int 14, .int 15]) (st := []) (S2 := S0) (r := some (.int (bI (f_X8_isWithin S0 a1 (14 : Int32) (15 : Int32))))) dX4_isRelation_15 mbX8_isWithin wk6_19 (List.mem_of_getElem? (i := 9) rfl) rfl rfl (by decide) (Nat.le_of_ble_eq_true rfl) (c_X8_isWithin  rfl) ?_
    refine mG.ifz_ne (b := f_X8_isWithin S0 a1 (14 : Int32) (15 : Int32)) 27 dX4_isRelation_18 (by decide) (fun c2 => ?_) (fun c2 => ?_)
    · replace h := itp c2 h
      refine mG.iconst (v := 1) dX4_isRelation_27 rfl ?_
      refine mG.goto 32 dX4_isRelation_28 (by decide) ?_
      subst h
      exact mG.zret (b := true) dX4_isRelation_32 rfl rfl ⟨rfl, rfl, rfl⟩
    · replace h := itn c2 h
      refine mG.iload_n 0 dX4_isRelation_21 rfl ?_
      refine mG.bipush (v := 36) dX4_isRelation_22 (by decide) ?_
      refine mG.icmp_ne 31 dX4_isRelation_24 (by decide) (fun c1 => ?_) (fun c1 => ?_)
      · replace h := itn c1 h
        refine mG.iconst (v := 0) dX4_isRelation_31 rfl ?_
        subst h
        exact mG.zret (b := false) dX4_isRelation_32 rfl rfl ⟨rfl, rfl, rfl⟩
      · replace h := itp c1 h
        refine mG.iconst (v := 1) dX4_isRelation_27 rfl ?_
        refine mG.goto 32 dX4_isRelation_28 (by decide) ?_
        subst h
        exact mG.zret (b := true) dX4_isRelation_32 rfl rfl ⟨rfl, rfl, rfl⟩
theorem dX4_readAsk_0 : decode cX4_readAsk 0 = .ok (.iconst 0, 1) := by decide +kernel
theorem dX4_readAsk_1 : decode cX4_readAsk 1 = .ok (.istore_n 1, 1) := by decide +kernel
theorem dX4_readAsk_2 : decode cX4_readAsk 2 = .ok (.iload_n 1, 1) := by decide +kernel
theorem dX4_readAsk_3 : decode cX4_readAsk 3 = .ok (.bipush 8, 2) := by decide +kernel
theorem dX4_readAsk_5 : decode cX4_readAsk 5 = .ok (.if_icmp .gt 26, 3) := by decide +kernel
theorem dX4_readAsk_8 : decode cX4_readAsk 8 = .ok (.aload_n 0, 1) := by decide +kernel
theorem dX4_readAsk_9 : decode cX4_readAsk 9 = .ok (.invokevirtual 51, 3) := by decide +kernel
theorem dX4_readAsk_12 : decode cX4_readAsk 12 = .ok (.bipush 35, 2) := by decide +kernel
theorem dX4_readAsk_14 : decode cX4_readAsk 14 = .ok (.if_icmp .ne 17, 3) := by decide +kernel
theorem dX4_readAsk_17 : decode cX4_readAsk 17 = .ok (.aload_n 0, 1) := by decide +kernel
theorem dX4_readAsk_18 : decode cX4_readAsk 18 = .ok (.iload_n 1, 1) := by decide +kernel
theorem dX4_readAsk_19 : decode cX4_readAsk 19 = .ok (.invokevirtual 160, 3) := by decide +kernel
theorem dX4_readAsk_22 : decode cX4_readAsk 22 = .ok (.ifCond .eq 9, 3) := by decide +kernel
theorem dX4_readAsk_25 : decode cX4_readAsk 25 = .ok (.iinc 1 1, 3) := by decide +kernel
theorem dX4_readAsk_28 : decode cX4_readAsk 28 = .ok (.goto (-26), 3) := by decide +kernel
theorem dX4_readAsk_31 : decode cX4_readAsk 31 = .ok (.aload_n 0, 1) := by decide +kernel
theorem dX4_readAsk_32 : decode cX4_readAsk 32 = .ok (.iload_n 1, 1) := by decide +kernel
theorem dX4_readAsk_33 : decode cX4_readAsk 33 = .ok (.invokevirtual 148, 3) := by decide +kernel
theorem dX4_readAsk_36 : decode cX4_readAsk 36 = .ok (.aload_n 0, 1) := by decide +kernel
theorem dX4_readAsk_37 : decode cX4_readAsk 37 = .ok (.invokevirtual 51, 3) := by decide +kernel
theorem dX4_readAsk_40 : decode cX4_readAsk 40 = .ok (.istore_n 2, 1) := by decide +kernel
theorem dX4_readAsk_41 : decode cX4_readAsk 41 = .ok (.iload_n 2, 1) := by decide +kernel
theorem dX4_readAsk_42 : decode cX4_readAsk 42 = .ok (.invokestatic 163, 3) := by decide +kernel
theorem dX4_readAsk_45 : decode cX4_readAsk 45 = .ok (.ifCond .ne 8, 3) := by decide +kernel
theorem dX4_readAsk_48 : decode cX4_readAsk 48 = .ok (.aload_n 0, 1) := by decide +kernel
theorem dX4_readAsk_49 : decode cX4_readAsk 49 = .ok (.iconst 1, 1) := by decide +kernel
theorem dX4_readAsk_50 : decode cX4_readAsk 50 = .ok (.invokevirtual 115, 3) := by decide +kernel
theorem dX4_readAsk_53 : decode cX4_readAsk 53 = .ok (.aload_n 0, 1) := by decide +kernel
theorem dX4_readAsk_54 : decode cX4_readAsk 54 = .ok (.invokevirtual 59, 3) := by decide +kernel
theorem dX4_readAsk_57 : decode cX4_readAsk 57 = .ok (.aload_n 0, 1) := by decide +kernel
theorem dX4_readAsk_58 : decode cX4_readAsk 58 = .ok (.iload_n 1, 1) := by decide +kernel
theorem dX4_readAsk_59 : decode cX4_readAsk 59 = .ok (.invokevirtual 148, 3) := by decide +kernel
theorem dX4_readAsk_62 : decode cX4_readAsk 62 = .ok (.aload_n 0, 1) := by decide +kernel
theorem dX4_readAsk_63 : decode cX4_readAsk 63 = .ok (.iload_n 2, 1) := by decide +kernel
theorem dX4_readAsk_64 : decode cX4_readAsk 64 = .ok (.invokevirtual 157, 3) := by decide +kernel
theorem dX4_readAsk_67 : decode cX4_readAsk 67 = .ok (.iconst 0, 1) := by decide +kernel
theorem dX4_readAsk_68 : decode cX4_readAsk 68 = .ok (.istore_n 3, 1) := by decide +kernel
theorem dX4_readAsk_69 : decode cX4_readAsk 69 = .ok (.iload_n 3, 1) := by decide +kernel
theorem dX4_readAsk_70 : decode cX4_readAsk 70 = .ok (.iload_n 1, 1) := by decide +kernel
theorem dX4_readAsk_71 : decode cX4_readAsk 71 = .ok (.if_icmp .ge 15, 3) := by decide +kernel
theorem dX4_readAsk_74 : decode cX4_readAsk 74 = .ok (.aload_n 0, 1) := by decide +kernel
theorem dX4_readAsk_75 : decode cX4_readAsk 75 = .ok (.bipush 35, 2) := by decide +kernel
theorem dX4_readAsk_77 : decode cX4_readAsk 77 = .ok (.invokevirtual 157, 3) := by decide +kernel
theorem dX4_readAsk_80 : decode cX4_readAsk 80 = .ok (.iinc 3 1, 3) := by decide +kernel
theorem dX4_readAsk_83 : decode cX4_readAsk 83 = .ok (.goto (-14), 3) := by decide +kernel
theorem dX4_readAsk_86 : decode cX4_readAsk 86 = .ok (.return_, 1) := by decide +kernel
def lX4_readAsk_2 (F : Nat) (K31 : mS → Int32 → Option mS) (t : Nat) : Nat → mS → Int32 → Option mS
  | 0, _, _ => none
  | n + 1, S, v1 => if (8 : Int32) < v1 then (K31 S v1) else (bd (f_X4_kind F S t) fun q1 => if q1 = (35 : Int32) then (bd (f_X4_canEnter F S t v1) fun q2 => if q2.2 = true then (lX4_readAsk_2 F K31 t n q2.1 (v1 + 1)) else (K31 q2.1 v1)) else (K31 S v1))
set_option maxHeartbeats 4000000 in
set_option maxRecDepth 100000 in
theorem gX4_readAsk_2 {x : mX} {F : Nat} {t : Nat}  {K31 : mS → Int32 → Option mS} {R : mS} (ht : kd0 t = 4) (hK31 : ∀ (S : mS) (v1 : Int32) , K31 S v1 = some R → mG x μX4_readAsk 73 0 0 (mQe R none) 0 0 E0 S 31 [(0, .ref (t)), (1, .int (v1))] []) : ∀ (n : Nat) (S : mS) (v1 : Int32), lX4_readAsk_2 F K31 t n S v1 = some R → mG x μX4_readAsk 73 0 0 (mQe R none) 0 0 E0 S 2 [(0, .ref (t)), (1, .int (v1))] [] := by
  intro n
  induction n with
  | zero =>
    intro S v1 h
    cases h
  | succ n ih =>
    intro S v1 h
    unfold lX4_readAsk_2 at h
    refine mG.iload_n 1 dX4_readAsk_2 rfl ?_
    refine mG.bipush (v := 8) dX4_readAsk_3 (by decide) ?_
    refine mG.icmp_gt 31 dX4_readAsk_5 (by decide) (fun c5 => ?_) (fun c5 => ?_)
    · replace h := itp c5 h
      refine mG.sub (lv2 := [(0, .ref (t)), (1, .int (v1))]) [0, 1] rfl ?_
      exact hK31 S v1  h
    · replace h := itn c5 h
      refine mG.aload_n 0 dX4_readAsk_8 rfl ?_
      obtain ⟨q1, hq1, h⟩ := bdp h
      refine mG.callV0 (as := []) (st := []) (S2 := S) (r := some (.int (q1))) dX4_readAsk_9 mvX4_kind wk15_17 rfl ht rfl (by decide) (Nat.le_of_ble_eq_true rfl) (c_X4_kind ht hq1) ?_
      refine mG.bipush (v := 35) dX4_readAsk_12 (by decide) ?_
      refine mG.icmp_ne 31 dX4_readAsk_14 (by decide) (fun c4 => ?_) (fun c4 => ?_)
      · replace h := itn c4 h
        refine mG.sub (lv2 := [(0, .ref (t)), (1, .int (v1))]) [0, 1] rfl ?_
        exact hK31 S v1  h
      · replace h := itp c4 h
        refine mG.aload_n 0 dX4_readAsk_17 rfl ?_
        refine mG.iload_n 1 dX4_readAsk_18 rfl ?_
        obtain ⟨q2, hq2, h⟩ := bdp h
        refine mG.callV0 (as := [.int (v1)]) (st := []) (S2 := q2.1) (r := some (.int (bI (q2.2)))) dX4_readAsk_19 mvX4_canEnter wk17_9 rfl ht rfl (by decide) (Nat.le_of_ble_eq_true rfl) (c_X4_canEnter ht hq2) ?_
        refine mG.ifz_eq (b := q2.2) 31 dX4_readAsk_22 (by decide) (fun c3 => ?_) (fun c3 => ?_)
        · replace h := itn c3 h
          refine mG.sub (lv2 := [(0, .ref (t)), (1, .int (v1))]) [0, 1] rfl ?_
          exact hK31 q2.1 v1  h
        · replace h := itp c3 h
          refine mG.iinc 1 (u := v1 + 1) (lv2 := [(1, .int (v1 + 1)), (0, .ref (t))]) dX4_readAsk_25 rfl rfl (by decide) rfl ?_
          refine mG.goto 2 dX4_readAsk_28 (by decide) ?_
          refine mG.sub (lv2 := [(0, .ref (t)), (1, .int (v1 + 1))]) [1, 0] rfl ?_
          exact ih q2.1 (v1 + 1)  h
def lX4_readAsk_31 (F : Nat) (K69 : mS → Int32 → Int32 → Option mS) (t : Nat) (S : mS) (v1 : Int32) : Option mS := bd (f_X4_readSum F S t v1) fun q1 => bd (f_X4_kind F q1 t) fun q2 => if (f_X4_isRelation q1 q2) = true then (bd (f_X4_advance F q1 t) fun q3 => bd (f_X4_readSum F q3 t v1) fun q4 => bd (f_X4_emit F q4 t q2) fun q5 => K69 q5 v1 (0 : Int32)) else (bd (f_X4_fail F q1 t (1 : Int32)) fun q6 => bd (f_X4_advance F q6 t) fun q7 => bd (f_X4_readSum F q7 t v1) fun q8 => bd (f_X4_emit F q8 t q2) fun q9 => K69 q9 v1 (0 : Int32))
set_option maxHeartbeats 4000000 in
set_option maxRecDepth 100000 in
theorem gX4_readAsk_31 {x : mX} {F : Nat} {t : Nat} {K69 : mS → Int32 → Int32 → Option mS} {R : mS} (ht : kd0 t = 4) (hK69 : ∀ (S : mS) (v1 : Int32) (v3 : Int32) , K69 S v1 v3 = some R → mG x μX4_readAsk 73 0 0 (mQe R none) 0 0 E0 S 69 [(0, .ref (t)), (1, .int (v1)), (3, .int (v3))] []) (S : mS) (v1 : Int32)  (h : lX4_readAsk_31 F K69 t S v1 = some R) : mG x μX4_readAsk 73 0 0 (mQe R none) 0 0 E0 S 31 [(0, .ref (t)), (1, .int (v1))] [] := by
  unfold lX4_readAsk_31 at h
  refine mG.aload_n 0 dX4_readAsk_31 rfl ?_
  refine mG.iload_n 1 dX4_readAsk_32 rfl ?_
  obtain ⟨q1, hq1, h⟩ := bdp h
  refine mG.callV0 (as := [.int (v1)]) (st := []) (S2 := q1) (r := none) dX4_readAsk_33 mvX4_readSum wk17_13 rfl ht rfl (by decide) (Nat.le_of_ble_eq_true rfl) (c_X4_readSum ht hq1) ?_
  refine mG.aload_n 0 dX4_readAsk_36 rfl ?_
  obtain ⟨q2, hq2, h⟩ := bdp h
  refine mG.callV0 (as := []) (st := []) (S2 := q1) (r := some (.int (q2))) dX4_readAsk_37 mvX4_kind wk15_17 rfl ht rfl (by decide) (Nat.le_of_ble_eq_true rfl) (c_X4_kind ht hq2) ?_
  refine mG.istore_n (lv2 := [(2, .int (q2)), (0, .ref (t)), (1, .int (v1))]) dX4_readAsk_40 rfl (by decide) rfl ?_
  refine mG.iload_n 0 dX4_readAsk_41 rfl ?_
  refine mG.callS0 (as := [.int (q2)]) (st := []) (S2 := q1) (r := some (.int (bI (f_X4_isRelation q1 q2)))) dX4_readAsk_42 mbX4_isRelation wk19_2 wk19_1 rfl rfl (by decide) (Nat.le_of_ble_eq_true rfl) (c_X4_isRelation  rfl) ?_
  refine mG.ifz_ne (b := f_X4_isRelation q1 q2) 53 dX4_readAsk_45 (by decide) (fun c10 => ?_) (fun c10 => ?_)
  · replace h := itp c10 h
    refine mG.aload_n 1 dX4_readAsk_53 rfl ?_
    obtain ⟨q3, hq3, h⟩ := bdp h
    refine mG.callV0 (as := []) (st := []) (S2 := q3) (r := none) dX4_readAsk_54 mvX4_advance wk16_13 rfl ht rfl (by decide) (Nat.le_of_ble_eq_true rfl) (c_X4_advance ht hq3) ?_
    refine mG.aload_n 1 dX4_readAsk_57 rfl ?_
    refine mG.iload_n 2 dX4_readAsk_58 rfl ?_
    obtain ⟨q4, hq4, h⟩ := bdp h
    refine mG.callV0 (as := [.int (v1)]) (st := []) (S2 := q4) (r := none) dX4_readAsk_59 mvX4_readSum wk17_13 rfl ht rfl (by decide) (Nat.le_of_ble_eq_true rfl) (c_X4_readSum ht hq4) ?_
    refine mG.aload_n 1 dX4_readAsk_62 rfl ?_
    refine mG.iload_n 0 dX4_readAsk_63 rfl ?_
    obtain ⟨q5, hq5, h⟩ := bdp h
    refine mG.callV0 (as := [.int (q2)]) (st := []) (S2 := q5) (r := none) dX4_readAsk_64 mvX4_emit wk17_20 rfl ht rfl (by decide) (Nat.le_of_ble_eq_true rfl) (c_X4_emit ht hq5) ?_
    refine mG.iconst (v := 0) dX4_readAsk_67 rfl ?_
    refine mG.istore_n (lv2 := [(3, .int 0), (2, .int (q2)), (0, .ref (t)), (1, .int (v1))]) dX4_readAsk_68 rfl (by decide) rfl ?_
    refine mG.sub (lv2 := [(0, .ref (t)), (1, .int (v1)), (3, .int 0)]) [2, 3, 0] rfl ?_
    exact hK69 q5 v1 (0 : Int32)  h
  · replace h := itn c10 h
    refine mG.aload_n 1 dX4_readAsk_48 rfl ?_
    refine mG.iconst (v := 1) dX4_readAsk_49 rfl ?_
    obtain ⟨q6, hq6, h⟩ := bdp h
    refine mG.callV0 (as := [.int 1]) (st := []) (S2 := q6) (r := none) dX4_readAsk_50 mvX4_fail wk16_5 rfl ht rfl (by decide) (Nat.le_of_ble_eq_true rfl) (c_X4_fail ht hq6) ?_
    refine mG.aload_n 1 dX4_readAsk_53 rfl ?_
    obtain ⟨q7, hq7, h⟩ := bdp h
    refine mG.callV0 (as := []) (st := []) (S2 := q7) (r := none) dX4_readAsk_54 mvX4_advance wk16_13 rfl ht rfl (by decide) (Nat.le_of_ble_eq_true rfl) (c_X4_advance ht hq7) ?_
    refine mG.aload_n 1 dX4_readAsk_57 rfl ?_
    refine mG.iload_n 2 dX4_readAsk_58 rfl ?_
    obtain ⟨q8, hq8, h⟩ := bdp h
    refine mG.callV0 (as := [.int (v1)]) (st := []) (S2 := q8) (r := none) dX4_readAsk_59 mvX4_readSum wk17_13 rfl ht rfl (by decide) (Nat.le_of_ble_eq_true rfl) (c_X4_readSum ht hq8) ?_
    refine mG.aload_n 1 dX4_readAsk_62 rfl ?_
    refine mG.iload_n 0 dX4_readAsk_63 rfl ?_
    obtain ⟨q9, hq9, h⟩ := bdp h
    refine mG.callV0 (as := [.int (q2)]) (st := []) (S2 := q9) (r := none) dX4_readAsk_64 mvX4_emit wk17_20 rfl ht rfl (by decide) (Nat.le_of_ble_eq_true rfl) (c_X4_emit ht hq9) ?_
    refine mG.iconst (v := 0) dX4_readAsk_67 rfl ?_
    refine mG.istore_n (lv2 := [(3, .int 0), (2, .int (q2)), (0, .ref (t)), (1, .int (v1))]) dX4_readAsk_68 rfl (by decide) rfl ?_
    refine mG.sub (lv2 := [(0, .ref (t)), (1, .int (v1)), (3, .int 0)]) [2, 3, 0] rfl ?_
    exact hK69 q9 v1 (0 : Int32)  h
def lX4_readAsk_69 (F : Nat)  (t : Nat) : Nat → mS → Int32 → Int32 → Option mS
  | 0, _, _, _ => none
  | n + 1, S, v1, v3 => if v1 ≤ v3 then (some S) else (bd (f_X4_emit F S t (35 : Int32)) fun q1 => lX4_readAsk_69 F  t n q1 v1 (v3 + 1))
set_option maxHeartbeats 4000000 in
set_option maxRecDepth 100000 in
theorem gX4_readAsk_69 {x : mX} {F : Nat} {t : Nat}   {R : mS} (ht : kd0 t = 4)  : ∀ (n : Nat) (S : mS) (v1 : Int32) (v3 : Int32), lX4_readAsk_69 F  t n S v1 v3 = some R → mG x μX4_readAsk 73 0 0 (mQe R none) 0 0 E0 S 69 [(0, .ref (t)), (1, .int (v1)), (3, .int (v3))] [] := by
  intro n
  induction n with
  | zero =>
    intro S v1 v3 h
    cases h
  | succ n ih =>
    intro S v1 v3 h
    unfold lX4_readAsk_69 at h
    refine mG.iload_n 2 dX4_readAsk_69 rfl ?_
    refine mG.iload_n 1 dX4_readAsk_70 rfl ?_
    refine mG.icmp_ge 86 dX4_readAsk_71 (by decide) (fun c2 => ?_) (fun c2 => ?_)
    · replace h := itp c2 h
      obtain rfl := Option.some.inj h
      exact mG.vret dX4_readAsk_86 rfl ⟨rfl, rfl, rfl⟩
    · replace h := itn c2 h
      refine mG.aload_n 0 dX4_readAsk_74 rfl ?_
      refine mG.bipush (v := 35) dX4_readAsk_75 (by decide) ?_
      obtain ⟨q1, hq1, h⟩ := bdp h
      refine mG.callV0 (as := [.int 35]) (st := []) (S2 := q1) (r := none) dX4_readAsk_77 mvX4_emit wk17_20 rfl ht rfl (by decide) (Nat.le_of_ble_eq_true rfl) (c_X4_emit ht hq1) ?_
      refine mG.iinc 2 (u := v3 + 1) (lv2 := [(3, .int (v3 + 1)), (0, .ref (t)), (1, .int (v1))]) dX4_readAsk_80 rfl rfl (by decide) rfl ?_
      refine mG.goto 69 dX4_readAsk_83 (by decide) ?_
      refine mG.sub (lv2 := [(0, .ref (t)), (1, .int (v1)), (3, .int (v3 + 1))]) [1, 2, 0] rfl ?_
      exact ih q1 v1 (v3 + 1)  h
def f_X4_readAsk (F : Nat) (S : mS) (t : Nat) : Option mS := lX4_readAsk_2 F (fun (S : mS) (v1 : Int32) => lX4_readAsk_31 F (fun (S : mS) (v1 : Int32) (v3 : Int32) => lX4_readAsk_69 F  t F S v1 v3) t S v1) t F S (0 : Int32)
set_option maxHeartbeats 4000000 in
set_option maxRecDepth 100000 in
theorem c_X4_readAsk {F : Nat} {S : mS} {t : Nat} {R : mS} (ht : kd0 t = 4) (h : f_X4_readAsk F S t = some R) : mCt μX4_readAsk 73 0 0 E0 S [.ref (t)] (mQe R none) := by
  unfold f_X4_readAsk at h
  refine mCt.of (by decide) (Nat.le_of_ble_eq_true rfl) ?_
  intro x
  refine mG.iconst (v := 0) dX4_readAsk_0 rfl ?_
  refine mG.istore_n (lv2 := [(1, .int 0), (0, .ref (t))]) dX4_readAsk_1 rfl (by decide) rfl ?_
  refine mG.sub (lv2 := [(0, .ref (t)), (1, .int 0)]) [1, 0] rfl ?_
  exact gX4_readAsk_2 ht (fun S v1 h => by exact gX4_readAsk_31 ht (fun S v1 v3 h => by exact gX4_readAsk_69 ht  F S v1 v3  h)  S v1  h) F S (0 : Int32)  h
theorem dX4_readEither_0 : decode cX4_readEither 0 = .ok (.iconst 1, 1) := by decide +kernel
theorem dX4_readEither_1 : decode cX4_readEither 1 = .ok (.istore_n 1, 1) := by decide +kernel
theorem dX4_readEither_2 : decode cX4_readEither 2 = .ok (.iconst 0, 1) := by decide +kernel
theorem dX4_readEither_3 : decode cX4_readEither 3 = .ok (.istore_n 2, 1) := by decide +kernel
theorem dX4_readEither_4 : decode cX4_readEither 4 = .ok (.iload_n 2, 1) := by decide +kernel
theorem dX4_readEither_5 : decode cX4_readEither 5 = .ok (.sipush 300, 3) := by decide +kernel
theorem dX4_readEither_8 : decode cX4_readEither 8 = .ok (.if_icmp .ge 84, 3) := by decide +kernel
theorem dX4_readEither_11 : decode cX4_readEither 11 = .ok (.iload_n 1, 1) := by decide +kernel
theorem dX4_readEither_12 : decode cX4_readEither 12 = .ok (.ifCond .ne 12, 3) := by decide +kernel
theorem dX4_readEither_15 : decode cX4_readEither 15 = .ok (.aload_n 0, 1) := by decide +kernel
theorem dX4_readEither_16 : decode cX4_readEither 16 = .ok (.invokevirtual 51, 3) := by decide +kernel
theorem dX4_readEither_19 : decode cX4_readEither 19 = .ok (.bipush 33, 2) := by decide +kernel
theorem dX4_readEither_21 : decode cX4_readEither 21 = .ok (.if_icmp .ne 71, 3) := by decide +kernel
theorem dX4_readEither_24 : decode cX4_readEither 24 = .ok (.iload_n 1, 1) := by decide +kernel
theorem dX4_readEither_25 : decode cX4_readEither 25 = .ok (.ifCond .ne 7, 3) := by decide +kernel
theorem dX4_readEither_28 : decode cX4_readEither 28 = .ok (.aload_n 0, 1) := by decide +kernel
theorem dX4_readEither_29 : decode cX4_readEither 29 = .ok (.invokevirtual 59, 3) := by decide +kernel
theorem dX4_readEither_32 : decode cX4_readEither 32 = .ok (.aload_n 0, 1) := by decide +kernel
theorem dX4_readEither_33 : decode cX4_readEither 33 = .ok (.invokevirtual 154, 3) := by decide +kernel
theorem dX4_readEither_36 : decode cX4_readEither 36 = .ok (.iconst 0, 1) := by decide +kernel
theorem dX4_readEither_37 : decode cX4_readEither 37 = .ok (.istore_n 3, 1) := by decide +kernel
theorem dX4_readEither_38 : decode cX4_readEither 38 = .ok (.iload_n 3, 1) := by decide +kernel
theorem dX4_readEither_39 : decode cX4_readEither 39 = .ok (.sipush 300, 3) := by decide +kernel
theorem dX4_readEither_42 : decode cX4_readEither 42 = .ok (.if_icmp .ge 32, 3) := by decide +kernel
theorem dX4_readEither_45 : decode cX4_readEither 45 = .ok (.aload_n 0, 1) := by decide +kernel
theorem dX4_readEither_46 : decode cX4_readEither 46 = .ok (.invokevirtual 51, 3) := by decide +kernel
theorem dX4_readEither_49 : decode cX4_readEither 49 = .ok (.bipush 34, 2) := by decide +kernel
theorem dX4_readEither_51 : decode cX4_readEither 51 = .ok (.if_icmp .ne 23, 3) := by decide +kernel
theorem dX4_readEither_54 : decode cX4_readEither 54 = .ok (.aload_n 0, 1) := by decide +kernel
theorem dX4_readEither_55 : decode cX4_readEither 55 = .ok (.invokevirtual 59, 3) := by decide +kernel
theorem dX4_readEither_58 : decode cX4_readEither 58 = .ok (.aload_n 0, 1) := by decide +kernel
theorem dX4_readEither_59 : decode cX4_readEither 59 = .ok (.invokevirtual 154, 3) := by decide +kernel
theorem dX4_readEither_62 : decode cX4_readEither 62 = .ok (.aload_n 0, 1) := by decide +kernel
theorem dX4_readEither_63 : decode cX4_readEither 63 = .ok (.bipush 34, 2) := by decide +kernel
theorem dX4_readEither_65 : decode cX4_readEither 65 = .ok (.invokevirtual 157, 3) := by decide +kernel
theorem dX4_readEither_68 : decode cX4_readEither 68 = .ok (.iinc 3 1, 3) := by decide +kernel
theorem dX4_readEither_71 : decode cX4_readEither 71 = .ok (.goto (-33), 3) := by decide +kernel
theorem dX4_readEither_74 : decode cX4_readEither 74 = .ok (.iload_n 1, 1) := by decide +kernel
theorem dX4_readEither_75 : decode cX4_readEither 75 = .ok (.ifCond .ne 9, 3) := by decide +kernel
theorem dX4_readEither_78 : decode cX4_readEither 78 = .ok (.aload_n 0, 1) := by decide +kernel
theorem dX4_readEither_79 : decode cX4_readEither 79 = .ok (.bipush 33, 2) := by decide +kernel
theorem dX4_readEither_81 : decode cX4_readEither 81 = .ok (.invokevirtual 157, 3) := by decide +kernel
theorem dX4_readEither_84 : decode cX4_readEither 84 = .ok (.iconst 0, 1) := by decide +kernel
theorem dX4_readEither_85 : decode cX4_readEither 85 = .ok (.istore_n 1, 1) := by decide +kernel
theorem dX4_readEither_86 : decode cX4_readEither 86 = .ok (.iinc 2 1, 3) := by decide +kernel
theorem dX4_readEither_89 : decode cX4_readEither 89 = .ok (.goto (-85), 3) := by decide +kernel
theorem dX4_readEither_92 : decode cX4_readEither 92 = .ok (.return_, 1) := by decide +kernel
def lX4_readEither_38 (F : Nat) (K4 : mS → Int32 → Int32 → Option mS) (t : Nat) : Nat → mS → Int32 → Int32 → Int32 → Option mS
  | 0, _, _, _, _ => none
  | n + 1, S, v1, v2, v3 => if (300 : Int32) ≤ v3 then (if v1 = 0 then (bd (f_X4_emit F S t (33 : Int32)) fun q1 => K4 q1 (0 : Int32) (v2 + 1)) else (K4 S (0 : Int32) (v2 + 1))) else (bd (f_X4_kind F S t) fun q3 => if q3 = (34 : Int32) then (bd (f_X4_advance F S t) fun q6 => bd (f_X4_readAsk F q6 t) fun q7 => bd (f_X4_emit F q7 t (34 : Int32)) fun q8 => lX4_readEither_38 F K4 t n q8 v1 v2 (v3 + 1)) else (if v1 = 0 then (bd (f_X4_emit F S t (33 : Int32)) fun q4 => K4 q4 (0 : Int32) (v2 + 1)) else (K4 S (0 : Int32) (v2 + 1))))
set_option maxHeartbeats 4000000 in
set_option maxRecDepth 100000 in
theorem gX4_readEither_38 {x : mX} {F : Nat} {t : Nat}  {K4 : mS → Int32 → Int32 → Option mS} {R : mS} (ht : kd0 t = 4) (hK4 : ∀ (S : mS) (v1 : Int32) (v2 : Int32) , K4 S v1 v2 = some R → mG x μX4_readEither 74 0 0 (mQe R none) 0 0 E0 S 4 [(0, .ref (t)), (1, .int (v1)), (2, .int (v2))] []) : ∀ (n : Nat) (S : mS) (v1 : Int32) (v2 : Int32) (v3 : Int32), lX4_readEither_38 F K4 t n S v1 v2 v3 = some R → mG x μX4_readEither 74 0 0 (mQe R none) 0 0 E0 S 38 [(0, .ref (t)), (1, .int (v1)), (2, .int (v2)), (3, .int (v3))] [] := by
  intro n
  induction n with
  | zero =>
    intro S v1 v2 v3 h
    cases h
  | succ n ih =>
    intro S v1 v2 v3 h
    unfold lX4_readEither_38 at h
    refine mG.iload_n 3 dX4_readEither_38 rfl ?_
    refine mG.sipush (v := 300) dX4_readEither_39 (by decide) ?_
    refine mG.icmp_ge 74 dX4_readEither_42 (by decide) (fun c10 => ?_) (fun c10 => ?_)
    · replace h := itp c10 h
      refine mG.iload_n 1 dX4_readEither_74 rfl ?_
      refine mG.if_ne 84 dX4_readEither_75 (by decide) (fun c2 => ?_) (fun c2 => ?_)
      · replace h := itn c2 h
        refine mG.iconst (v := 0) dX4_readEither_84 rfl ?_
        refine mG.istore_n (lv2 := [(1, .int 0), (0, .ref (t)), (2, .int (v2)), (3, .int (v3))]) dX4_readEither_85 rfl (by decide) rfl ?_
        refine mG.iinc 2 (u := v2 + 1) (lv2 := [(2, .int (v2 + 1)), (1, .int 0), (0, .ref (t)), (3, .int (v3))]) dX4_readEither_86 rfl rfl (by decide) rfl ?_
        refine mG.goto 4 dX4_readEither_89 (by decide) ?_
        refine mG.sub (lv2 := [(0, .ref (t)), (1, .int 0), (2, .int (v2 + 1))]) [2, 1, 0] rfl ?_
        exact hK4 S (0 : Int32) (v2 + 1)  h
      · replace h := itp c2 h
        refine mG.aload_n 0 dX4_readEither_78 rfl ?_
        refine mG.bipush (v := 33) dX4_readEither_79 (by decide) ?_
        obtain ⟨q1, hq1, h⟩ := bdp h
        refine mG.callV0 (as := [.int 33]) (st := []) (S2 := q1) (r := none) dX4_readEither_81 mvX4_emit wk17_20 rfl ht rfl (by decide) (Nat.le_of_ble_eq_true rfl) (c_X4_emit ht hq1) ?_
        refine mG.iconst (v := 0) dX4_readEither_84 rfl ?_
        refine mG.istore_n (lv2 := [(1, .int 0), (0, .ref (t)), (2, .int (v2)), (3, .int (v3))]) dX4_readEither_85 rfl (by decide) rfl ?_
        refine mG.iinc 2 (u := v2 + 1) (lv2 := [(2, .int (v2 + 1)), (1, .int 0), (0, .ref (t)), (3, .int (v3))]) dX4_readEither_86 rfl rfl (by decide) rfl ?_
        refine mG.goto 4 dX4_readEither_89 (by decide) ?_
        refine mG.sub (lv2 := [(0, .ref (t)), (1, .int 0), (2, .int (v2 + 1))]) [2, 1, 0] rfl ?_
        exact hK4 q1 (0 : Int32) (v2 + 1)  h
    · replace h := itn c10 h
      refine mG.aload_n 0 dX4_readEither_45 rfl ?_
      obtain ⟨q3, hq3, h⟩ := bdp h
      refine mG.callV0 (as := []) (st := []) (S2 := S) (r := some (.int (q3))) dX4_readEither_46 mvX4_kind wk15_17 rfl ht rfl (by decide) (Nat.le_of_ble_eq_true rfl) (c_X4_kind ht hq3) ?_
      refine mG.bipush (v := 34) dX4_readEither_49 (by decide) ?_
      refine mG.icmp_ne 74 dX4_readEither_51 (by decide) (fun c9 => ?_) (fun c9 => ?_)
      · replace h := itn c9 h
        refine mG.iload_n 1 dX4_readEither_74 rfl ?_
        refine mG.if_ne 84 dX4_readEither_75 (by decide) (fun c5 => ?_) (fun c5 => ?_)
        · replace h := itn c5 h
          refine mG.iconst (v := 0) dX4_readEither_84 rfl ?_
          refine mG.istore_n (lv2 := [(1, .int 0), (0, .ref (t)), (2, .int (v2)), (3, .int (v3))]) dX4_readEither_85 rfl (by decide) rfl ?_
          refine mG.iinc 2 (u := v2 + 1) (lv2 := [(2, .int (v2 + 1)), (1, .int 0), (0, .ref (t)), (3, .int (v3))]) dX4_readEither_86 rfl rfl (by decide) rfl ?_
          refine mG.goto 4 dX4_readEither_89 (by decide) ?_
          refine mG.sub (lv2 := [(0, .ref (t)), (1, .int 0), (2, .int (v2 + 1))]) [2, 1, 0] rfl ?_
          exact hK4 S (0 : Int32) (v2 + 1)  h
        · replace h := itp c5 h
          refine mG.aload_n 0 dX4_readEither_78 rfl ?_
          refine mG.bipush (v := 33) dX4_readEither_79 (by decide) ?_
          obtain ⟨q4, hq4, h⟩ := bdp h
          refine mG.callV0 (as := [.int 33]) (st := []) (S2 := q4) (r := none) dX4_readEither_81 mvX4_emit wk17_20 rfl ht rfl (by decide) (Nat.le_of_ble_eq_true rfl) (c_X4_emit ht hq4) ?_
          refine mG.iconst (v := 0) dX4_readEither_84 rfl ?_
          refine mG.istore_n (lv2 := [(1, .int 0), (0, .ref (t)), (2, .int (v2)), (3, .int (v3))]) dX4_readEither_85 rfl (by decide) rfl ?_
          refine mG.iinc 2 (u := v2 + 1) (lv2 := [(2, .int (v2 + 1)), (1, .int 0), (0, .ref (t)), (3, .int (v3))]) dX4_readEither_86 rfl rfl (by decide) rfl ?_
          refine mG.goto 4 dX4_readEither_89 (by decide) ?_
          refine mG.sub (lv2 := [(0, .ref (t)), (1, .int 0), (2, .int (v2 + 1))]) [2, 1, 0] rfl ?_
          exact hK4 q4 (0 : Int32) (v2 + 1)  h
      · replace h := itp c9 h
        refine mG.aload_n 0 dX4_readEither_54 rfl ?_
        obtain ⟨q6, hq6, h⟩ := bdp h
        refine mG.callV0 (as := []) (st := []) (S2 := q6) (r := none) dX4_readEither_55 mvX4_advance wk16_13 rfl ht rfl (by decide) (Nat.le_of_ble_eq_true rfl) (c_X4_advance ht hq6) ?_
        refine mG.aload_n 0 dX4_readEither_58 rfl ?_
        obtain ⟨q7, hq7, h⟩ := bdp h
        refine mG.callV0 (as := []) (st := []) (S2 := q7) (r := none) dX4_readEither_59 mvX4_readAsk wk17_5 rfl ht rfl (by decide) (Nat.le_of_ble_eq_true rfl) (c_X4_readAsk ht hq7) ?_
        refine mG.aload_n 0 dX4_readEither_62 rfl ?_
        refine mG.bipush (v := 34) dX4_readEither_63 (by decide) ?_
        obtain ⟨q8, hq8, h⟩ := bdp h
        refine mG.callV0 (as := [.int 34]) (st := []) (S2 := q8) (r := none) dX4_readEither_65 mvX4_emit wk17_20 rfl ht rfl (by decide) (Nat.le_of_ble_eq_true rfl) (c_X4_emit ht hq8) ?_
        refine mG.iinc 3 (u := v3 + 1) (lv2 := [(3, .int (v3 + 1)), (0, .ref (t)), (1, .int (v1)), (2, .int (v2))]) dX4_readEither_68 rfl rfl (by decide) rfl ?_
        refine mG.goto 38 dX4_readEither_71 (by decide) ?_
        refine mG.sub (lv2 := [(0, .ref (t)), (1, .int (v1)), (2, .int (v2)), (3, .int (v3 + 1))]) [1, 2, 3, 0] rfl ?_
        exact ih q8 v1 v2 (v3 + 1)  h
def lX4_readEither_4 (F : Nat)  (t : Nat) : Nat → mS → Int32 → Int32 → Option mS
  | 0, _, _, _ => none
  | n + 1, S, v1, v2 => if (300 : Int32) ≤ v2 then (some S) else (if v1 = 0 then (bd (f_X4_kind F S t) fun q5 => if q5 = (33 : Int32) then (if v1 = 0 then (bd (f_X4_advance F S t) fun q7 => bd (f_X4_readAsk F q7 t) fun q8 => lX4_readEither_38 F (fun (S : mS) (v1 : Int32) (v2 : Int32) => lX4_readEither_4 F  t n S v1 v2) t F q8 v1 v2 (0 : Int32)) else (bd (f_X4_readAsk F S t) fun q6 => lX4_readEither_38 F (fun (S : mS) (v1 : Int32) (v2 : Int32) => lX4_readEither_4 F  t n S v1 v2) t F q6 v1 v2 (0 : Int32))) else (some S)) else (if v1 = 0 then (bd (f_X4_advance F S t) fun q2 => bd (f_X4_readAsk F q2 t) fun q3 => lX4_readEither_38 F (fun (S : mS) (v1 : Int32) (v2 : Int32) => lX4_readEither_4 F  t n S v1 v2) t F q3 v1 v2 (0 : Int32)) else (bd (f_X4_readAsk F S t) fun q1 => lX4_readEither_38 F (fun (S : mS) (v1 : Int32) (v2 : Int32) => lX4_readEither_4 F  t n S v1 v2) t F q1 v1 v2 (0 : Int32))))
set_option maxHeartbeats 4000000 in
set_option maxRecDepth 100000 in
theorem gX4_readEither_4 {x : mX} {F : Nat} {t : Nat}   {R : mS} (ht : kd0 t = 4)  : ∀ (n : Nat) (S : mS) (v1 : Int32) (v2 : Int32), lX4_readEither_4 F  t n S v1 v2 = some R → mG x μX4_readEither 74 0 0 (mQe R none) 0 0 E0 S 4 [(0, .ref (t)), (1, .int (v1)), (2, .int (v2))] [] := by
  intro n
  induction n with
  | zero =>
    intro S v1 v2 h
    cases h
  | succ n ih =>
    intro S v1 v2 h
    unfold lX4_readEither_4 at h
    refine mG.iload_n 2 dX4_readEither_4 rfl ?_
    refine mG.sipush (v := 300) dX4_readEither_5 (by decide) ?_
    refine mG.icmp_ge 92 dX4_readEither_8 (by decide) (fun c12 => ?_) (fun c12 => ?_)
    · replace h := itp c12 h
      obtain rfl := Option.some.inj h
      exact mG.vret dX4_readEither_92 rfl ⟨rfl, rfl, rfl⟩
    · replace h := itn c12 h
      refine mG.iload_n 1 dX4_readEither_11 rfl ?_
      refine mG.if_ne 24 dX4_readEither_12 (by decide) (fun c11 => ?_) (fun c11 => ?_)
      · replace h := itn c11 h
        refine mG.iload_n 1 dX4_readEither_24 rfl ?_
        refine mG.if_ne 32 dX4_readEither_25 (by decide) (fun c4 => ?_) (fun c4 => ?_)
        · replace h := itn c4 h
          refine mG.aload_n 0 dX4_readEither_32 rfl ?_
          obtain ⟨q1, hq1, h⟩ := bdp h
          refine mG.callV0 (as := []) (st := []) (S2 := q1) (r := none) dX4_readEither_33 mvX4_readAsk wk17_5 rfl ht rfl (by decide) (Nat.le_of_ble_eq_true rfl) (c_X4_readAsk ht hq1) ?_
          refine mG.iconst (v := 0) dX4_readEither_36 rfl ?_
          refine mG.istore_n (lv2 := [(3, .int 0), (0, .ref (t)), (1, .int (v1)), (2, .int (v2))]) dX4_readEither_37 rfl (by decide) rfl ?_
          refine mG.sub (lv2 := [(0, .ref (t)), (1, .int (v1)), (2, .int (v2)), (3, .int 0)]) [1, 2, 3, 0] rfl ?_
          exact gX4_readEither_38 ht (fun S v1 v2 h => by exact ih S v1 v2  h) F q1 v1 v2 (0 : Int32)  h
        · replace h := itp c4 h
          refine mG.aload_n 0 dX4_readEither_28 rfl ?_
          obtain ⟨q2, hq2, h⟩ := bdp h
          refine mG.callV0 (as := []) (st := []) (S2 := q2) (r := none) dX4_readEither_29 mvX4_advance wk16_13 rfl ht rfl (by decide) (Nat.le_of_ble_eq_true rfl) (c_X4_advance ht hq2) ?_
          refine mG.aload_n 0 dX4_readEither_32 rfl ?_
          obtain ⟨q3, hq3, h⟩ := bdp h
          refine mG.callV0 (as := []) (st := []) (S2 := q3) (r := none) dX4_readEither_33 mvX4_readAsk wk17_5 rfl ht rfl (by decide) (Nat.le_of_ble_eq_true rfl) (c_X4_readAsk ht hq3) ?_
          refine mG.iconst (v := 0) dX4_readEither_36 rfl ?_
          refine mG.istore_n (lv2 := [(3, .int 0), (0, .ref (t)), (1, .int (v1)), (2, .int (v2))]) dX4_readEither_37 rfl (by decide) rfl ?_
          refine mG.sub (lv2 := [(0, .ref (t)), (1, .int (v1)), (2, .int (v2)), (3, .int 0)]) [1, 2, 3, 0] rfl ?_
          exact gX4_readEither_38 ht (fun S v1 v2 h => by exact ih S v1 v2  h) F q3 v1 v2 (0 : Int32)  h
      · replace h := itp c11 h
        refine mG.aload_n 0 dX4_readEither_15 rfl ?_
        obtain ⟨q5, hq5, h⟩ := bdp h
        refine mG.callV0 (as := []) (st := []) (S2 := S) (r := some (.int (q5))) dX4_readEither_16 mvX4_kind wk15_17 rfl ht rfl (by decide) (Nat.le_of_ble_eq_true rfl) (c_X4_kind ht hq5) ?_
        refine mG.bipush (v := 33) dX4_readEither_19 (by decide) ?_
        refine mG.icmp_ne 92 dX4_readEither_21 (by decide) (fun c10 => ?_) (fun c10 => ?_)
        · replace h := itn c10 h
          obtain rfl := Option.some.inj h
          exact mG.vret dX4_readEither_92 rfl ⟨rfl, rfl, rfl⟩
        · replace h := itp c10 h
          refine mG.iload_n 1 dX4_readEither_24 rfl ?_
          refine mG.if_ne 32 dX4_readEither_25 (by decide) (fun c9 => ?_) (fun c9 => ?_)
          · replace h := itn c9 h
            refine mG.aload_n 0 dX4_readEither_32 rfl ?_
            obtain ⟨q6, hq6, h⟩ := bdp h
            refine mG.callV0 (as := []) (st := []) (S2 := q6) (r := none) dX4_readEither_33 mvX4_readAsk wk17_5 rfl ht rfl (by decide) (Nat.le_of_ble_eq_true rfl) (c_X4_readAsk ht hq6) ?_
            refine mG.iconst (v := 0) dX4_readEither_36 rfl ?_
            refine mG.istore_n (lv2 := [(3, .int 0), (0, .ref (t)), (1, .int (v1)), (2, .int (v2))]) dX4_readEither_37 rfl (by decide) rfl ?_
            refine mG.sub (lv2 := [(0, .ref (t)), (1, .int (v1)), (2, .int (v2)), (3, .int 0)]) [1, 2, 3, 0] rfl ?_
            exact gX4_readEither_38 ht (fun S v1 v2 h => by exact ih S v1 v2  h) F q6 v1 v2 (0 : Int32)  h
          · replace h := itp c9 h
            refine mG.aload_n 0 dX4_readEither_28 rfl ?_
            obtain ⟨q7, hq7, h⟩ := bdp h
            refine mG.callV0 (as := []) (st := []) (S2 := q7) (r := none) dX4_readEither_29 mvX4_advance wk16_13 rfl ht rfl (by decide) (Nat.le_of_ble_eq_true rfl) (c_X4_advance ht hq7) ?_
            refine mG.aload_n 0 dX4_readEither_32 rfl ?_
            obtain ⟨q8, hq8, h⟩ := bdp h
            refine mG.callV0 (as := []) (st := []) (S2 := q8) (r := none) dX4_readEither_33 mvX4_readAsk wk17_5 rfl ht rfl (by decide) (Nat.le_of_ble_eq_true rfl) (c_X4_readAsk ht hq8) ?_
            refine mG.iconst (v := 0) dX4_readEither_36 rfl ?_
            refine mG.istore_n (lv2 := [(3, .int 0), (0, .ref (t)), (1, .int (v1)), (2, .int (v2))]) dX4_readEither_37 rfl (by decide) rfl ?_
            refine mG.sub (lv2 := [(0, .ref (t)), (1, .int (v1)), (2, .int (v2)), (3, .int 0)]) [1, 2, 3, 0] rfl ?_
            exact gX4_readEither_38 ht (fun S v1 v2 h => by exact ih S v1 v2  h) F q8 v1 v2 (0 : Int32)  h
def f_X4_readEither (F : Nat) (S : mS) (t : Nat) : Option mS := lX4_readEither_4 F  t F S (1 : Int32) (0 : Int32)
set_option maxHeartbeats 4000000 in
set_option maxRecDepth 100000 in
theorem c_X4_readEither {F : Nat} {S : mS} {t : Nat} {R : mS} (ht : kd0 t = 4) (h : f_X4_readEither F S t = some R) : mCt μX4_readEither 74 0 0 E0 S [.ref (t)] (mQe R none) := by
  unfold f_X4_readEither at h
  refine mCt.of (by decide) (Nat.le_of_ble_eq_true rfl) ?_
  intro x
  refine mG.iconst (v := 1) dX4_readEither_0 rfl ?_
  refine mG.istore_n (lv2 := [(1, .int 1), (0, .ref (t))]) dX4_readEither_1 rfl (by decide) rfl ?_
  refine mG.iconst (v := 0) dX4_readEither_2 rfl ?_
  refine mG.istore_n (lv2 := [(2, .int 0), (1, .int 1), (0, .ref (t))]) dX4_readEither_3 rfl (by decide) rfl ?_
  refine mG.sub (lv2 := [(0, .ref (t)), (1, .int 1), (2, .int 0)]) [2, 1, 0] rfl ?_
  exact gX4_readEither_4 ht  F S (1 : Int32) (0 : Int32)  h
theorem dX4_readLaw_0 : decode cX4_readLaw 0 = .ok (.iload_n 1, 1) := by decide +kernel
theorem dX4_readLaw_1 : decode cX4_readLaw 1 = .ok (.bipush 24, 2) := by decide +kernel
theorem dX4_readLaw_3 : decode cX4_readLaw 3 = .ok (.isub, 1) := by decide +kernel
theorem dX4_readLaw_4 : decode cX4_readLaw 4 = .ok (.istore_n 2, 1) := by decide +kernel
theorem dX4_readLaw_5 : decode cX4_readLaw 5 = .ok (.aload_n 0, 1) := by decide +kernel
theorem dX4_readLaw_6 : decode cX4_readLaw 6 = .ok (.iload_n 1, 1) := by decide +kernel
theorem dX4_readLaw_7 : decode cX4_readLaw 7 = .ok (.bipush 26, 2) := by decide +kernel
theorem dX4_readLaw_9 : decode cX4_readLaw 9 = .ok (.if_icmp .ne 7, 3) := by decide +kernel
theorem dX4_readLaw_12 : decode cX4_readLaw 12 = .ok (.iconst 1, 1) := by decide +kernel
theorem dX4_readLaw_13 : decode cX4_readLaw 13 = .ok (.goto 4, 3) := by decide +kernel
theorem dX4_readLaw_16 : decode cX4_readLaw 16 = .ok (.iconst 0, 1) := by decide +kernel
theorem dX4_readLaw_17 : decode cX4_readLaw 17 = .ok (.putfield 135, 3) := by decide +kernel
theorem dX4_readLaw_20 : decode cX4_readLaw 20 = .ok (.aload_n 0, 1) := by decide +kernel
theorem dX4_readLaw_21 : decode cX4_readLaw 21 = .ok (.getfield 12, 3) := by decide +kernel
theorem dX4_readLaw_24 : decode cX4_readLaw 24 = .ok (.getfield 139, 3) := by decide +kernel
theorem dX4_readLaw_27 : decode cX4_readLaw 27 = .ok (.iload_n 2, 1) := by decide +kernel
theorem dX4_readLaw_28 : decode cX4_readLaw 28 = .ok (.aload_n 0, 1) := by decide +kernel
theorem dX4_readLaw_29 : decode cX4_readLaw 29 = .ok (.getfield 12, 3) := by decide +kernel
theorem dX4_readLaw_32 : decode cX4_readLaw 32 = .ok (.getfield 142, 3) := by decide +kernel
theorem dX4_readLaw_35 : decode cX4_readLaw 35 = .ok (.iastore, 1) := by decide +kernel
theorem dX4_readLaw_36 : decode cX4_readLaw 36 = .ok (.aload_n 0, 1) := by decide +kernel
theorem dX4_readLaw_37 : decode cX4_readLaw 37 = .ok (.getfield 135, 3) := by decide +kernel
theorem dX4_readLaw_40 : decode cX4_readLaw 40 = .ok (.ifCond .eq 10, 3) := by decide +kernel
theorem dX4_readLaw_43 : decode cX4_readLaw 43 = .ok (.aload_n 0, 1) := by decide +kernel
theorem dX4_readLaw_44 : decode cX4_readLaw 44 = .ok (.invokevirtual 145, 3) := by decide +kernel
theorem dX4_readLaw_47 : decode cX4_readLaw 47 = .ok (.goto 8, 3) := by decide +kernel
theorem dX4_readLaw_50 : decode cX4_readLaw 50 = .ok (.aload_n 0, 1) := by decide +kernel
theorem dX4_readLaw_51 : decode cX4_readLaw 51 = .ok (.iconst 0, 1) := by decide +kernel
theorem dX4_readLaw_52 : decode cX4_readLaw 52 = .ok (.invokevirtual 148, 3) := by decide +kernel
theorem dX4_readLaw_55 : decode cX4_readLaw 55 = .ok (.aload_n 0, 1) := by decide +kernel
theorem dX4_readLaw_56 : decode cX4_readLaw 56 = .ok (.getfield 12, 3) := by decide +kernel
theorem dX4_readLaw_59 : decode cX4_readLaw 59 = .ok (.getfield 151, 3) := by decide +kernel
theorem dX4_readLaw_62 : decode cX4_readLaw 62 = .ok (.iload_n 2, 1) := by decide +kernel
theorem dX4_readLaw_63 : decode cX4_readLaw 63 = .ok (.aload_n 0, 1) := by decide +kernel
theorem dX4_readLaw_64 : decode cX4_readLaw 64 = .ok (.getfield 12, 3) := by decide +kernel
theorem dX4_readLaw_67 : decode cX4_readLaw 67 = .ok (.getfield 142, 3) := by decide +kernel
theorem dX4_readLaw_70 : decode cX4_readLaw 70 = .ok (.iastore, 1) := by decide +kernel
theorem dX4_readLaw_71 : decode cX4_readLaw 71 = .ok (.aload_n 0, 1) := by decide +kernel
theorem dX4_readLaw_72 : decode cX4_readLaw 72 = .ok (.getfield 12, 3) := by decide +kernel
theorem dX4_readLaw_75 : decode cX4_readLaw 75 = .ok (.iload_n 1, 1) := by decide +kernel
theorem dX4_readLaw_76 : decode cX4_readLaw 76 = .ok (.iconst (-1), 1) := by decide +kernel
theorem dX4_readLaw_77 : decode cX4_readLaw 77 = .ok (.iconst (-1), 1) := by decide +kernel
theorem dX4_readLaw_78 : decode cX4_readLaw 78 = .ok (.iconst (-1), 1) := by decide +kernel
theorem dX4_readLaw_79 : decode cX4_readLaw 79 = .ok (.invokevirtual 131, 3) := by decide +kernel
theorem dX4_readLaw_82 : decode cX4_readLaw 82 = .ok (.return_, 1) := by decide +kernel
def lX4_readLaw_17 (F : Nat) (K55 : mS → Int32 → Option mS) (t : Nat) (a1 : Int32) (S : mS) (v2 : Int32) (s0 : Int32) : Option mS := ck (is01 s0) (stp (sI S t 8 s0) fun S1 => ck (inb v2 3) (stp (sI S1 (t + 1 + 2) v2.toNatClampNeg (S1.1 (t + 1) 1)) fun S3 => if (S3.1 t 8) = 0 then (bd (f_X4_readSum F S3 t (0 : Int32)) fun q4 => K55 q4 v2) else (bd (f_X4_readEither F S3 t) fun q5 => K55 q5 v2)))
set_option maxHeartbeats 4000000 in
set_option maxRecDepth 100000 in
theorem gX4_readLaw_17 {x : mX} {F : Nat} {t : Nat} {a1 : Int32} {K55 : mS → Int32 → Option mS} {R : mS} (ht : kd0 t = 4) (hK55 : ∀ (S : mS) (v2 : Int32) , K55 S v2 = some R → mG x μX4_readLaw 75 0 0 (mQe R none) 0 0 E0 S 55 [(0, .ref (t)), (1, .int (a1)), (2, .int (v2))] []) (S : mS) (v2 : Int32) (s0 : Int32) (ks1 : kd0 (t) = 4) (h : lX4_readLaw_17 F K55 t a1 S v2 s0 = some R) : mG x μX4_readLaw 75 0 0 (mQe R none) 0 0 E0 S 17 [(0, .ref (t)), (1, .int (a1)), (2, .int (v2))] [.int (s0), .ref (t)] := by
  unfold lX4_readLaw_17 at h
  obtain ⟨b7, h⟩ := ckp h
  obtain ⟨S1, hS1, h⟩ := stpp h
  refine mG.putI dX4_readLaw_17 mfX4_135 rfl (Or.inr ⟨rfl, is01p b7⟩) ks1 hS1 ?_
  refine mG.aload_n 0 dX4_readLaw_20 rfl ?_
  refine mG.get (v := .ref (t + 1)) dX4_readLaw_21 mfX4_12 ht (lr4_draft ht) ?_
  refine mG.get (v := .ref (t + 1 + 2)) dX4_readLaw_24 mfX4_139 (lk4_draft ht) (lr5_lawFrom (lk4_draft ht)) ?_
  refine mG.iload_n 2 dX4_readLaw_27 rfl ?_
  refine mG.aload_n 0 dX4_readLaw_28 rfl ?_
  refine mG.get (v := .ref (t + 1)) dX4_readLaw_29 mfX4_12 ht (lr4_draft ht) ?_
  refine mG.get (v := .int (S1.1 (t + 1) 1)) dX4_readLaw_32 mfX4_142 (lk4_draft ht) rfl ?_
  obtain ⟨b2, h⟩ := ckp h
  obtain ⟨S3, hS3, h⟩ := stpp h
  refine mG.iast dX4_readLaw_35 (lk5_lawFrom (lk4_draft ht)) (ll5_lawFrom (lk4_draft ht)) (inbp b2) hS3 ?_
  refine mG.aload_n 0 dX4_readLaw_36 rfl ?_
  refine mG.get (v := .int (S3.1 t 8)) dX4_readLaw_37 mfX4_135 ht rfl ?_
  refine mG.if_eq 50 dX4_readLaw_40 (by decide) (fun c6 => ?_) (fun c6 => ?_)
  · replace h := itp c6 h
    refine mG.aload_n 0 dX4_readLaw_50 rfl ?_
    refine mG.iconst (v := 0) dX4_readLaw_51 rfl ?_
    obtain ⟨q4, hq4, h⟩ := bdp h
    refine mG.callV0 (as := [.int 0]) (st := []) (S2 := q4) (r := none) dX4_readLaw_52 mvX4_readSum wk17_13 rfl ht rfl (by decide) (Nat.le_of_ble_eq_true rfl) (c_X4_readSum ht hq4) ?_
    refine mG.sub (lv2 := [(0, .ref (t)), (1, .int (a1)), (2, .int (v2))]) [0, 1, 2] rfl ?_
    exact hK55 q4 v2  h
  · replace h := itn c6 h
    refine mG.aload_n 0 dX4_readLaw_43 rfl ?_
    obtain ⟨q5, hq5, h⟩ := bdp h
    refine mG.callV0 (as := []) (st := []) (S2 := q5) (r := none) dX4_readLaw_44 mvX4_readEither wk17_1 rfl ht rfl (by decide) (Nat.le_of_ble_eq_true rfl) (c_X4_readEither ht hq5) ?_
    refine mG.goto 55 dX4_readLaw_47 (by decide) ?_
    refine mG.sub (lv2 := [(0, .ref (t)), (1, .int (a1)), (2, .int (v2))]) [0, 1, 2] rfl ?_
    exact hK55 q5 v2  h
def lX4_readLaw_55 (F : Nat)  (t : Nat) (a1 : Int32) (S : mS) (v2 : Int32) : Option mS := ck (inb v2 3) (stp (sI S (t + 1 + 3) v2.toNatClampNeg (S.1 (t + 1) 1)) fun S2 => bd (f_X5_appendClause F S2 (t + 1) a1 (-1 : Int32) (-1 : Int32) (-1 : Int32)) fun q3 => some q3)
set_option maxHeartbeats 4000000 in
set_option maxRecDepth 100000 in
theorem gX4_readLaw_55 {x : mX} {F : Nat} {t : Nat} {a1 : Int32}  {R : mS} (ht : kd0 t = 4)  (S : mS) (v2 : Int32)  (h : lX4_readLaw_55 F  t a1 S v2 = some R) : mG x μX4_readLaw 75 0 0 (mQe R none) 0 0 E0 S 55 [(0, .ref (t)), (1, .int (a1)), (2, .int (v2))] [] := by
  unfold lX4_readLaw_55 at h
  refine mG.aload_n 0 dX4_readLaw_55 rfl ?_
  refine mG.get (v := .ref (t + 1)) dX4_readLaw_56 mfX4_12 ht (lr4_draft ht) ?_
  refine mG.get (v := .ref (t + 1 + 3)) dX4_readLaw_59 mfX4_151 (lk4_draft ht) (lr5_lawTo (lk4_draft ht)) ?_
  refine mG.iload_n 2 dX4_readLaw_62 rfl ?_
  refine mG.aload_n 0 dX4_readLaw_63 rfl ?_
  refine mG.get (v := .ref (t + 1)) dX4_readLaw_64 mfX4_12 ht (lr4_draft ht) ?_
  refine mG.get (v := .int (S.1 (t + 1) 1)) dX4_readLaw_67 mfX4_142 (lk4_draft ht) rfl ?_
  obtain ⟨b1, h⟩ := ckp h
  obtain ⟨S2, hS2, h⟩ := stpp h
  refine mG.iast dX4_readLaw_70 (lk5_lawTo (lk4_draft ht)) (ll5_lawTo (lk4_draft ht)) (inbp b1) hS2 ?_
  refine mG.aload_n 0 dX4_readLaw_71 rfl ?_
  refine mG.get (v := .ref (t + 1)) dX4_readLaw_72 mfX4_12 ht (lr4_draft ht) ?_
  refine mG.iload_n 1 dX4_readLaw_75 rfl ?_
  refine mG.iconst (v := (-1)) dX4_readLaw_76 rfl ?_
  refine mG.iconst (v := (-1)) dX4_readLaw_77 rfl ?_
  refine mG.iconst (v := (-1)) dX4_readLaw_78 rfl ?_
  obtain ⟨q3, hq3, h⟩ := bdp h
  refine mG.callV0 (as := [.int (a1), .int (-1), .int (-1), .int (-1)]) (st := []) (S2 := q3) (r := none) dX4_readLaw_79 mvX5_appendClause wk19_4 rfl (lk4_draft ht) rfl (by decide) (Nat.le_of_ble_eq_true rfl) (c_X5_appendClause (lk4_draft ht) hq3) ?_
  obtain rfl := Option.some.inj h
  exact mG.vret dX4_readLaw_82 rfl ⟨rfl, rfl, rfl⟩
def f_X4_readLaw (F : Nat) (S : mS) (t : Nat) (a1 : Int32) : Option mS := if a1 = (26 : Int32) then (lX4_readLaw_17 F (fun (S : mS) (v2 : Int32) => lX4_readLaw_55 F  t a1 S v2) t a1 S (a1 - (24 : Int32)) (1 : Int32)) else (lX4_readLaw_17 F (fun (S : mS) (v2 : Int32) => lX4_readLaw_55 F  t a1 S v2) t a1 S (a1 - (24 : Int32)) (0 : Int32))
set_option maxHeartbeats 4000000 in
set_option maxRecDepth 100000 in
theorem c_X4_readLaw {F : Nat} {S : mS} {t : Nat} {a1 : Int32} {R : mS} (ht : kd0 t = 4) (h : f_X4_readLaw F S t a1 = some R) : mCt μX4_readLaw 75 0 0 E0 S [.ref (t), .int (a1)] (mQe R none) := by
  unfold f_X4_readLaw at h
  refine mCt.of (by decide) (Nat.le_of_ble_eq_true rfl) ?_
  intro x
  refine mG.iload_n 1 dX4_readLaw_0 rfl ?_
  refine mG.bipush (v := 24) dX4_readLaw_1 (by decide) ?_
  refine mG.isub dX4_readLaw_3 ?_
  refine mG.istore_n (lv2 := [(2, .int (a1 - (24 : Int32))), (0, .ref (t)), (1, .int (a1))]) dX4_readLaw_4 rfl (by decide) rfl ?_
  refine mG.aload_n 1 dX4_readLaw_5 rfl ?_
  refine mG.iload_n 2 dX4_readLaw_6 rfl ?_
  refine mG.bipush (v := 26) dX4_readLaw_7 (by decide) ?_
  refine mG.icmp_ne 16 dX4_readLaw_9 (by decide) (fun c1 => ?_) (fun c1 => ?_)
  · replace h := itn c1 h
    refine mG.iconst (v := 0) dX4_readLaw_16 rfl ?_
    refine mG.sub (lv2 := [(0, .ref (t)), (1, .int (a1)), (2, .int (a1 - (24 : Int32)))]) [1, 2, 0] rfl ?_
    exact gX4_readLaw_17 ht (fun S v2 h => by exact gX4_readLaw_55 ht   S v2  h)  S (a1 - (24 : Int32)) (0 : Int32) ht h
  · replace h := itp c1 h
    refine mG.iconst (v := 1) dX4_readLaw_12 rfl ?_
    refine mG.goto 17 dX4_readLaw_13 (by decide) ?_
    refine mG.sub (lv2 := [(0, .ref (t)), (1, .int (a1)), (2, .int (a1 - (24 : Int32)))]) [1, 2, 0] rfl ?_
    exact gX4_readLaw_17 ht (fun S v2 h => by exact gX4_readLaw_55 ht   S v2  h)  S (a1 - (24 : Int32)) (1 : Int32) ht h
