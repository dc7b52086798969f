theorem dX9_sets_0 : decode cX9_sets 0 = .ok (.aload_n 0, 1) := by decide +kernel
theorem dX9_sets_1 : decode cX9_sets 1 = .ok (.iload_n 1, 1) := by decide +kernel
theorem dX9_sets_2 : decode cX9_sets 2 = .ok (.invokevirtual 69, 3) := by decide +kernel
theorem dX9_sets_5 : decode cX9_sets 5 = .ok (.ifCond .eq 12, 3) := by decide +kernel
theorem dX9_sets_8 : decode cX9_sets 8 = .ok (.iload_n 2, 1) := by decide +kernel
theorem dX9_sets_9 : decode cX9_sets 9 = .ok (.iconst 1, 1) := by decide +kernel
theorem dX9_sets_10 : decode cX9_sets 10 = .ok (.iconst 3, 1) := by decide +kernel
theorem dX9_sets_11 : decode cX9_sets 11 = .ok (.invokestatic 65, 3) := by decide +kernel
theorem dX9_sets_14 : decode cX9_sets 14 = .ok (.ifCond .ne 5, 3) := by decide +kernel
theorem dX9_sets_17 : decode cX9_sets 17 = .ok (.iconst (-1), 1) := by decide +kernel
theorem dX9_sets_18 : decode cX9_sets 18 = .ok (.ireturn, 1) := by decide +kernel
theorem dX9_sets_19 : decode cX9_sets 19 = .ok (.aload_n 0, 1) := by decide +kernel
theorem dX9_sets_20 : decode cX9_sets 20 = .ok (.iload_n 1, 1) := by decide +kernel
theorem dX9_sets_21 : decode cX9_sets 21 = .ok (.iload_n 2, 1) := by decide +kernel
theorem dX9_sets_22 : decode cX9_sets 22 = .ok (.invokevirtual 430, 3) := by decide +kernel
theorem dX9_sets_25 : decode cX9_sets 25 = .ok (.iload_n 3, 1) := by decide +kernel
theorem dX9_sets_26 : decode cX9_sets 26 = .ok (.ifCond .ne 10, 3) := by decide +kernel
theorem dX9_sets_29 : decode cX9_sets 29 = .ok (.aload_n 0, 1) := by decide +kernel
theorem dX9_sets_30 : decode cX9_sets 30 = .ok (.getfield 417, 3) := by decide +kernel
theorem dX9_sets_33 : decode cX9_sets 33 = .ok (.goto 18, 3) := by decide +kernel
theorem dX9_sets_36 : decode cX9_sets 36 = .ok (.aload_n 0, 1) := by decide +kernel
theorem dX9_sets_37 : decode cX9_sets 37 = .ok (.getfield 417, 3) := by decide +kernel
theorem dX9_sets_40 : decode cX9_sets 40 = .ok (.ifCond .ne 7, 3) := by decide +kernel
theorem dX9_sets_43 : decode cX9_sets 43 = .ok (.iconst 0, 1) := by decide +kernel
theorem dX9_sets_44 : decode cX9_sets 44 = .ok (.goto 7, 3) := by decide +kernel
theorem dX9_sets_47 : decode cX9_sets 47 = .ok (.aload_n 0, 1) := by decide +kernel
theorem dX9_sets_48 : decode cX9_sets 48 = .ok (.getfield 420, 3) := by decide +kernel
theorem dX9_sets_51 : decode cX9_sets 51 = .ok (.ireturn, 1) := by decide +kernel
def f_X9_sets (F : Nat) (S : mS) (t : Nat) (a1 : Int32) (a2 : Int32) (a3 : Int32) : Option (mS × Int32) := bd (f_X9_isHouse F S t a1) fun q1 => if q1 = true then (if (f_X9_isIn S a2 (1 : Int32) (3 : Int32)) = true then (bd (f_X9_laySets F S t a1 a2) fun q2 => if a3 = 0 then (some (q2, q2.1 t 27)) else (if (q2.1 t 27) = 0 then (some (q2, (0 : Int32))) else (some (q2, q2.1 t 28)))) else (some (S, (-1 : Int32)))) else (some (S, (-1 : Int32)))
set_option maxHeartbeats 4000000 in
set_option maxRecDepth 100000 in
theorem c_X9_sets {F : Nat} {S : mS} {t : Nat} {a1 : Int32} {a2 : Int32} {a3 : Int32} {R : mS × Int32} (ht : kd0 t = 9) (h : f_X9_sets F S t a1 a2 a3 = some R) : mCt μX9_sets 3 0 0 E0 S [.ref (t), .int (a1), .int (a2), .int (a3)] (mQe R.1 (some (.int R.2))) := by
  unfold f_X9_sets at h
  refine mCt.of (by decide) (Nat.le_of_ble_eq_true rfl) ?_
  intro x
  refine mG.aload_n 0 dX9_sets_0 rfl ?_
  refine mG.iload_n 1 dX9_sets_1 rfl ?_
  obtain ⟨q1, hq1, h⟩ := bdp h
  refine mG.callV0 (as := [.int (a1)]) (st := []) (S2 := S) (r := some (.int (bI (q1)))) dX9_sets_2 mvX9_isHouse wk33_0 rfl ht rfl (by decide) (Nat.le_of_ble_eq_true rfl) (c_X9_isHouse ht hq1) ?_
  refine mG.ifz_eq (b := q1) 17 dX9_sets_5 (by decide) (fun c6 => ?_) (fun c6 => ?_)
  · replace h := itn c6 h
    refine mG.iconst (v := (-1)) dX9_sets_17 rfl ?_
    obtain rfl := Option.some.inj h
    exact mG.iret dX9_sets_18 rfl ⟨rfl, rfl, rfl⟩
  · replace h := itp c6 h
    refine mG.iload_n 2 dX9_sets_8 rfl ?_
    refine mG.iconst (v := 1) dX9_sets_9 rfl ?_
    refine mG.iconst (v := 3) dX9_sets_10 rfl ?_
    refine mG.callS0 (as := [.int (a2), .int 1, .int 3]) (st := []) (S2 := S) (r := some (.int (bI (f_X9_isIn S a2 (1 : Int32) (3 : Int32))))) dX9_sets_11 mbX9_isIn wk7_13 wk7_12 rfl rfl (by decide) (Nat.le_of_ble_eq_true rfl) (c_X9_isIn  rfl) ?_
    refine mG.ifz_ne (b := f_X9_isIn S a2 (1 : Int32) (3 : Int32)) 19 dX9_sets_14 (by decide) (fun c5 => ?_) (fun c5 => ?_)
    · replace h := itp c5 h
      refine mG.aload_n 0 dX9_sets_19 rfl ?_
      refine mG.iload_n 1 dX9_sets_20 rfl ?_
      refine mG.iload_n 2 dX9_sets_21 rfl ?_
      obtain ⟨q2, hq2, h⟩ := bdp h
      refine mG.callV0 (as := [.int (a1), .int (a2)]) (st := []) (S2 := q2) (r := none) dX9_sets_22 mvX9_laySets wk53_7 rfl ht rfl (by decide) (Nat.le_of_ble_eq_true rfl) (c_X9_laySets ht hq2) ?_
      refine mG.iload_n 3 dX9_sets_25 rfl ?_
      refine mG.if_ne 36 dX9_sets_26 (by decide) (fun c4 => ?_) (fun c4 => ?_)
      · replace h := itn c4 h
        refine mG.aload_n 0 dX9_sets_36 rfl ?_
        refine mG.get (v := .int (q2.1 t 27)) dX9_sets_37 mfX9_417 ht rfl ?_
        refine mG.if_ne 47 dX9_sets_40 (by decide) (fun c3 => ?_) (fun c3 => ?_)
        · replace h := itn c3 h
          refine mG.aload_n 0 dX9_sets_47 rfl ?_
          refine mG.get (v := .int (q2.1 t 28)) dX9_sets_48 mfX9_420 ht rfl ?_
          obtain rfl := Option.some.inj h
          exact mG.iret dX9_sets_51 rfl ⟨rfl, rfl, rfl⟩
        · replace h := itp c3 h
          refine mG.iconst (v := 0) dX9_sets_43 rfl ?_
          refine mG.goto 51 dX9_sets_44 (by decide) ?_
          obtain rfl := Option.some.inj h
          exact mG.iret dX9_sets_51 rfl ⟨rfl, rfl, rfl⟩
      · replace h := itp c4 h
        refine mG.aload_n 0 dX9_sets_29 rfl ?_
        refine mG.get (v := .int (q2.1 t 27)) dX9_sets_30 mfX9_417 ht rfl ?_
        refine mG.goto 51 dX9_sets_33 (by decide) ?_
        obtain rfl := Option.some.inj h
        exact mG.iret dX9_sets_51 rfl ⟨rfl, rfl, rfl⟩
    · replace h := itn c5 h
      refine mG.iconst (v := (-1)) dX9_sets_17 rfl ?_
      obtain rfl := Option.some.inj h
      exact mG.iret dX9_sets_18 rfl ⟨rfl, rfl, rfl⟩
theorem dX9_common_0 : decode cX9_common 0 = .ok (.iload_n 0, 1) := by decide +kernel
theorem dX9_common_1 : decode cX9_common 1 = .ok (.istore_n 2, 1) := by decide +kernel
theorem dX9_common_2 : decode cX9_common 2 = .ok (.iload_n 1, 1) := by decide +kernel
theorem dX9_common_3 : decode cX9_common 3 = .ok (.istore_n 3, 1) := by decide +kernel
theorem dX9_common_4 : decode cX9_common 4 = .ok (.iload_n 3, 1) := by decide +kernel
theorem dX9_common_5 : decode cX9_common 5 = .ok (.ifCond .eq 16, 3) := by decide +kernel
theorem dX9_common_8 : decode cX9_common 8 = .ok (.iload_n 2, 1) := by decide +kernel
theorem dX9_common_9 : decode cX9_common 9 = .ok (.iload_n 3, 1) := by decide +kernel
theorem dX9_common_10 : decode cX9_common 10 = .ok (.irem, 1) := by decide +kernel
theorem dX9_common_11 : decode cX9_common 11 = .ok (.istore 4, 2) := by decide +kernel
theorem dX9_common_13 : decode cX9_common 13 = .ok (.iload_n 3, 1) := by decide +kernel
theorem dX9_common_14 : decode cX9_common 14 = .ok (.istore_n 2, 1) := by decide +kernel
theorem dX9_common_15 : decode cX9_common 15 = .ok (.iload 4, 2) := by decide +kernel
theorem dX9_common_17 : decode cX9_common 17 = .ok (.istore_n 3, 1) := by decide +kernel
theorem dX9_common_18 : decode cX9_common 18 = .ok (.goto (-14), 3) := by decide +kernel
theorem dX9_common_21 : decode cX9_common 21 = .ok (.iload_n 2, 1) := by decide +kernel
theorem dX9_common_22 : decode cX9_common 22 = .ok (.ireturn, 1) := by decide +kernel
def lX9_common_4 (F : Nat)  (a1 : Int32) (a2 : Int32) : Nat → mS → Int32 → Int32 → Option Int32
  | 0, _, _, _ => none
  | n + 1, S0, v2, v3 => if v3 = 0 then (some v2) else (ck (nz v3) (lX9_common_4 F  a1 a2 n S0 v3 (v2 - v2 / v3 * v3)))
set_option maxHeartbeats 4000000 in
set_option maxRecDepth 100000 in
theorem gX9_common_4 {x : mX} {F : Nat} {a1 : Int32} {a2 : Int32} {S0 : mS}   {R : Int32}   : ∀ (n : Nat) (v2 : Int32) (v3 : Int32), lX9_common_4 F  a1 a2 n S0 v2 v3 = some R → mG x μX9_common 1 0 0 (mQe S0 (some (.int R))) 0 0 E0 S0 4 [(2, .int (v2)), (3, .int (v3))] [] := by
  intro n
  induction n with
  | zero =>
    intro v2 v3 h
    cases h
  | succ n ih =>
    intro v2 v3 h
    unfold lX9_common_4 at h
    refine mG.iload_n 1 dX9_common_4 rfl ?_
    refine mG.if_eq 21 dX9_common_5 (by decide) (fun c2 => ?_) (fun c2 => ?_)
    · replace h := itp c2 h
      refine mG.iload_n 0 dX9_common_21 rfl ?_
      obtain rfl := Option.some.inj h
      exact mG.iret dX9_common_22 rfl ⟨rfl, rfl, rfl⟩
    · replace h := itn c2 h
      refine mG.iload_n 0 dX9_common_8 rfl ?_
      refine mG.iload_n 1 dX9_common_9 rfl ?_
      obtain ⟨b1, h⟩ := ckp h
      refine mG.irem dX9_common_10 (nzp b1) ?_
      refine mG.istore (lv2 := [(4, .int (v2 - v2 / v3 * v3)), (2, .int (v2)), (3, .int (v3))]) dX9_common_11 (by decide) rfl ?_
      refine mG.iload_n 2 dX9_common_13 rfl ?_
      refine mG.istore_n (lv2 := [(2, .int (v3)), (4, .int (v2 - v2 / v3 * v3)), (3, .int (v3))]) dX9_common_14 rfl (by decide) rfl ?_
      refine mG.iload 1 dX9_common_15 rfl ?_
      refine mG.istore_n (lv2 := [(3, .int (v2 - v2 / v3 * v3)), (2, .int (v3)), (4, .int (v2 - v2 / v3 * v3))]) dX9_common_17 rfl (by decide) rfl ?_
      refine mG.goto 4 dX9_common_18 (by decide) ?_
      refine mG.sub (lv2 := [(2, .int (v3)), (3, .int (v2 - v2 / v3 * v3))]) [1, 0] rfl ?_
      exact ih  v3 (v2 - v2 / v3 * v3)  h
def f_X9_common (F : Nat) (S0 : mS) (a1 : Int32) (a2 : Int32) : Option Int32 := lX9_common_4 F  a1 a2 F S0 a1 a2
set_option maxHeartbeats 4000000 in
set_option maxRecDepth 100000 in
theorem c_X9_common {F : Nat} {S0 : mS} {a1 : Int32} {a2 : Int32} {R : Int32}  (h : f_X9_common F S0 a1 a2 = some R) : mCt μX9_common 1 0 0 E0 S0 [.int (a1), .int (a2)] (mQe S0 (some (.int R))) := by
  unfold f_X9_common at h
  refine mCt.of (by decide) (Nat.le_of_ble_eq_true rfl) ?_
  intro x
  refine mG.iload_n 0 dX9_common_0 rfl ?_
  refine mG.istore_n (lv2 := [(2, .int (a1)), (0, .int (a1)), (1, .int (a2))]) dX9_common_1 rfl (by decide) rfl ?_
  refine mG.iload_n 2 dX9_common_2 rfl ?_
  refine mG.istore_n (lv2 := [(3, .int (a2)), (2, .int (a1)), (0, .int (a1)), (1, .int (a2))]) dX9_common_3 rfl (by decide) rfl ?_
  refine mG.sub (lv2 := [(2, .int (a1)), (3, .int (a2))]) [1, 0] rfl ?_
  exact gX9_common_4   F  a1 a2  h
theorem dX9_odds_0 : decode cX9_odds 0 = .ok (.aload_n 0, 1) := by decide +kernel
theorem dX9_odds_1 : decode cX9_odds 1 = .ok (.iload_n 1, 1) := by decide +kernel
theorem dX9_odds_2 : decode cX9_odds 2 = .ok (.invokevirtual 69, 3) := by decide +kernel
theorem dX9_odds_5 : decode cX9_odds 5 = .ok (.ifCond .eq 22, 3) := by decide +kernel
theorem dX9_odds_8 : decode cX9_odds 8 = .ok (.iload_n 2, 1) := by decide +kernel
theorem dX9_odds_9 : decode cX9_odds 9 = .ok (.iconst 1, 1) := by decide +kernel
theorem dX9_odds_10 : decode cX9_odds 10 = .ok (.iconst 3, 1) := by decide +kernel
theorem dX9_odds_11 : decode cX9_odds 11 = .ok (.invokestatic 65, 3) := by decide +kernel
theorem dX9_odds_14 : decode cX9_odds 14 = .ok (.ifCond .eq 13, 3) := by decide +kernel
theorem dX9_odds_17 : decode cX9_odds 17 = .ok (.iload_n 3, 1) := by decide +kernel
theorem dX9_odds_18 : decode cX9_odds 18 = .ok (.iconst 0, 1) := by decide +kernel
theorem dX9_odds_19 : decode cX9_odds 19 = .ok (.bipush 19, 2) := by decide +kernel
theorem dX9_odds_21 : decode cX9_odds 21 = .ok (.invokestatic 65, 3) := by decide +kernel
theorem dX9_odds_24 : decode cX9_odds 24 = .ok (.ifCond .ne 5, 3) := by decide +kernel
theorem dX9_odds_27 : decode cX9_odds 27 = .ok (.iconst (-1), 1) := by decide +kernel
theorem dX9_odds_28 : decode cX9_odds 28 = .ok (.ireturn, 1) := by decide +kernel
theorem dX9_odds_29 : decode cX9_odds 29 = .ok (.aload_n 0, 1) := by decide +kernel
theorem dX9_odds_30 : decode cX9_odds 30 = .ok (.iload_n 1, 1) := by decide +kernel
theorem dX9_odds_31 : decode cX9_odds 31 = .ok (.iload_n 2, 1) := by decide +kernel
theorem dX9_odds_32 : decode cX9_odds 32 = .ok (.invokevirtual 430, 3) := by decide +kernel
theorem dX9_odds_35 : decode cX9_odds 35 = .ok (.aload_n 0, 1) := by decide +kernel
theorem dX9_odds_36 : decode cX9_odds 36 = .ok (.getfield 417, 3) := by decide +kernel
theorem dX9_odds_39 : decode cX9_odds 39 = .ok (.ifCond .ne 14, 3) := by decide +kernel
theorem dX9_odds_42 : decode cX9_odds 42 = .ok (.iload 4, 2) := by decide +kernel
theorem dX9_odds_44 : decode cX9_odds 44 = .ok (.ifCond .eq 7, 3) := by decide +kernel
theorem dX9_odds_47 : decode cX9_odds 47 = .ok (.iconst 1, 1) := by decide +kernel
theorem dX9_odds_48 : decode cX9_odds 48 = .ok (.goto 4, 3) := by decide +kernel
theorem dX9_odds_51 : decode cX9_odds 51 = .ok (.iconst 0, 1) := by decide +kernel
theorem dX9_odds_52 : decode cX9_odds 52 = .ok (.ireturn, 1) := by decide +kernel
theorem dX9_odds_53 : decode cX9_odds 53 = .ok (.iload 4, 2) := by decide +kernel
theorem dX9_odds_55 : decode cX9_odds 55 = .ok (.ifCond .eq 10, 3) := by decide +kernel
theorem dX9_odds_58 : decode cX9_odds 58 = .ok (.aload_n 0, 1) := by decide +kernel
theorem dX9_odds_59 : decode cX9_odds 59 = .ok (.getfield 417, 3) := by decide +kernel
theorem dX9_odds_62 : decode cX9_odds 62 = .ok (.goto 9, 3) := by decide +kernel
theorem dX9_odds_65 : decode cX9_odds 65 = .ok (.aload_n 0, 1) := by decide +kernel
theorem dX9_odds_66 : decode cX9_odds 66 = .ok (.getfield 46, 3) := by decide +kernel
theorem dX9_odds_69 : decode cX9_odds 69 = .ok (.iload_n 3, 1) := by decide +kernel
theorem dX9_odds_70 : decode cX9_odds 70 = .ok (.iaload, 1) := by decide +kernel
theorem dX9_odds_71 : decode cX9_odds 71 = .ok (.aload_n 0, 1) := by decide +kernel
theorem dX9_odds_72 : decode cX9_odds 72 = .ok (.getfield 46, 3) := by decide +kernel
theorem dX9_odds_75 : decode cX9_odds 75 = .ok (.iload_n 3, 1) := by decide +kernel
theorem dX9_odds_76 : decode cX9_odds 76 = .ok (.iaload, 1) := by decide +kernel
theorem dX9_odds_77 : decode cX9_odds 77 = .ok (.aload_n 0, 1) := by decide +kernel
theorem dX9_odds_78 : decode cX9_odds 78 = .ok (.getfield 417, 3) := by decide +kernel
theorem dX9_odds_81 : decode cX9_odds 81 = .ok (.invokestatic 433, 3) := by decide +kernel
theorem dX9_odds_84 : decode cX9_odds 84 = .ok (.idiv, 1) := by decide +kernel
theorem dX9_odds_85 : decode cX9_odds 85 = .ok (.ireturn, 1) := by decide +kernel
def f_X9_odds (F : Nat) (S : mS) (t : Nat) (a1 : Int32) (a2 : Int32) (a3 : Int32) (a4 : Int32) : Option (mS × Int32) := bd (f_X9_isHouse F S t a1) fun q1 => if q1 = true then (if (f_X9_isIn S a2 (1 : Int32) (3 : Int32)) = true then (if (f_X9_isIn S a3 (0 : Int32) (19 : Int32)) = true then (bd (f_X9_laySets F S t a1 a2) fun q2 => if (q2.1 t 27) = 0 then (if a4 = 0 then (some (q2, (0 : Int32))) else (some (q2, (1 : Int32)))) else (if a4 = 0 then (ck (inb a3 20) (ck (inb a3 20) (bd (f_X9_common F q2 (q2.1 (t + 10) a3.toNatClampNeg) (q2.1 t 27)) fun q5 => ck (nz q5) (some (q2, (q2.1 (t + 10) a3.toNatClampNeg) / q5))))) else (ck (inb a3 20) (bd (f_X9_common F q2 (q2.1 (t + 10) a3.toNatClampNeg) (q2.1 t 27)) fun q8 => ck (nz q8) (some (q2, (q2.1 t 27) / q8)))))) else (some (S, (-1 : Int32)))) else (some (S, (-1 : Int32)))) else (some (S, (-1 : Int32)))
set_option maxHeartbeats 4000000 in
set_option maxRecDepth 100000 in
theorem c_X9_odds {F : Nat} {S : mS} {t : Nat} {a1 : Int32} {a2 : Int32} {a3 : Int32} {a4 : Int32} {R : mS × Int32} (ht : kd0 t = 9) (h : f_X9_odds F S t a1 a2 a3 a4 = some R) : mCt μX9_odds 3 0 0 E0 S [.ref (t), .int (a1), .int (a2), .int (a3), .int (a4)] (mQe R.1 (some (.int R.2))) := by
  unfold f_X9_odds at h
  refine mCt.of (by decide) (Nat.le_of_ble_eq_true rfl) ?_
  intro x
  refine mG.aload_n 0 dX9_odds_0 rfl ?_
  refine mG.iload_n 1 dX9_odds_1 rfl ?_
  obtain ⟨q1, hq1, h⟩ := bdp h
  refine mG.callV0 (as := [.int (a1)]) (st := []) (S2 := S) (r := some (.int (bI (q1)))) dX9_odds_2 mvX9_isHouse wk33_0 rfl ht rfl (by decide) (Nat.le_of_ble_eq_true rfl) (c_X9_isHouse ht hq1) ?_
  refine mG.ifz_eq (b := q1) 27 dX9_odds_5 (by decide) (fun c15 => ?_) (fun c15 => ?_)
  · replace h := itn c15 h
    refine mG.iconst (v := (-1)) dX9_odds_27 rfl ?_
    obtain rfl := Option.some.inj h
    exact mG.iret dX9_odds_28 rfl ⟨rfl, rfl, rfl⟩
  · replace h := itp c15 h
    refine mG.iload_n 2 dX9_odds_8 rfl ?_
    refine mG.iconst (v := 1) dX9_odds_9 rfl ?_
    refine mG.iconst (v := 3) dX9_odds_10 rfl ?_
    refine mG.callS0 (as := [.int (a2), .int 1, .int 3]) (st := []) (S2 := S) (r := some (.int (bI (f_X9_isIn S a2 (1 : Int32) (3 : Int32))))) dX9_odds_11 mbX9_isIn wk7_13 wk7_12 rfl rfl (by decide) (Nat.le_of_ble_eq_true rfl) (c_X9_isIn  rfl) ?_
    refine mG.ifz_eq (b := f_X9_isIn S a2 (1 : Int32) (3 : Int32)) 27 dX9_odds_14 (by decide) (fun c14 => ?_) (fun c14 => ?_)
    · replace h := itn c14 h
      refine mG.iconst (v := (-1)) dX9_odds_27 rfl ?_
      obtain rfl := Option.some.inj h
      exact mG.iret dX9_odds_28 rfl ⟨rfl, rfl, rfl⟩
    · replace h := itp c14 h
      refine mG.iload_n 3 dX9_odds_17 rfl ?_
      refine mG.iconst (v := 0) dX9_odds_18 rfl ?_
      refine mG.bipush (v := 19) dX9_odds_19 (by decide) ?_
      refine mG.callS0 (as := [.int (a3), .int 0, .int 19]) (st := []) (S2 := S) (r := some (.int (bI (f_X9_isIn S a3 (0 : Int32) (19 : Int32))))) dX9_odds_21 mbX9_isIn wk7_13 wk7_12 rfl rfl (by decide) (Nat.le_of_ble_eq_true rfl) (c_X9_isIn  rfl) ?_
      refine mG.ifz_ne (b := f_X9_isIn S a3 (0 : Int32) (19 : Int32)) 29 dX9_odds_24 (by decide) (fun c13 => ?_) (fun c13 => ?_)
      · replace h := itp c13 h
        refine mG.aload_n 0 dX9_odds_29 rfl ?_
        refine mG.iload_n 1 dX9_odds_30 rfl ?_
        refine mG.iload_n 2 dX9_odds_31 rfl ?_
        obtain ⟨q2, hq2, h⟩ := bdp h
        refine mG.callV0 (as := [.int (a1), .int (a2)]) (st := []) (S2 := q2) (r := none) dX9_odds_32 mvX9_laySets wk53_7 rfl ht rfl (by decide) (Nat.le_of_ble_eq_true rfl) (c_X9_laySets ht hq2) ?_
        refine mG.aload_n 0 dX9_odds_35 rfl ?_
        refine mG.get (v := .int (q2.1 t 27)) dX9_odds_36 mfX9_417 ht rfl ?_
        refine mG.if_ne 53 dX9_odds_39 (by decide) (fun c12 => ?_) (fun c12 => ?_)
        · replace h := itn c12 h
          refine mG.iload 4 dX9_odds_53 rfl ?_
          refine mG.if_eq 65 dX9_odds_55 (by decide) (fun c10 => ?_) (fun c10 => ?_)
          · replace h := itp c10 h
            refine mG.aload_n 0 dX9_odds_65 rfl ?_
            refine mG.get (v := .ref (t + 10)) dX9_odds_66 mfX9_46 ht (lr9_with ht) ?_
            refine mG.iload_n 3 dX9_odds_69 rfl ?_
            obtain ⟨b3, h⟩ := ckp h
            refine mG.iald dX9_odds_70 (lk9_with ht) (ll9_with ht) (inbp b3) ?_
            refine mG.aload_n 0 dX9_odds_71 rfl ?_
            refine mG.get (v := .ref (t + 10)) dX9_odds_72 mfX9_46 ht (lr9_with ht) ?_
            refine mG.iload_n 3 dX9_odds_75 rfl ?_
            obtain ⟨b4, h⟩ := ckp h
            refine mG.iald dX9_odds_76 (lk9_with ht) (ll9_with ht) (inbp b4) ?_
            refine mG.aload_n 0 dX9_odds_77 rfl ?_
            refine mG.get (v := .int (q2.1 t 27)) dX9_odds_78 mfX9_417 ht rfl ?_
            obtain ⟨q5, hq5, h⟩ := bdp h
            refine mG.callS0 (as := [.int (q2.1 (t + 10) a3.toNatClampNeg), .int (q2.1 t 27)]) (st := [.int (q2.1 (t + 10) a3.toNatClampNeg)]) (S2 := q2) (r := some (.int (q5))) dX9_odds_81 mbX9_common wk54_11 wk54_10 rfl rfl (by decide) (Nat.le_of_ble_eq_true rfl) (c_X9_common  hq5) ?_
            obtain ⟨b6, h⟩ := ckp h
            refine mG.idiv dX9_odds_84 (nzp b6) ?_
            obtain rfl := Option.some.inj h
            exact mG.iret dX9_odds_85 rfl ⟨rfl, rfl, rfl⟩
          · replace h := itn c10 h
            refine mG.aload_n 0 dX9_odds_58 rfl ?_
            refine mG.get (v := .int (q2.1 t 27)) dX9_odds_59 mfX9_417 ht rfl ?_
            refine mG.goto 71 dX9_odds_62 (by decide) ?_
            refine mG.aload_n 0 dX9_odds_71 rfl ?_
            refine mG.get (v := .ref (t + 10)) dX9_odds_72 mfX9_46 ht (lr9_with ht) ?_
            refine mG.iload_n 3 dX9_odds_75 rfl ?_
            obtain ⟨b7, h⟩ := ckp h
            refine mG.iald dX9_odds_76 (lk9_with ht) (ll9_with ht) (inbp b7) ?_
            refine mG.aload_n 0 dX9_odds_77 rfl ?_
            refine mG.get (v := .int (q2.1 t 27)) dX9_odds_78 mfX9_417 ht rfl ?_
            obtain ⟨q8, hq8, h⟩ := bdp h
            refine mG.callS0 (as := [.int (q2.1 (t + 10) a3.toNatClampNeg), .int (q2.1 t 27)]) (st := [.int (q2.1 t 27)]) (S2 := q2) (r := some (.int (q8))) dX9_odds_81 mbX9_common wk54_11 wk54_10 rfl rfl (by decide) (Nat.le_of_ble_eq_true rfl) (c_X9_common  hq8) ?_
            obtain ⟨b9, h⟩ := ckp h
            refine mG.idiv dX9_odds_84 (nzp b9) ?_
            obtain rfl := Option.some.inj h
            exact mG.iret dX9_odds_85 rfl ⟨rfl, rfl, rfl⟩
        · replace h := itp c12 h
          refine mG.iload 4 dX9_odds_42 rfl ?_
          refine mG.if_eq 51 dX9_odds_44 (by decide) (fun c11 => ?_) (fun c11 => ?_)
          · replace h := itp c11 h
            refine mG.iconst (v := 0) dX9_odds_51 rfl ?_
            obtain rfl := Option.some.inj h
            exact mG.iret dX9_odds_52 rfl ⟨rfl, rfl, rfl⟩
          · replace h := itn c11 h
            refine mG.iconst (v := 1) dX9_odds_47 rfl ?_
            refine mG.goto 52 dX9_odds_48 (by decide) ?_
            obtain rfl := Option.some.inj h
            exact mG.iret dX9_odds_52 rfl ⟨rfl, rfl, rfl⟩
      · replace h := itn c13 h
        refine mG.iconst (v := (-1)) dX9_odds_27 rfl ?_
        obtain rfl := Option.some.inj h
        exact mG.iret dX9_odds_28 rfl ⟨rfl, rfl, rfl⟩
theorem dX9_nextKnock_0 : decode cX9_nextKnock 0 = .ok (.aload_n 0, 1) := by decide +kernel
theorem dX9_nextKnock_1 : decode cX9_nextKnock 1 = .ok (.iload_n 1, 1) := by decide +kernel
theorem dX9_nextKnock_2 : decode cX9_nextKnock 2 = .ok (.invokevirtual 69, 3) := by decide +kernel
theorem dX9_nextKnock_5 : decode cX9_nextKnock 5 = .ok (.ifCond .eq 12, 3) := by decide +kernel
theorem dX9_nextKnock_8 : decode cX9_nextKnock 8 = .ok (.iload_n 2, 1) := by decide +kernel
theorem dX9_nextKnock_9 : decode cX9_nextKnock 9 = .ok (.iconst 1, 1) := by decide +kernel
theorem dX9_nextKnock_10 : decode cX9_nextKnock 10 = .ok (.iconst 3, 1) := by decide +kernel
theorem dX9_nextKnock_11 : decode cX9_nextKnock 11 = .ok (.invokestatic 65, 3) := by decide +kernel
theorem dX9_nextKnock_14 : decode cX9_nextKnock 14 = .ok (.ifCond .ne 5, 3) := by decide +kernel
theorem dX9_nextKnock_17 : decode cX9_nextKnock 17 = .ok (.iconst (-1), 1) := by decide +kernel
theorem dX9_nextKnock_18 : decode cX9_nextKnock 18 = .ok (.ireturn, 1) := by decide +kernel
theorem dX9_nextKnock_19 : decode cX9_nextKnock 19 = .ok (.aload_n 0, 1) := by decide +kernel
theorem dX9_nextKnock_20 : decode cX9_nextKnock 20 = .ok (.iload_n 1, 1) := by decide +kernel
theorem dX9_nextKnock_21 : decode cX9_nextKnock 21 = .ok (.iload_n 2, 1) := by decide +kernel
theorem dX9_nextKnock_22 : decode cX9_nextKnock 22 = .ok (.invokevirtual 430, 3) := by decide +kernel
theorem dX9_nextKnock_25 : decode cX9_nextKnock 25 = .ok (.iconst (-1), 1) := by decide +kernel
theorem dX9_nextKnock_26 : decode cX9_nextKnock 26 = .ok (.istore_n 3, 1) := by decide +kernel
theorem dX9_nextKnock_27 : decode cX9_nextKnock 27 = .ok (.ldc_w 436, 3) := by decide +kernel
theorem dX9_nextKnock_30 : decode cX9_nextKnock 30 = .ok (.istore 4, 2) := by decide +kernel
theorem dX9_nextKnock_32 : decode cX9_nextKnock 32 = .ok (.iconst 0, 1) := by decide +kernel
theorem dX9_nextKnock_33 : decode cX9_nextKnock 33 = .ok (.istore 5, 2) := by decide +kernel
theorem dX9_nextKnock_35 : decode cX9_nextKnock 35 = .ok (.iload 5, 2) := by decide +kernel
theorem dX9_nextKnock_37 : decode cX9_nextKnock 37 = .ok (.bipush 20, 2) := by decide +kernel
theorem dX9_nextKnock_39 : decode cX9_nextKnock 39 = .ok (.if_icmp .ge 99, 3) := by decide +kernel
theorem dX9_nextKnock_42 : decode cX9_nextKnock 42 = .ok (.iconst 2, 1) := by decide +kernel
theorem dX9_nextKnock_43 : decode cX9_nextKnock 43 = .ok (.aload_n 0, 1) := by decide +kernel
theorem dX9_nextKnock_44 : decode cX9_nextKnock 44 = .ok (.getfield 46, 3) := by decide +kernel
theorem dX9_nextKnock_47 : decode cX9_nextKnock 47 = .ok (.iload 5, 2) := by decide +kernel
theorem dX9_nextKnock_49 : decode cX9_nextKnock 49 = .ok (.iaload, 1) := by decide +kernel
theorem dX9_nextKnock_50 : decode cX9_nextKnock 50 = .ok (.imul, 1) := by decide +kernel
theorem dX9_nextKnock_51 : decode cX9_nextKnock 51 = .ok (.aload_n 0, 1) := by decide +kernel
theorem dX9_nextKnock_52 : decode cX9_nextKnock 52 = .ok (.getfield 417, 3) := by decide +kernel
theorem dX9_nextKnock_55 : decode cX9_nextKnock 55 = .ok (.if_icmp .le 20, 3) := by decide +kernel
theorem dX9_nextKnock_58 : decode cX9_nextKnock 58 = .ok (.iconst 2, 1) := by decide +kernel
theorem dX9_nextKnock_59 : decode cX9_nextKnock 59 = .ok (.aload_n 0, 1) := by decide +kernel
theorem dX9_nextKnock_60 : decode cX9_nextKnock 60 = .ok (.getfield 46, 3) := by decide +kernel
theorem dX9_nextKnock_63 : decode cX9_nextKnock 63 = .ok (.iload 5, 2) := by decide +kernel
theorem dX9_nextKnock_65 : decode cX9_nextKnock 65 = .ok (.iaload, 1) := by decide +kernel
theorem dX9_nextKnock_66 : decode cX9_nextKnock 66 = .ok (.imul, 1) := by decide +kernel
theorem dX9_nextKnock_67 : decode cX9_nextKnock 67 = .ok (.aload_n 0, 1) := by decide +kernel
theorem dX9_nextKnock_68 : decode cX9_nextKnock 68 = .ok (.getfield 417, 3) := by decide +kernel
theorem dX9_nextKnock_71 : decode cX9_nextKnock 71 = .ok (.isub, 1) := by decide +kernel
theorem dX9_nextKnock_72 : decode cX9_nextKnock 72 = .ok (.goto 17, 3) := by decide +kernel
theorem dX9_nextKnock_75 : decode cX9_nextKnock 75 = .ok (.aload_n 0, 1) := by decide +kernel
theorem dX9_nextKnock_76 : decode cX9_nextKnock 76 = .ok (.getfield 417, 3) := by decide +kernel
theorem dX9_nextKnock_79 : decode cX9_nextKnock 79 = .ok (.iconst 2, 1) := by decide +kernel
theorem dX9_nextKnock_80 : decode cX9_nextKnock 80 = .ok (.aload_n 0, 1) := by decide +kernel
theorem dX9_nextKnock_81 : decode cX9_nextKnock 81 = .ok (.getfield 46, 3) := by decide +kernel
theorem dX9_nextKnock_84 : decode cX9_nextKnock 84 = .ok (.iload 5, 2) := by decide +kernel
theorem dX9_nextKnock_86 : decode cX9_nextKnock 86 = .ok (.iaload, 1) := by decide +kernel
theorem dX9_nextKnock_87 : decode cX9_nextKnock 87 = .ok (.imul, 1) := by decide +kernel
theorem dX9_nextKnock_88 : decode cX9_nextKnock 88 = .ok (.isub, 1) := by decide +kernel
theorem dX9_nextKnock_89 : decode cX9_nextKnock 89 = .ok (.istore 6, 2) := by decide +kernel
theorem dX9_nextKnock_91 : decode cX9_nextKnock 91 = .ok (.aload_n 0, 1) := by decide +kernel
theorem dX9_nextKnock_92 : decode cX9_nextKnock 92 = .ok (.getfield 46, 3) := by decide +kernel
theorem dX9_nextKnock_95 : decode cX9_nextKnock 95 = .ok (.iload 5, 2) := by decide +kernel
theorem dX9_nextKnock_97 : decode cX9_nextKnock 97 = .ok (.iaload, 1) := by decide +kernel
theorem dX9_nextKnock_98 : decode cX9_nextKnock 98 = .ok (.ifCond .eq 34, 3) := by decide +kernel
theorem dX9_nextKnock_101 : decode cX9_nextKnock 101 = .ok (.aload_n 0, 1) := by decide +kernel
theorem dX9_nextKnock_102 : decode cX9_nextKnock 102 = .ok (.getfield 46, 3) := by decide +kernel
theorem dX9_nextKnock_105 : decode cX9_nextKnock 105 = .ok (.iload 5, 2) := by decide +kernel
theorem dX9_nextKnock_107 : decode cX9_nextKnock 107 = .ok (.iaload, 1) := by decide +kernel
theorem dX9_nextKnock_108 : decode cX9_nextKnock 108 = .ok (.aload_n 0, 1) := by decide +kernel
theorem dX9_nextKnock_109 : decode cX9_nextKnock 109 = .ok (.getfield 417, 3) := by decide +kernel
theorem dX9_nextKnock_112 : decode cX9_nextKnock 112 = .ok (.if_icmp .eq 20, 3) := by decide +kernel
theorem dX9_nextKnock_115 : decode cX9_nextKnock 115 = .ok (.iload 6, 2) := by decide +kernel
theorem dX9_nextKnock_117 : decode cX9_nextKnock 117 = .ok (.iload 4, 2) := by decide +kernel
theorem dX9_nextKnock_119 : decode cX9_nextKnock 119 = .ok (.if_icmp .lt 6, 3) := by decide +kernel
theorem dX9_nextKnock_122 : decode cX9_nextKnock 122 = .ok (.goto 10, 3) := by decide +kernel
theorem dX9_nextKnock_125 : decode cX9_nextKnock 125 = .ok (.iload 6, 2) := by decide +kernel
theorem dX9_nextKnock_127 : decode cX9_nextKnock 127 = .ok (.istore 4, 2) := by decide +kernel
theorem dX9_nextKnock_129 : decode cX9_nextKnock 129 = .ok (.iload 5, 2) := by decide +kernel
theorem dX9_nextKnock_131 : decode cX9_nextKnock 131 = .ok (.istore_n 3, 1) := by decide +kernel
theorem dX9_nextKnock_132 : decode cX9_nextKnock 132 = .ok (.iinc 5 1, 3) := by decide +kernel
theorem dX9_nextKnock_135 : decode cX9_nextKnock 135 = .ok (.goto (-100), 3) := by decide +kernel
theorem dX9_nextKnock_138 : decode cX9_nextKnock 138 = .ok (.iload_n 3, 1) := by decide +kernel
theorem dX9_nextKnock_139 : decode cX9_nextKnock 139 = .ok (.ireturn, 1) := by decide +kernel
def lX9_nextKnock_89 (F : Nat) (K35 : mS → Int32 → Int32 → Int32 → Option (mS × Int32)) (t : Nat) (a1 : Int32) (a2 : Int32) (S : mS) (v3 : Int32) (v4 : Int32) (v5 : Int32) (s0 : Int32) : Option (mS × Int32) := ck (inb v5 20) (if (S.1 (t + 10) v5.toNatClampNeg) = 0 then (K35 S v3 v4 (v5 + 1)) else (ck (inb v5 20) (if (S.1 (t + 10) v5.toNatClampNeg) = (S.1 t 27) then (K35 S v3 v4 (v5 + 1)) else (if s0 < v4 then (K35 S v5 s0 (v5 + 1)) else (K35 S v3 v4 (v5 + 1))))))
set_option maxHeartbeats 4000000 in
set_option maxRecDepth 100000 in
theorem gX9_nextKnock_89 {x : mX} {F : Nat} {t : Nat} {a1 : Int32} {a2 : Int32} {K35 : mS → Int32 → Int32 → Int32 → Option (mS × Int32)} {R : mS × Int32} (ht : kd0 t = 9) (hK35 : ∀ (S : mS) (v3 : Int32) (v4 : Int32) (v5 : Int32) , K35 S v3 v4 v5 = some R → mG x μX9_nextKnock 3 0 0 (mQe R.1 (some (.int R.2))) 0 0 E0 S 35 [(0, .ref (t)), (3, .int (v3)), (4, .int (v4)), (5, .int (v5))] []) (S : mS) (v3 : Int32) (v4 : Int32) (v5 : Int32) (s0 : Int32)  (h : lX9_nextKnock_89 F K35 t a1 a2 S v3 v4 v5 s0 = some R) : mG x μX9_nextKnock 3 0 0 (mQe R.1 (some (.int R.2))) 0 0 E0 S 89 [(0, .ref (t)), (3, .int (v3)), (4, .int (v4)), (5, .int (v5))] [.int (s0)] := by
  unfold lX9_nextKnock_89 at h
  refine mG.istore (lv2 := [(6, .int (s0)), (0, .ref (t)), (3, .int (v3)), (4, .int (v4)), (5, .int (v5))]) dX9_nextKnock_89 (by decide) rfl ?_
  refine mG.aload_n 1 dX9_nextKnock_91 rfl ?_
  refine mG.get (v := .ref (t + 10)) dX9_nextKnock_92 mfX9_46 ht (lr9_with ht) ?_
  refine mG.iload 4 dX9_nextKnock_95 rfl ?_
  obtain ⟨b1, h⟩ := ckp h
  refine mG.iald dX9_nextKnock_97 (lk9_with ht) (ll9_with ht) (inbp b1) ?_
  refine mG.if_eq 132 dX9_nextKnock_98 (by decide) (fun c5 => ?_) (fun c5 => ?_)
  · replace h := itp c5 h
    refine mG.iinc 4 (u := v5 + 1) (lv2 := [(5, .int (v5 + 1)), (6, .int (s0)), (0, .ref (t)), (3, .int (v3)), (4, .int (v4))]) dX9_nextKnock_132 rfl rfl (by decide) rfl ?_
    refine mG.goto 35 dX9_nextKnock_135 (by decide) ?_
    refine mG.sub (lv2 := [(0, .ref (t)), (3, .int (v3)), (4, .int (v4)), (5, .int (v5 + 1))]) [2, 3, 4, 0] rfl ?_
    exact hK35 S v3 v4 (v5 + 1)  h
  · replace h := itn c5 h
    refine mG.aload_n 1 dX9_nextKnock_101 rfl ?_
    refine mG.get (v := .ref (t + 10)) dX9_nextKnock_102 mfX9_46 ht (lr9_with ht) ?_
    refine mG.iload 4 dX9_nextKnock_105 rfl ?_
    obtain ⟨b2, h⟩ := ckp h
    refine mG.iald dX9_nextKnock_107 (lk9_with ht) (ll9_with ht) (inbp b2) ?_
    refine mG.aload_n 1 dX9_nextKnock_108 rfl ?_
    refine mG.get (v := .int (S.1 t 27)) dX9_nextKnock_109 mfX9_417 ht rfl ?_
    refine mG.icmp_eq 132 dX9_nextKnock_112 (by decide) (fun c4 => ?_) (fun c4 => ?_)
    · replace h := itp c4 h
      refine mG.iinc 4 (u := v5 + 1) (lv2 := [(5, .int (v5 + 1)), (6, .int (s0)), (0, .ref (t)), (3, .int (v3)), (4, .int (v4))]) dX9_nextKnock_132 rfl rfl (by decide) rfl ?_
      refine mG.goto 35 dX9_nextKnock_135 (by decide) ?_
      refine mG.sub (lv2 := [(0, .ref (t)), (3, .int (v3)), (4, .int (v4)), (5, .int (v5 + 1))]) [2, 3, 4, 0] rfl ?_
      exact hK35 S v3 v4 (v5 + 1)  h
    · replace h := itn c4 h
      refine mG.iload 0 dX9_nextKnock_115 rfl ?_
      refine mG.iload 3 dX9_nextKnock_117 rfl ?_
      refine mG.icmp_lt 125 dX9_nextKnock_119 (by decide) (fun c3 => ?_) (fun c3 => ?_)
      · replace h := itp c3 h
        refine mG.iload 0 dX9_nextKnock_125 rfl ?_
        refine mG.istore (lv2 := [(4, .int (s0)), (6, .int (s0)), (0, .ref (t)), (3, .int (v3)), (5, .int (v5))]) dX9_nextKnock_127 (by decide) rfl ?_
        refine mG.iload 4 dX9_nextKnock_129 rfl ?_
        refine mG.istore_n (lv2 := [(3, .int (v5)), (4, .int (s0)), (6, .int (s0)), (0, .ref (t)), (5, .int (v5))]) dX9_nextKnock_131 rfl (by decide) rfl ?_
        refine mG.iinc 4 (u := v5 + 1) (lv2 := [(5, .int (v5 + 1)), (3, .int (v5)), (4, .int (s0)), (6, .int (s0)), (0, .ref (t))]) dX9_nextKnock_132 rfl rfl (by decide) rfl ?_
        refine mG.goto 35 dX9_nextKnock_135 (by decide) ?_
        refine mG.sub (lv2 := [(0, .ref (t)), (3, .int (v5)), (4, .int (s0)), (5, .int (v5 + 1))]) [4, 1, 2, 0] rfl ?_
        exact hK35 S v5 s0 (v5 + 1)  h
      · replace h := itn c3 h
        refine mG.goto 132 dX9_nextKnock_122 (by decide) ?_
        refine mG.iinc 4 (u := v5 + 1) (lv2 := [(5, .int (v5 + 1)), (6, .int (s0)), (0, .ref (t)), (3, .int (v3)), (4, .int (v4))]) dX9_nextKnock_132 rfl rfl (by decide) rfl ?_
        refine mG.goto 35 dX9_nextKnock_135 (by decide) ?_
        refine mG.sub (lv2 := [(0, .ref (t)), (3, .int (v3)), (4, .int (v4)), (5, .int (v5 + 1))]) [2, 3, 4, 0] rfl ?_
        exact hK35 S v3 v4 (v5 + 1)  h
def lX9_nextKnock_35 (F : Nat)  (t : Nat) (a1 : Int32) (a2 : Int32) : Nat → mS → Int32 → Int32 → Int32 → Option (mS × Int32)
  | 0, _, _, _, _ => none
  | n + 1, S, v3, v4, v5 => if (20 : Int32) ≤ v5 then (some (S, v3)) else (ck (inb v5 20) (if ((2 : Int32) * (S.1 (t + 10) v5.toNatClampNeg)) ≤ (S.1 t 27) then (ck (inb v5 20) (lX9_nextKnock_89 F (fun (S : mS) (v3 : Int32) (v4 : Int32) (v5 : Int32) => lX9_nextKnock_35 F  t a1 a2 n S v3 v4 v5) t a1 a2 S v3 v4 v5 ((S.1 t 27) - ((2 : Int32) * (S.1 (t + 10) v5.toNatClampNeg))))) else (ck (inb v5 20) (lX9_nextKnock_89 F (fun (S : mS) (v3 : Int32) (v4 : Int32) (v5 : Int32) => lX9_nextKnock_35 F  t a1 a2 n S v3 v4 v5) t a1 a2 S v3 v4 v5 (((2 : Int32) * (S.1 (t + 10) v5.toNatClampNeg)) - (S.1 t 27))))))
set_option maxHeartbeats 4000000 in
set_option maxRecDepth 100000 in
theorem gX9_nextKnock_35 {x : mX} {F : Nat} {t : Nat} {a1 : Int32} {a2 : Int32}   {R : mS × Int32} (ht : kd0 t = 9)  : ∀ (n : Nat) (S : mS) (v3 : Int32) (v4 : Int32) (v5 : Int32), lX9_nextKnock_35 F  t a1 a2 n S v3 v4 v5 = some R → mG x μX9_nextKnock 3 0 0 (mQe R.1 (some (.int R.2))) 0 0 E0 S 35 [(0, .ref (t)), (3, .int (v3)), (4, .int (v4)), (5, .int (v5))] [] := by
  intro n
  induction n with
  | zero =>
    intro S v3 v4 v5 h
    cases h
  | succ n ih =>
    intro S v3 v4 v5 h
    unfold lX9_nextKnock_35 at h
    refine mG.iload 3 dX9_nextKnock_35 rfl ?_
    refine mG.bipush (v := 20) dX9_nextKnock_37 (by decide) ?_
    refine mG.icmp_ge 138 dX9_nextKnock_39 (by decide) (fun c5 => ?_) (fun c5 => ?_)
    · replace h := itp c5 h
      refine mG.iload_n 1 dX9_nextKnock_138 rfl ?_
      obtain rfl := Option.some.inj h
      exact mG.iret dX9_nextKnock_139 rfl ⟨rfl, rfl, rfl⟩
    · replace h := itn c5 h
      refine mG.iconst (v := 2) dX9_nextKnock_42 rfl ?_
      refine mG.aload_n 0 dX9_nextKnock_43 rfl ?_
      refine mG.get (v := .ref (t + 10)) dX9_nextKnock_44 mfX9_46 ht (lr9_with ht) ?_
      refine mG.iload 3 dX9_nextKnock_47 rfl ?_
      obtain ⟨b1, h⟩ := ckp h
      refine mG.iald dX9_nextKnock_49 (lk9_with ht) (ll9_with ht) (inbp b1) ?_
      refine mG.imul dX9_nextKnock_50 ?_
      refine mG.aload_n 0 dX9_nextKnock_51 rfl ?_
      refine mG.get (v := .int (S.1 t 27)) dX9_nextKnock_52 mfX9_417 ht rfl ?_
      refine mG.icmp_le 75 dX9_nextKnock_55 (by decide) (fun c4 => ?_) (fun c4 => ?_)
      · replace h := itp c4 h
        refine mG.aload_n 0 dX9_nextKnock_75 rfl ?_
        refine mG.get (v := .int (S.1 t 27)) dX9_nextKnock_76 mfX9_417 ht rfl ?_
        refine mG.iconst (v := 2) dX9_nextKnock_79 rfl ?_
        refine mG.aload_n 0 dX9_nextKnock_80 rfl ?_
        refine mG.get (v := .ref (t + 10)) dX9_nextKnock_81 mfX9_46 ht (lr9_with ht) ?_
        refine mG.iload 3 dX9_nextKnock_84 rfl ?_
        obtain ⟨b2, h⟩ := ckp h
        refine mG.iald dX9_nextKnock_86 (lk9_with ht) (ll9_with ht) (inbp b2) ?_
        refine mG.imul dX9_nextKnock_87 ?_
        refine mG.isub dX9_nextKnock_88 ?_
        refine mG.sub (lv2 := [(0, .ref (t)), (3, .int (v3)), (4, .int (v4)), (5, .int (v5))]) [0, 1, 2, 3] rfl ?_
        exact gX9_nextKnock_89 ht (fun S v3 v4 v5 h => by exact ih S v3 v4 v5  h)  S v3 v4 v5 ((S.1 t 27) - ((2 : Int32) * (S.1 (t + 10) v5.toNatClampNeg)))  h
      · replace h := itn c4 h
        refine mG.iconst (v := 2) dX9_nextKnock_58 rfl ?_
        refine mG.aload_n 0 dX9_nextKnock_59 rfl ?_
        refine mG.get (v := .ref (t + 10)) dX9_nextKnock_60 mfX9_46 ht (lr9_with ht) ?_
        refine mG.iload 3 dX9_nextKnock_63 rfl ?_
        obtain ⟨b3, h⟩ := ckp h
        refine mG.iald dX9_nextKnock_65 (lk9_with ht) (ll9_with ht) (inbp b3) ?_
        refine mG.imul dX9_nextKnock_66 ?_
        refine mG.aload_n 0 dX9_nextKnock_67 rfl ?_
        refine mG.get (v := .int (S.1 t 27)) dX9_nextKnock_68 mfX9_417 ht rfl ?_
        refine mG.isub dX9_nextKnock_71 ?_
        refine mG.goto 89 dX9_nextKnock_72 (by decide) ?_
        refine mG.sub (lv2 := [(0, .ref (t)), (3, .int (v3)), (4, .int (v4)), (5, .int (v5))]) [0, 1, 2, 3] rfl ?_
        exact gX9_nextKnock_89 ht (fun S v3 v4 v5 h => by exact ih S v3 v4 v5  h)  S v3 v4 v5 (((2 : Int32) * (S.1 (t + 10) v5.toNatClampNeg)) - (S.1 t 27))  h
def f_X9_nextKnock (F : Nat) (S : mS) (t : Nat) (a1 : Int32) (a2 : Int32) : Option (mS × Int32) := bd (f_X9_isHouse F S t a1) fun q1 => if q1 = true then (if (f_X9_isIn S a2 (1 : Int32) (3 : Int32)) = true then (bd (f_X9_laySets F S t a1 a2) fun q2 => lX9_nextKnock_35 F  t a1 a2 F q2 (-1 : Int32) (1000000000 : Int32) (0 : Int32)) else (some (S, (-1 : Int32)))) else (some (S, (-1 : Int32)))
set_option maxHeartbeats 4000000 in
set_option maxRecDepth 100000 in
theorem c_X9_nextKnock {F : Nat} {S : mS} {t : Nat} {a1 : Int32} {a2 : Int32} {R : mS × Int32} (ht : kd0 t = 9) (h : f_X9_nextKnock F S t a1 a2 = some R) : mCt μX9_nextKnock 3 0 0 E0 S [.ref (t), .int (a1), .int (a2)] (mQe R.1 (some (.int R.2))) := by
  unfold f_X9_nextKnock at h
  refine mCt.of (by decide) (Nat.le_of_ble_eq_true rfl) ?_
  intro x
  refine mG.aload_n 0 dX9_nextKnock_0 rfl ?_
  refine mG.iload_n 1 dX9_nextKnock_1 rfl ?_
  obtain ⟨q1, hq1, h⟩ := bdp h
  refine mG.callV0 (as := [.int (a1)]) (st := []) (S2 := S) (r := some (.int (bI (q1)))) dX9_nextKnock_2 mvX9_isHouse wk33_0 rfl ht rfl (by decide) (Nat.le_of_ble_eq_true rfl) (c_X9_isHouse ht hq1) ?_
  refine mG.ifz_eq (b := q1) 17 dX9_nextKnock_5 (by decide) (fun c4 => ?_) (fun c4 => ?_)
  · replace h := itn c4 h
    refine mG.iconst (v := (-1)) dX9_nextKnock_17 rfl ?_
    obtain rfl := Option.some.inj h
    exact mG.iret dX9_nextKnock_18 rfl ⟨rfl, rfl, rfl⟩
  · replace h := itp c4 h
    refine mG.iload_n 2 dX9_nextKnock_8 rfl ?_
    refine mG.iconst (v := 1) dX9_nextKnock_9 rfl ?_
    refine mG.iconst (v := 3) dX9_nextKnock_10 rfl ?_
    refine mG.callS0 (as := [.int (a2), .int 1, .int 3]) (st := []) (S2 := S) (r := some (.int (bI (f_X9_isIn S a2 (1 : Int32) (3 : Int32))))) dX9_nextKnock_11 mbX9_isIn wk7_13 wk7_12 rfl rfl (by decide) (Nat.le_of_ble_eq_true rfl) (c_X9_isIn  rfl) ?_
    refine mG.ifz_ne (b := f_X9_isIn S a2 (1 : Int32) (3 : Int32)) 19 dX9_nextKnock_14 (by decide) (fun c3 => ?_) (fun c3 => ?_)
    · replace h := itp c3 h
      refine mG.aload_n 0 dX9_nextKnock_19 rfl ?_
      refine mG.iload_n 1 dX9_nextKnock_20 rfl ?_
      refine mG.iload_n 2 dX9_nextKnock_21 rfl ?_
      obtain ⟨q2, hq2, h⟩ := bdp h
      refine mG.callV0 (as := [.int (a1), .int (a2)]) (st := []) (S2 := q2) (r := none) dX9_nextKnock_22 mvX9_laySets wk53_7 rfl ht rfl (by decide) (Nat.le_of_ble_eq_true rfl) (c_X9_laySets ht hq2) ?_
      refine mG.iconst (v := (-1)) dX9_nextKnock_25 rfl ?_
      refine mG.istore_n (lv2 := [(3, .int (-1)), (0, .ref (t)), (1, .int (a1)), (2, .int (a2))]) dX9_nextKnock_26 rfl (by decide) rfl ?_
      refine mG.ldcw (v := 1000000000) dX9_nextKnock_27 wk55_2 ?_
      refine mG.istore (lv2 := [(4, .int 1000000000), (3, .int (-1)), (0, .ref (t)), (1, .int (a1)), (2, .int (a2))]) dX9_nextKnock_30 (by decide) rfl ?_
      refine mG.iconst (v := 0) dX9_nextKnock_32 rfl ?_
      refine mG.istore (lv2 := [(5, .int 0), (4, .int 1000000000), (3, .int (-1)), (0, .ref (t)), (1, .int (a1)), (2, .int (a2))]) dX9_nextKnock_33 (by decide) rfl ?_
      refine mG.sub (lv2 := [(0, .ref (t)), (3, .int (-1)), (4, .int 1000000000), (5, .int 0)]) [3, 2, 1, 0] rfl ?_
      exact gX9_nextKnock_35 ht  F q2 (-1 : Int32) (1000000000 : Int32) (0 : Int32)  h
    · replace h := itn c3 h
      refine mG.iconst (v := (-1)) dX9_nextKnock_17 rfl ?_
      obtain rfl := Option.some.inj h
      exact mG.iret dX9_nextKnock_18 rfl ⟨rfl, rfl, rfl⟩
theorem dX9_layThieves_0 : decode cX9_layThieves 0 = .ok (.aload_n 0, 1) := by decide +kernel
theorem dX9_layThieves_1 : decode cX9_layThieves 1 = .ok (.iconst 0, 1) := by decide +kernel
theorem dX9_layThieves_2 : decode cX9_layThieves 2 = .ok (.putfield 437, 3) := by decide +kernel
theorem dX9_layThieves_5 : decode cX9_layThieves 5 = .ok (.aload_n 0, 1) := by decide +kernel
theorem dX9_layThieves_6 : decode cX9_layThieves 6 = .ok (.iconst (-1), 1) := by decide +kernel
theorem dX9_layThieves_7 : decode cX9_layThieves 7 = .ok (.putfield 440, 3) := by decide +kernel
theorem dX9_layThieves_10 : decode cX9_layThieves 10 = .ok (.iconst 0, 1) := by decide +kernel
theorem dX9_layThieves_11 : decode cX9_layThieves 11 = .ok (.istore_n 3, 1) := by decide +kernel
theorem dX9_layThieves_12 : decode cX9_layThieves 12 = .ok (.iload_n 3, 1) := by decide +kernel
theorem dX9_layThieves_13 : decode cX9_layThieves 13 = .ok (.aload_n 0, 1) := by decide +kernel
theorem dX9_layThieves_14 : decode cX9_layThieves 14 = .ok (.getfield 7, 3) := by decide +kernel
theorem dX9_layThieves_17 : decode cX9_layThieves 17 = .ok (.iconst 0, 1) := by decide +kernel
theorem dX9_layThieves_18 : decode cX9_layThieves 18 = .ok (.iaload, 1) := by decide +kernel
theorem dX9_layThieves_19 : decode cX9_layThieves 19 = .ok (.if_icmp .ge 117, 3) := by decide +kernel
theorem dX9_layThieves_22 : decode cX9_layThieves 22 = .ok (.iconst 0, 1) := by decide +kernel
theorem dX9_layThieves_23 : decode cX9_layThieves 23 = .ok (.istore 4, 2) := by decide +kernel
theorem dX9_layThieves_25 : decode cX9_layThieves 25 = .ok (.iconst 0, 1) := by decide +kernel
theorem dX9_layThieves_26 : decode cX9_layThieves 26 = .ok (.istore 5, 2) := by decide +kernel
theorem dX9_layThieves_28 : decode cX9_layThieves 28 = .ok (.iload_n 3, 1) := by decide +kernel
theorem dX9_layThieves_29 : decode cX9_layThieves 29 = .ok (.istore 6, 2) := by decide +kernel
theorem dX9_layThieves_31 : decode cX9_layThieves 31 = .ok (.aload_n 0, 1) := by decide +kernel
theorem dX9_layThieves_32 : decode cX9_layThieves 32 = .ok (.iload_n 3, 1) := by decide +kernel
theorem dX9_layThieves_33 : decode cX9_layThieves 33 = .ok (.invokevirtual 77, 3) := by decide +kernel
theorem dX9_layThieves_36 : decode cX9_layThieves 36 = .ok (.ifCond .eq 94, 3) := by decide +kernel
theorem dX9_layThieves_39 : decode cX9_layThieves 39 = .ok (.iload 6, 2) := by decide +kernel
theorem dX9_layThieves_41 : decode cX9_layThieves 41 = .ok (.aload_n 0, 1) := by decide +kernel
theorem dX9_layThieves_42 : decode cX9_layThieves 42 = .ok (.getfield 7, 3) := by decide +kernel
theorem dX9_layThieves_45 : decode cX9_layThieves 45 = .ok (.iconst 0, 1) := by decide +kernel
theorem dX9_layThieves_46 : decode cX9_layThieves 46 = .ok (.iaload, 1) := by decide +kernel
theorem dX9_layThieves_47 : decode cX9_layThieves 47 = .ok (.if_icmp .ge 83, 3) := by decide +kernel
theorem dX9_layThieves_50 : decode cX9_layThieves 50 = .ok (.aload_n 0, 1) := by decide +kernel
theorem dX9_layThieves_51 : decode cX9_layThieves 51 = .ok (.iload 6, 2) := by decide +kernel
theorem dX9_layThieves_53 : decode cX9_layThieves 53 = .ok (.iload_n 1, 1) := by decide +kernel
theorem dX9_layThieves_54 : decode cX9_layThieves 54 = .ok (.invokevirtual 302, 3) := by decide +kernel
theorem dX9_layThieves_57 : decode cX9_layThieves 57 = .ok (.ifCond .ne 73, 3) := by decide +kernel
theorem dX9_layThieves_60 : decode cX9_layThieves 60 = .ok (.iload 5, 2) := by decide +kernel
theorem dX9_layThieves_62 : decode cX9_layThieves 62 = .ok (.iload_n 2, 1) := by decide +kernel
theorem dX9_layThieves_63 : decode cX9_layThieves 63 = .ok (.if_icmp .ge 67, 3) := by decide +kernel
theorem dX9_layThieves_66 : decode cX9_layThieves 66 = .ok (.aload_n 0, 1) := by decide +kernel
theorem dX9_layThieves_67 : decode cX9_layThieves 67 = .ok (.iload 6, 2) := by decide +kernel
theorem dX9_layThieves_69 : decode cX9_layThieves 69 = .ok (.invokevirtual 77, 3) := by decide +kernel
theorem dX9_layThieves_72 : decode cX9_layThieves 72 = .ok (.ifCond .ne 6, 3) := by decide +kernel
theorem dX9_layThieves_75 : decode cX9_layThieves 75 = .ok (.goto 49, 3) := by decide +kernel
theorem dX9_layThieves_78 : decode cX9_layThieves 78 = .ok (.iinc 5 1, 3) := by decide +kernel
theorem dX9_layThieves_81 : decode cX9_layThieves 81 = .ok (.iload 4, 2) := by decide +kernel
theorem dX9_layThieves_83 : decode cX9_layThieves 83 = .ok (.aload_n 0, 1) := by decide +kernel
theorem dX9_layThieves_84 : decode cX9_layThieves 84 = .ok (.iload 6, 2) := by decide +kernel
theorem dX9_layThieves_86 : decode cX9_layThieves 86 = .ok (.iconst 1, 1) := by decide +kernel
theorem dX9_layThieves_87 : decode cX9_layThieves 87 = .ok (.invokevirtual 73, 3) := by decide +kernel
theorem dX9_layThieves_90 : decode cX9_layThieves 90 = .ok (.iadd, 1) := by decide +kernel
theorem dX9_layThieves_91 : decode cX9_layThieves 91 = .ok (.istore 4, 2) := by decide +kernel
theorem dX9_layThieves_93 : decode cX9_layThieves 93 = .ok (.aload_n 0, 1) := by decide +kernel
theorem dX9_layThieves_94 : decode cX9_layThieves 94 = .ok (.getfield 440, 3) := by decide +kernel
theorem dX9_layThieves_97 : decode cX9_layThieves 97 = .ok (.iconst (-1), 1) := by decide +kernel
theorem dX9_layThieves_98 : decode cX9_layThieves 98 = .ok (.if_icmp .eq 15, 3) := by decide +kernel
theorem dX9_layThieves_101 : decode cX9_layThieves 101 = .ok (.iload 4, 2) := by decide +kernel
theorem dX9_layThieves_103 : decode cX9_layThieves 103 = .ok (.aload_n 0, 1) := by decide +kernel
theorem dX9_layThieves_104 : decode cX9_layThieves 104 = .ok (.getfield 437, 3) := by decide +kernel
theorem dX9_layThieves_107 : decode cX9_layThieves 107 = .ok (.if_icmp .gt 6, 3) := by decide +kernel
theorem dX9_layThieves_110 : decode cX9_layThieves 110 = .ok (.goto 14, 3) := by decide +kernel
theorem dX9_layThieves_113 : decode cX9_layThieves 113 = .ok (.aload_n 0, 1) := by decide +kernel
theorem dX9_layThieves_114 : decode cX9_layThieves 114 = .ok (.iload 4, 2) := by decide +kernel
theorem dX9_layThieves_116 : decode cX9_layThieves 116 = .ok (.putfield 437, 3) := by decide +kernel
theorem dX9_layThieves_119 : decode cX9_layThieves 119 = .ok (.aload_n 0, 1) := by decide +kernel
theorem dX9_layThieves_120 : decode cX9_layThieves 120 = .ok (.iload_n 3, 1) := by decide +kernel
theorem dX9_layThieves_121 : decode cX9_layThieves 121 = .ok (.putfield 440, 3) := by decide +kernel
theorem dX9_layThieves_124 : decode cX9_layThieves 124 = .ok (.iinc 6 1, 3) := by decide +kernel
theorem dX9_layThieves_127 : decode cX9_layThieves 127 = .ok (.goto (-96), 3) := by decide +kernel
theorem dX9_layThieves_130 : decode cX9_layThieves 130 = .ok (.iinc 3 1, 3) := by decide +kernel
theorem dX9_layThieves_133 : decode cX9_layThieves 133 = .ok (.goto (-121), 3) := by decide +kernel
theorem dX9_layThieves_136 : decode cX9_layThieves 136 = .ok (.return_, 1) := by decide +kernel
def lX9_layThieves_31 (F : Nat) (K12 : mS → Int32 → Option mS) (t : Nat) (a1 : Int32) (a2 : Int32) : Nat → mS → Int32 → Int32 → Int32 → Int32 → Option mS
  | 0, _, _, _, _, _ => none
  | n + 1, S, v3, v4, v5, v6 => bd (f_X9_isHere F S t v3) fun q1 => if q1 = true then (ck (inb (0 : Int32) 2308) (if (S.1 (t + 1) (0 : Int32).toNatClampNeg) ≤ v6 then (K12 S (v3 + 1)) else (bd (f_X9_isOpen F S t v6 a1) fun q3 => if q3 = true then (K12 S (v3 + 1)) else (if a2 ≤ v5 then (K12 S (v3 + 1)) else (bd (f_X9_isHere F S t v6) fun q4 => if q4 = true then (bd (f_X9_get F S t v6 (1 : Int32)) fun q5 => if (S.1 t 31) = (-1 : Int32) then (stp (sI S t 30 (v4 + q5)) fun S6 => stp (sI S6 t 31 v3) fun S7 => lX9_layThieves_31 F K12 t a1 a2 n S7 v3 (v4 + q5) (v5 + 1) (v6 + 1)) else (if (S.1 t 30) < (v4 + q5) then (stp (sI S t 30 (v4 + q5)) fun S8 => stp (sI S8 t 31 v3) fun S9 => lX9_layThieves_31 F K12 t a1 a2 n S9 v3 (v4 + q5) (v5 + 1) (v6 + 1)) else (lX9_layThieves_31 F K12 t a1 a2 n S v3 (v4 + q5) (v5 + 1) (v6 + 1)))) else (lX9_layThieves_31 F K12 t a1 a2 n S v3 v4 v5 (v6 + 1))))))) else (K12 S (v3 + 1))
set_option maxHeartbeats 4000000 in
set_option maxRecDepth 100000 in
theorem gX9_layThieves_31 {x : mX} {F : Nat} {t : Nat} {a1 : Int32} {a2 : Int32}  {K12 : mS → Int32 → Option mS} {R : mS} (ht : kd0 t = 9) (hK12 : ∀ (S : mS) (v3 : Int32) , K12 S v3 = some R → mG x μX9_layThieves 5 0 0 (mQe R none) 0 0 E0 S 12 [(0, .ref (t)), (1, .int (a1)), (2, .int (a2)), (3, .int (v3))] []) : ∀ (n : Nat) (S : mS) (v3 : Int32) (v4 : Int32) (v5 : Int32) (v6 : Int32), lX9_layThieves_31 F K12 t a1 a2 n S v3 v4 v5 v6 = some R → mG x μX9_layThieves 5 0 0 (mQe R none) 0 0 E0 S 31 [(0, .ref (t)), (1, .int (a1)), (2, .int (a2)), (3, .int (v3)), (4, .int (v4)), (5, .int (v5)), (6, .int (v6))] [] := by
  intro n
  induction n with
  | zero =>
    intro S v3 v4 v5 v6 h
    cases h
  | succ n ih =>
    intro S v3 v4 v5 v6 h
    unfold lX9_layThieves_31 at h
    refine mG.aload_n 0 dX9_layThieves_31 rfl ?_
    refine mG.iload_n 3 dX9_layThieves_32 rfl ?_
    obtain ⟨q1, hq1, h⟩ := bdp h
    refine mG.callV0 (as := [.int (v3)]) (st := []) (S2 := S) (r := some (.int (bI (q1)))) dX9_layThieves_33 mvX9_isHere wk32_20 rfl ht rfl (by decide) (Nat.le_of_ble_eq_true rfl) (c_X9_isHere ht hq1) ?_
    refine mG.ifz_eq (b := q1) 130 dX9_layThieves_36 (by decide) (fun c16 => ?_) (fun c16 => ?_)
    · replace h := itn c16 h
      refine mG.iinc 3 (u := v3 + 1) (lv2 := [(3, .int (v3 + 1)), (0, .ref (t)), (1, .int (a1)), (2, .int (a2)), (4, .int (v4)), (5, .int (v5)), (6, .int (v6))]) dX9_layThieves_130 rfl rfl (by decide) rfl ?_
      refine mG.goto 12 dX9_layThieves_133 (by decide) ?_
      refine mG.sub (lv2 := [(0, .ref (t)), (1, .int (a1)), (2, .int (a2)), (3, .int (v3 + 1))]) [1, 2, 3, 0] rfl ?_
      exact hK12 S (v3 + 1)  h
    · replace h := itp c16 h
      refine mG.iload 6 dX9_layThieves_39 rfl ?_
      refine mG.aload_n 0 dX9_layThieves_41 rfl ?_
      refine mG.get (v := .ref (t + 1)) dX9_layThieves_42 mfX9_7 ht (lr9_a ht) ?_
      refine mG.iconst (v := 0) dX9_layThieves_45 rfl ?_
      obtain ⟨b2, h⟩ := ckp h
      refine mG.iald dX9_layThieves_46 (lk9_a ht) (ll9_a ht) (inbp b2) ?_
      refine mG.icmp_ge 130 dX9_layThieves_47 (by decide) (fun c15 => ?_) (fun c15 => ?_)
      · replace h := itp c15 h
        refine mG.iinc 3 (u := v3 + 1) (lv2 := [(3, .int (v3 + 1)), (0, .ref (t)), (1, .int (a1)), (2, .int (a2)), (4, .int (v4)), (5, .int (v5)), (6, .int (v6))]) dX9_layThieves_130 rfl rfl (by decide) rfl ?_
        refine mG.goto 12 dX9_layThieves_133 (by decide) ?_
        refine mG.sub (lv2 := [(0, .ref (t)), (1, .int (a1)), (2, .int (a2)), (3, .int (v3 + 1))]) [1, 2, 3, 0] rfl ?_
        exact hK12 S (v3 + 1)  h
      · replace h := itn c15 h
        refine mG.aload_n 0 dX9_layThieves_50 rfl ?_
        refine mG.iload 6 dX9_layThieves_51 rfl ?_
        refine mG.iload_n 1 dX9_layThieves_53 rfl ?_
        obtain ⟨q3, hq3, h⟩ := bdp h
        refine mG.callV0 (as := [.int (v6), .int (a1)]) (st := []) (S2 := S) (r := some (.int (bI (q3)))) dX9_layThieves_54 mvX9_isOpen wk34_15 rfl ht rfl (by decide) (Nat.le_of_ble_eq_true rfl) (c_X9_isOpen ht hq3) ?_
        refine mG.ifz_ne (b := q3) 130 dX9_layThieves_57 (by decide) (fun c14 => ?_) (fun c14 => ?_)
        · replace h := itp c14 h
          refine mG.iinc 3 (u := v3 + 1) (lv2 := [(3, .int (v3 + 1)), (0, .ref (t)), (1, .int (a1)), (2, .int (a2)), (4, .int (v4)), (5, .int (v5)), (6, .int (v6))]) dX9_layThieves_130 rfl rfl (by decide) rfl ?_
          refine mG.goto 12 dX9_layThieves_133 (by decide) ?_
          refine mG.sub (lv2 := [(0, .ref (t)), (1, .int (a1)), (2, .int (a2)), (3, .int (v3 + 1))]) [1, 2, 3, 0] rfl ?_
          exact hK12 S (v3 + 1)  h
        · replace h := itn c14 h
          refine mG.iload 5 dX9_layThieves_60 rfl ?_
          refine mG.iload_n 2 dX9_layThieves_62 rfl ?_
          refine mG.icmp_ge 130 dX9_layThieves_63 (by decide) (fun c13 => ?_) (fun c13 => ?_)
          · replace h := itp c13 h
            refine mG.iinc 3 (u := v3 + 1) (lv2 := [(3, .int (v3 + 1)), (0, .ref (t)), (1, .int (a1)), (2, .int (a2)), (4, .int (v4)), (5, .int (v5)), (6, .int (v6))]) dX9_layThieves_130 rfl rfl (by decide) rfl ?_
            refine mG.goto 12 dX9_layThieves_133 (by decide) ?_
            refine mG.sub (lv2 := [(0, .ref (t)), (1, .int (a1)), (2, .int (a2)), (3, .int (v3 + 1))]) [1, 2, 3, 0] rfl ?_
            exact hK12 S (v3 + 1)  h
          · replace h := itn c13 h
            refine mG.aload_n 0 dX9_layThieves_66 rfl ?_
            refine mG.iload 6 dX9_layThieves_67 rfl ?_
            obtain ⟨q4, hq4, h⟩ := bdp h
            refine mG.callV0 (as := [.int (v6)]) (st := []) (S2 := S) (r := some (.int (bI (q4)))) dX9_layThieves_69 mvX9_isHere wk32_20 rfl ht rfl (by decide) (Nat.le_of_ble_eq_true rfl) (c_X9_isHere ht hq4) ?_
            refine mG.ifz_ne (b := q4) 78 dX9_layThieves_72 (by decide) (fun c12 => ?_) (fun c12 => ?_)
            · replace h := itp c12 h
              refine mG.iinc 5 (u := v5 + 1) (lv2 := [(5, .int (v5 + 1)), (0, .ref (t)), (1, .int (a1)), (2, .int (a2)), (3, .int (v3)), (4, .int (v4)), (6, .int (v6))]) dX9_layThieves_78 rfl rfl (by decide) rfl ?_
              refine mG.iload 5 dX9_layThieves_81 rfl ?_
              refine mG.aload_n 1 dX9_layThieves_83 rfl ?_
              refine mG.iload 6 dX9_layThieves_84 rfl ?_
              refine mG.iconst (v := 1) dX9_layThieves_86 rfl ?_
              obtain ⟨q5, hq5, h⟩ := bdp h
              refine mG.callV0 (as := [.int (v6), .int 1]) (st := [.int (v4)]) (S2 := S) (r := some (.int (q5))) dX9_layThieves_87 mvX9_get wk7_23 rfl ht rfl (by decide) (Nat.le_of_ble_eq_true rfl) (c_X9_get ht hq5) ?_
              refine mG.iadd dX9_layThieves_90 ?_
              refine mG.istore (lv2 := [(4, .int (v4 + q5)), (5, .int (v5 + 1)), (0, .ref (t)), (1, .int (a1)), (2, .int (a2)), (3, .int (v3)), (6, .int (v6))]) dX9_layThieves_91 (by decide) rfl ?_
              refine mG.aload_n 2 dX9_layThieves_93 rfl ?_
              refine mG.get (v := .int (S.1 t 31)) dX9_layThieves_94 mfX9_440 ht rfl ?_
              refine mG.iconst (v := (-1)) dX9_layThieves_97 rfl ?_
              refine mG.icmp_eq 113 dX9_layThieves_98 (by decide) (fun c11 => ?_) (fun c11 => ?_)
              · replace h := itp c11 h
                refine mG.aload_n 2 dX9_layThieves_113 rfl ?_
                refine mG.iload 0 dX9_layThieves_114 rfl ?_
                obtain ⟨S6, hS6, h⟩ := stpp h
                refine mG.putI dX9_layThieves_116 mfX9_437 rfl (Or.inl rfl) ht hS6 ?_
                refine mG.aload_n 2 dX9_layThieves_119 rfl ?_
                refine mG.iload_n 5 dX9_layThieves_120 rfl ?_
                obtain ⟨S7, hS7, h⟩ := stpp h
                refine mG.putI dX9_layThieves_121 mfX9_440 rfl (Or.inl rfl) ht hS7 ?_
                refine mG.iinc 6 (u := v6 + 1) (lv2 := [(6, .int (v6 + 1)), (4, .int (v4 + q5)), (5, .int (v5 + 1)), (0, .ref (t)), (1, .int (a1)), (2, .int (a2)), (3, .int (v3))]) dX9_layThieves_124 rfl rfl (by decide) rfl ?_
                refine mG.goto 31 dX9_layThieves_127 (by decide) ?_
                refine mG.sub (lv2 := [(0, .ref (t)), (1, .int (a1)), (2, .int (a2)), (3, .int (v3)), (4, .int (v4 + q5)), (5, .int (v5 + 1)), (6, .int (v6 + 1))]) [3, 4, 5, 6, 1, 2, 0] rfl ?_
                exact ih S7 v3 (v4 + q5) (v5 + 1) (v6 + 1)  h
              · replace h := itn c11 h
                refine mG.iload 0 dX9_layThieves_101 rfl ?_
                refine mG.aload_n 2 dX9_layThieves_103 rfl ?_
                refine mG.get (v := .int (S.1 t 30)) dX9_layThieves_104 mfX9_437 ht rfl ?_
                refine mG.icmp_gt 113 dX9_layThieves_107 (by decide) (fun c10 => ?_) (fun c10 => ?_)
                · replace h := itp c10 h
                  refine mG.aload_n 2 dX9_layThieves_113 rfl ?_
                  refine mG.iload 0 dX9_layThieves_114 rfl ?_
                  obtain ⟨S8, hS8, h⟩ := stpp h
                  refine mG.putI dX9_layThieves_116 mfX9_437 rfl (Or.inl rfl) ht hS8 ?_
                  refine mG.aload_n 2 dX9_layThieves_119 rfl ?_
                  refine mG.iload_n 5 dX9_layThieves_120 rfl ?_
                  obtain ⟨S9, hS9, h⟩ := stpp h
                  refine mG.putI dX9_layThieves_121 mfX9_440 rfl (Or.inl rfl) ht hS9 ?_
                  refine mG.iinc 6 (u := v6 + 1) (lv2 := [(6, .int (v6 + 1)), (4, .int (v4 + q5)), (5, .int (v5 + 1)), (0, .ref (t)), (1, .int (a1)), (2, .int (a2)), (3, .int (v3))]) dX9_layThieves_124 rfl rfl (by decide) rfl ?_
                  refine mG.goto 31 dX9_layThieves_127 (by decide) ?_
                  refine mG.sub (lv2 := [(0, .ref (t)), (1, .int (a1)), (2, .int (a2)), (3, .int (v3)), (4, .int (v4 + q5)), (5, .int (v5 + 1)), (6, .int (v6 + 1))]) [3, 4, 5, 6, 1, 2, 0] rfl ?_
                  exact ih S9 v3 (v4 + q5) (v5 + 1) (v6 + 1)  h
                · replace h := itn c10 h
                  refine mG.goto 124 dX9_layThieves_110 (by decide) ?_
                  refine mG.iinc 6 (u := v6 + 1) (lv2 := [(6, .int (v6 + 1)), (4, .int (v4 + q5)), (5, .int (v5 + 1)), (0, .ref (t)), (1, .int (a1)), (2, .int (a2)), (3, .int (v3))]) dX9_layThieves_124 rfl rfl (by decide) rfl ?_
                  refine mG.goto 31 dX9_layThieves_127 (by decide) ?_
                  refine mG.sub (lv2 := [(0, .ref (t)), (1, .int (a1)), (2, .int (a2)), (3, .int (v3)), (4, .int (v4 + q5)), (5, .int (v5 + 1)), (6, .int (v6 + 1))]) [3, 4, 5, 6, 1, 2, 0] rfl ?_
                  exact ih S v3 (v4 + q5) (v5 + 1) (v6 + 1)  h
            · replace h := itn c12 h
              refine mG.goto 124 dX9_layThieves_75 (by decide) ?_
              refine mG.iinc 6 (u := v6 + 1) (lv2 := [(6, .int (v6 + 1)), (0, .ref (t)), (1, .int (a1)), (2, .int (a2)), (3, .int (v3)), (4, .int (v4)), (5, .int (v5))]) dX9_layThieves_124 rfl rfl (by decide) rfl ?_
              refine mG.goto 31 dX9_layThieves_127 (by decide) ?_
              refine mG.sub (lv2 := [(0, .ref (t)), (1, .int (a1)), (2, .int (a2)), (3, .int (v3)), (4, .int (v4)), (5, .int (v5)), (6, .int (v6 + 1))]) [1, 2, 3, 4, 5, 6, 0] rfl ?_
              exact ih S v3 v4 v5 (v6 + 1)  h
def lX9_layThieves_12 (F : Nat)  (t : Nat) (a1 : Int32) (a2 : Int32) : Nat → mS → Int32 → Option mS
  | 0, _, _ => none
  | n + 1, S, v3 => ck (inb (0 : Int32) 2308) (if (S.1 (t + 1) (0 : Int32).toNatClampNeg) ≤ v3 then (some S) else (lX9_layThieves_31 F (fun (S : mS) (v3 : Int32) => lX9_layThieves_12 F  t a1 a2 n S v3) t a1 a2 F S v3 (0 : Int32) (0 : Int32) v3))
set_option maxHeartbeats 4000000 in
set_option maxRecDepth 100000 in
theorem gX9_layThieves_12 {x : mX} {F : Nat} {t : Nat} {a1 : Int32} {a2 : Int32}   {R : mS} (ht : kd0 t = 9)  : ∀ (n : Nat) (S : mS) (v3 : Int32), lX9_layThieves_12 F  t a1 a2 n S v3 = some R → mG x μX9_layThieves 5 0 0 (mQe R none) 0 0 E0 S 12 [(0, .ref (t)), (1, .int (a1)), (2, .int (a2)), (3, .int (v3))] [] := by
  intro n
  induction n with
  | zero =>
    intro S v3 h
    cases h
  | succ n ih =>
    intro S v3 h
    unfold lX9_layThieves_12 at h
    refine mG.iload_n 3 dX9_layThieves_12 rfl ?_
    refine mG.aload_n 0 dX9_layThieves_13 rfl ?_
    refine mG.get (v := .ref (t + 1)) dX9_layThieves_14 mfX9_7 ht (lr9_a ht) ?_
    refine mG.iconst (v := 0) dX9_layThieves_17 rfl ?_
    obtain ⟨b1, h⟩ := ckp h
    refine mG.iald dX9_layThieves_18 (lk9_a ht) (ll9_a ht) (inbp b1) ?_
    refine mG.icmp_ge 136 dX9_layThieves_19 (by decide) (fun c2 => ?_) (fun c2 => ?_)
    · replace h := itp c2 h
      obtain rfl := Option.some.inj h
      exact mG.vret dX9_layThieves_136 rfl ⟨rfl, rfl, rfl⟩
    · replace h := itn c2 h
      refine mG.iconst (v := 0) dX9_layThieves_22 rfl ?_
      refine mG.istore (lv2 := [(4, .int 0), (0, .ref (t)), (1, .int (a1)), (2, .int (a2)), (3, .int (v3))]) dX9_layThieves_23 (by decide) rfl ?_
      refine mG.iconst (v := 0) dX9_layThieves_25 rfl ?_
      refine mG.istore (lv2 := [(5, .int 0), (4, .int 0), (0, .ref (t)), (1, .int (a1)), (2, .int (a2)), (3, .int (v3))]) dX9_layThieves_26 (by decide) rfl ?_
      refine mG.iload_n 5 dX9_layThieves_28 rfl ?_
      refine mG.istore (lv2 := [(6, .int (v3)), (5, .int 0), (4, .int 0), (0, .ref (t)), (1, .int (a1)), (2, .int (a2)), (3, .int (v3))]) dX9_layThieves_29 (by decide) rfl ?_
      refine mG.sub (lv2 := [(0, .ref (t)), (1, .int (a1)), (2, .int (a2)), (3, .int (v3)), (4, .int 0), (5, .int 0), (6, .int (v3))]) [3, 4, 5, 6, 2, 1, 0] rfl ?_
      exact gX9_layThieves_31 ht (fun S v3 h => by exact ih S v3  h) F S v3 (0 : Int32) (0 : Int32) v3  h
def f_X9_layThieves (F : Nat) (S : mS) (t : Nat) (a1 : Int32) (a2 : Int32) : Option mS := stp (sI S t 30 (0 : Int32)) fun S1 => stp (sI S1 t 31 (-1 : Int32)) fun S2 => lX9_layThieves_12 F  t a1 a2 F S2 (0 : Int32)
set_option maxHeartbeats 4000000 in
set_option maxRecDepth 100000 in
theorem c_X9_layThieves {F : Nat} {S : mS} {t : Nat} {a1 : Int32} {a2 : Int32} {R : mS} (ht : kd0 t = 9) (h : f_X9_layThieves F S t a1 a2 = some R) : mCt μX9_layThieves 5 0 0 E0 S [.ref (t), .int (a1), .int (a2)] (mQe R none) := by
  unfold f_X9_layThieves at h
  refine mCt.of (by decide) (Nat.le_of_ble_eq_true rfl) ?_
  intro x
  refine mG.aload_n 0 dX9_layThieves_0 rfl ?_
  refine mG.iconst (v := 0) dX9_layThieves_1 rfl ?_
  obtain ⟨S1, hS1, h⟩ := stpp h
  refine mG.putI dX9_layThieves_2 mfX9_437 rfl (Or.inl rfl) ht hS1 ?_
  refine mG.aload_n 0 dX9_layThieves_5 rfl ?_
  refine mG.iconst (v := (-1)) dX9_layThieves_6 rfl ?_
  obtain ⟨S2, hS2, h⟩ := stpp h
  refine mG.putI dX9_layThieves_7 mfX9_440 rfl (Or.inl rfl) ht hS2 ?_
  refine mG.iconst (v := 0) dX9_layThieves_10 rfl ?_
  refine mG.istore_n (lv2 := [(3, .int 0), (0, .ref (t)), (1, .int (a1)), (2, .int (a2))]) dX9_layThieves_11 rfl (by decide) rfl ?_
  refine mG.sub (lv2 := [(0, .ref (t)), (1, .int (a1)), (2, .int (a2)), (3, .int 0)]) [1, 2, 3, 0] rfl ?_
  exact gX9_layThieves_12 ht  F S2 (0 : Int32)  h
theorem dX9_thieves_0 : decode cX9_thieves 0 = .ok (.iload_n 1, 1) := by decide +kernel
theorem dX9_thieves_1 : decode cX9_thieves 1 = .ok (.iconst 0, 1) := by decide +kernel
theorem dX9_thieves_2 : decode cX9_thieves 2 = .ok (.bipush 19, 2) := by decide +kernel
theorem dX9_thieves_4 : decode cX9_thieves 4 = .ok (.invokestatic 65, 3) := by decide +kernel
theorem dX9_thieves_7 : decode cX9_thieves 7 = .ok (.ifCond .eq 13, 3) := by decide +kernel
theorem dX9_thieves_10 : decode cX9_thieves 10 = .ok (.iload_n 2, 1) := by decide +kernel
theorem dX9_thieves_11 : decode cX9_thieves 11 = .ok (.iconst 1, 1) := by decide +kernel
theorem dX9_thieves_12 : decode cX9_thieves 12 = .ok (.bipush 7, 2) := by decide +kernel
theorem dX9_thieves_14 : decode cX9_thieves 14 = .ok (.invokestatic 65, 3) := by decide +kernel
theorem dX9_thieves_17 : decode cX9_thieves 17 = .ok (.ifCond .ne 6, 3) := by decide +kernel
theorem dX9_thieves_20 : decode cX9_thieves 20 = .ok (.bipush (-2), 2) := by decide +kernel
theorem dX9_thieves_22 : decode cX9_thieves 22 = .ok (.ireturn, 1) := by decide +kernel
theorem dX9_thieves_23 : decode cX9_thieves 23 = .ok (.aload_n 0, 1) := by decide +kernel
theorem dX9_thieves_24 : decode cX9_thieves 24 = .ok (.iload_n 1, 1) := by decide +kernel
theorem dX9_thieves_25 : decode cX9_thieves 25 = .ok (.iload_n 2, 1) := by decide +kernel
theorem dX9_thieves_26 : decode cX9_thieves 26 = .ok (.invokevirtual 443, 3) := by decide +kernel
theorem dX9_thieves_29 : decode cX9_thieves 29 = .ok (.iload_n 3, 1) := by decide +kernel
theorem dX9_thieves_30 : decode cX9_thieves 30 = .ok (.ifCond .eq 10, 3) := by decide +kernel
theorem dX9_thieves_33 : decode cX9_thieves 33 = .ok (.aload_n 0, 1) := by decide +kernel
theorem dX9_thieves_34 : decode cX9_thieves 34 = .ok (.getfield 440, 3) := by decide +kernel
theorem dX9_thieves_37 : decode cX9_thieves 37 = .ok (.goto 7, 3) := by decide +kernel
theorem dX9_thieves_40 : decode cX9_thieves 40 = .ok (.aload_n 0, 1) := by decide +kernel
theorem dX9_thieves_41 : decode cX9_thieves 41 = .ok (.getfield 437, 3) := by decide +kernel
theorem dX9_thieves_44 : decode cX9_thieves 44 = .ok (.ireturn, 1) := by decide +kernel
def f_X9_thieves (F : Nat) (S : mS) (t : Nat) (a1 : Int32) (a2 : Int32) (a3 : Int32) : Option (mS × Int32) := if (f_X9_isIn S a1 (0 : Int32) (19 : Int32)) = true then (if (f_X9_isIn S a2 (1 : Int32) (7 : Int32)) = true then (bd (f_X9_layThieves F S t a1 a2) fun q1 => if a3 = 0 then (some (q1, q1.1 t 30)) else (some (q1, q1.1 t 31))) else (some (S, (-2 : Int32)))) else (some (S, (-2 : Int32)))
set_option maxHeartbeats 4000000 in
set_option maxRecDepth 100000 in
theorem c_X9_thieves {F : Nat} {S : mS} {t : Nat} {a1 : Int32} {a2 : Int32} {a3 : Int32} {R : mS × Int32} (ht : kd0 t = 9) (h : f_X9_thieves F S t a1 a2 a3 = some R) : mCt μX9_thieves 6 0 0 E0 S [.ref (t), .int (a1), .int (a2), .int (a3)] (mQe R.1 (some (.int R.2))) := by
  unfold f_X9_thieves at h
  refine mCt.of (by decide) (Nat.le_of_ble_eq_true rfl) ?_
  intro x
  refine mG.iload_n 1 dX9_thieves_0 rfl ?_
  refine mG.iconst (v := 0) dX9_thieves_1 rfl ?_
  refine mG.bipush (v := 19) dX9_thieves_2 (by decide) ?_
  refine mG.callS0 (as := [.int (a1), .int 0, .int 19]) (st := []) (S2 := S) (r := some (.int (bI (f_X9_isIn S a1 (0 : Int32) (19 : Int32))))) dX9_thieves_4 mbX9_isIn wk7_13 wk7_12 rfl rfl (by decide) (Nat.le_of_ble_eq_true rfl) (c_X9_isIn  rfl) ?_
  refine mG.ifz_eq (b := f_X9_isIn S a1 (0 : Int32) (19 : Int32)) 20 dX9_thieves_7 (by decide) (fun c4 => ?_) (fun c4 => ?_)
  · replace h := itn c4 h
    refine mG.bipush (v := (-2)) dX9_thieves_20 (by decide) ?_
    obtain rfl := Option.some.inj h
    exact mG.iret dX9_thieves_22 rfl ⟨rfl, rfl, rfl⟩
  · replace h := itp c4 h
    refine mG.iload_n 2 dX9_thieves_10 rfl ?_
    refine mG.iconst (v := 1) dX9_thieves_11 rfl ?_
    refine mG.bipush (v := 7) dX9_thieves_12 (by decide) ?_
    refine mG.callS0 (as := [.int (a2), .int 1, .int 7]) (st := []) (S2 := S) (r := some (.int (bI (f_X9_isIn S a2 (1 : Int32) (7 : Int32))))) dX9_thieves_14 mbX9_isIn wk7_13 wk7_12 rfl rfl (by decide) (Nat.le_of_ble_eq_true rfl) (c_X9_isIn  rfl) ?_
    refine mG.ifz_ne (b := f_X9_isIn S a2 (1 : Int32) (7 : Int32)) 23 dX9_thieves_17 (by decide) (fun c3 => ?_) (fun c3 => ?_)
    · replace h := itp c3 h
      refine mG.aload_n 0 dX9_thieves_23 rfl ?_
      refine mG.iload_n 1 dX9_thieves_24 rfl ?_
      refine mG.iload_n 2 dX9_thieves_25 rfl ?_
      obtain ⟨q1, hq1, h⟩ := bdp h
      refine mG.callV0 (as := [.int (a1), .int (a2)]) (st := []) (S2 := q1) (r := none) dX9_thieves_26 mvX9_layThieves wk55_22 rfl ht rfl (by decide) (Nat.le_of_ble_eq_true rfl) (c_X9_layThieves ht hq1) ?_
      refine mG.iload_n 3 dX9_thieves_29 rfl ?_
      refine mG.if_eq 40 dX9_thieves_30 (by decide) (fun c2 => ?_) (fun c2 => ?_)
      · replace h := itp c2 h
        refine mG.aload_n 0 dX9_thieves_40 rfl ?_
        refine mG.get (v := .int (q1.1 t 30)) dX9_thieves_41 mfX9_437 ht rfl ?_
        obtain rfl := Option.some.inj h
        exact mG.iret dX9_thieves_44 rfl ⟨rfl, rfl, rfl⟩
      · replace h := itn c2 h
        refine mG.aload_n 0 dX9_thieves_33 rfl ?_
        refine mG.get (v := .int (q1.1 t 31)) dX9_thieves_34 mfX9_440 ht rfl ?_
        refine mG.goto 44 dX9_thieves_37 (by decide) ?_
        obtain rfl := Option.some.inj h
        exact mG.iret dX9_thieves_44 rfl ⟨rfl, rfl, rfl⟩
    · replace h := itn c3 h
      refine mG.bipush (v := (-2)) dX9_thieves_20 (by decide) ?_
      obtain rfl := Option.some.inj h
      exact mG.iret dX9_thieves_22 rfl ⟨rfl, rfl, rfl⟩
theorem dX9_night_0 : decode cX9_night 0 = .ok (.iload_n 1, 1) := by decide +kernel
theorem dX9_night_1 : decode cX9_night 1 = .ok (.iconst 1, 1) := by decide +kernel
theorem dX9_night_2 : decode cX9_night 2 = .ok (.bipush 7, 2) := by decide +kernel
theorem dX9_night_4 : decode cX9_night 4 = .ok (.invokestatic 65, 3) := by decide +kernel
theorem dX9_night_7 : decode cX9_night 7 = .ok (.ifCond .ne 5, 3) := by decide +kernel
theorem dX9_night_10 : decode cX9_night 10 = .ok (.iconst (-1), 1) := by decide +kernel
theorem dX9_night_11 : decode cX9_night 11 = .ok (.ireturn, 1) := by decide +kernel
theorem dX9_night_12 : decode cX9_night 12 = .ok (.iconst 0, 1) := by decide +kernel
theorem dX9_night_13 : decode cX9_night 13 = .ok (.istore_n 2, 1) := by decide +kernel
theorem dX9_night_14 : decode cX9_night 14 = .ok (.iconst 0, 1) := by decide +kernel
theorem dX9_night_15 : decode cX9_night 15 = .ok (.istore_n 3, 1) := by decide +kernel
theorem dX9_night_16 : decode cX9_night 16 = .ok (.iconst 0, 1) := by decide +kernel
theorem dX9_night_17 : decode cX9_night 17 = .ok (.istore 4, 2) := by decide +kernel
theorem dX9_night_19 : decode cX9_night 19 = .ok (.iload 4, 2) := by decide +kernel
theorem dX9_night_21 : decode cX9_night 21 = .ok (.bipush 20, 2) := by decide +kernel
theorem dX9_night_23 : decode cX9_night 23 = .ok (.if_icmp .ge 35, 3) := by decide +kernel
theorem dX9_night_26 : decode cX9_night 26 = .ok (.aload_n 0, 1) := by decide +kernel
theorem dX9_night_27 : decode cX9_night 27 = .ok (.iload 4, 2) := by decide +kernel
theorem dX9_night_29 : decode cX9_night 29 = .ok (.iload_n 1, 1) := by decide +kernel
theorem dX9_night_30 : decode cX9_night 30 = .ok (.invokevirtual 443, 3) := by decide +kernel
theorem dX9_night_33 : decode cX9_night 33 = .ok (.aload_n 0, 1) := by decide +kernel
theorem dX9_night_34 : decode cX9_night 34 = .ok (.getfield 437, 3) := by decide +kernel
theorem dX9_night_37 : decode cX9_night 37 = .ok (.iload_n 3, 1) := by decide +kernel
theorem dX9_night_38 : decode cX9_night 38 = .ok (.if_icmp .gt 6, 3) := by decide +kernel
theorem dX9_night_41 : decode cX9_night 41 = .ok (.goto 11, 3) := by decide +kernel
theorem dX9_night_44 : decode cX9_night 44 = .ok (.aload_n 0, 1) := by decide +kernel
theorem dX9_night_45 : decode cX9_night 45 = .ok (.getfield 437, 3) := by decide +kernel
theorem dX9_night_48 : decode cX9_night 48 = .ok (.istore_n 3, 1) := by decide +kernel
theorem dX9_night_49 : decode cX9_night 49 = .ok (.iload 4, 2) := by decide +kernel
theorem dX9_night_51 : decode cX9_night 51 = .ok (.istore_n 2, 1) := by decide +kernel
theorem dX9_night_52 : decode cX9_night 52 = .ok (.iinc 4 1, 3) := by decide +kernel
theorem dX9_night_55 : decode cX9_night 55 = .ok (.goto (-36), 3) := by decide +kernel
theorem dX9_night_58 : decode cX9_night 58 = .ok (.iload_n 2, 1) := by decide +kernel
theorem dX9_night_59 : decode cX9_night 59 = .ok (.ireturn, 1) := by decide +kernel
def lX9_night_19 (F : Nat)  (t : Nat) (a1 : Int32) : Nat → mS → Int32 → Int32 → Int32 → Option (mS × Int32)
  | 0, _, _, _, _ => none
  | n + 1, S, v2, v3, v4 => if (20 : Int32) ≤ v4 then (some (S, v2)) else (bd (f_X9_layThieves F S t v4 a1) fun q1 => if v3 < (q1.1 t 30) then (lX9_night_19 F  t a1 n q1 v4 (q1.1 t 30) (v4 + 1)) else (lX9_night_19 F  t a1 n q1 v2 v3 (v4 + 1)))
set_option maxHeartbeats 4000000 in
set_option maxRecDepth 100000 in
theorem gX9_night_19 {x : mX} {F : Nat} {t : Nat} {a1 : Int32}   {R : mS × Int32} (ht : kd0 t = 9)  : ∀ (n : Nat) (S : mS) (v2 : Int32) (v3 : Int32) (v4 : Int32), lX9_night_19 F  t a1 n S v2 v3 v4 = some R → mG x μX9_night 6 0 0 (mQe R.1 (some (.int R.2))) 0 0 E0 S 19 [(0, .ref (t)), (1, .int (a1)), (2, .int (v2)), (3, .int (v3)), (4, .int (v4))] [] := by
  intro n
  induction n with
  | zero =>
    intro S v2 v3 v4 h
    cases h
  | succ n ih =>
    intro S v2 v3 v4 h
    unfold lX9_night_19 at h
    refine mG.iload 4 dX9_night_19 rfl ?_
    refine mG.bipush (v := 20) dX9_night_21 (by decide) ?_
    refine mG.icmp_ge 58 dX9_night_23 (by decide) (fun c3 => ?_) (fun c3 => ?_)
    · replace h := itp c3 h
      refine mG.iload_n 2 dX9_night_58 rfl ?_
      obtain rfl := Option.some.inj h
      exact mG.iret dX9_night_59 rfl ⟨rfl, rfl, rfl⟩
    · replace h := itn c3 h
      refine mG.aload_n 0 dX9_night_26 rfl ?_
      refine mG.iload 4 dX9_night_27 rfl ?_
      refine mG.iload_n 1 dX9_night_29 rfl ?_
      obtain ⟨q1, hq1, h⟩ := bdp h
      refine mG.callV0 (as := [.int (v4), .int (a1)]) (st := []) (S2 := q1) (r := none) dX9_night_30 mvX9_layThieves wk55_22 rfl ht rfl (by decide) (Nat.le_of_ble_eq_true rfl) (c_X9_layThieves ht hq1) ?_
      refine mG.aload_n 0 dX9_night_33 rfl ?_
      refine mG.get (v := .int (q1.1 t 30)) dX9_night_34 mfX9_437 ht rfl ?_
      refine mG.iload_n 3 dX9_night_37 rfl ?_
      refine mG.icmp_gt 44 dX9_night_38 (by decide) (fun c2 => ?_) (fun c2 => ?_)
      · replace h := itp c2 h
        refine mG.aload_n 0 dX9_night_44 rfl ?_
        refine mG.get (v := .int (q1.1 t 30)) dX9_night_45 mfX9_437 ht rfl ?_
        refine mG.istore_n (lv2 := [(3, .int (q1.1 t 30)), (0, .ref (t)), (1, .int (a1)), (2, .int (v2)), (4, .int (v4))]) dX9_night_48 rfl (by decide) rfl ?_
        refine mG.iload 4 dX9_night_49 rfl ?_
        refine mG.istore_n (lv2 := [(2, .int (v4)), (3, .int (q1.1 t 30)), (0, .ref (t)), (1, .int (a1)), (4, .int (v4))]) dX9_night_51 rfl (by decide) rfl ?_
        refine mG.iinc 4 (u := v4 + 1) (lv2 := [(4, .int (v4 + 1)), (2, .int (v4)), (3, .int (q1.1 t 30)), (0, .ref (t)), (1, .int (a1))]) dX9_night_52 rfl rfl (by decide) rfl ?_
        refine mG.goto 19 dX9_night_55 (by decide) ?_
        refine mG.sub (lv2 := [(0, .ref (t)), (1, .int (a1)), (2, .int (v4)), (3, .int (q1.1 t 30)), (4, .int (v4 + 1))]) [3, 4, 1, 2, 0] rfl ?_
        exact ih q1 v4 (q1.1 t 30) (v4 + 1)  h
      · replace h := itn c2 h
        refine mG.goto 52 dX9_night_41 (by decide) ?_
        refine mG.iinc 4 (u := v4 + 1) (lv2 := [(4, .int (v4 + 1)), (0, .ref (t)), (1, .int (a1)), (2, .int (v2)), (3, .int (v3))]) dX9_night_52 rfl rfl (by decide) rfl ?_
        refine mG.goto 19 dX9_night_55 (by decide) ?_
        refine mG.sub (lv2 := [(0, .ref (t)), (1, .int (a1)), (2, .int (v2)), (3, .int (v3)), (4, .int (v4 + 1))]) [1, 2, 3, 4, 0] rfl ?_
        exact ih q1 v2 v3 (v4 + 1)  h
def f_X9_night (F : Nat) (S : mS) (t : Nat) (a1 : Int32) : Option (mS × Int32) := if (f_X9_isIn S a1 (1 : Int32) (7 : Int32)) = true then (lX9_night_19 F  t a1 F S (0 : Int32) (0 : Int32) (0 : Int32)) else (some (S, (-1 : Int32)))
set_option maxHeartbeats 4000000 in
set_option maxRecDepth 100000 in
theorem c_X9_night {F : Nat} {S : mS} {t : Nat} {a1 : Int32} {R : mS × Int32} (ht : kd0 t = 9) (h : f_X9_night F S t a1 = some R) : mCt μX9_night 6 0 0 E0 S [.ref (t), .int (a1)] (mQe R.1 (some (.int R.2))) := by
  unfold f_X9_night at h
  refine mCt.of (by decide) (Nat.le_of_ble_eq_true rfl) ?_
  intro x
  refine mG.iload_n 1 dX9_night_0 rfl ?_
  refine mG.iconst (v := 1) dX9_night_1 rfl ?_
  refine mG.bipush (v := 7) dX9_night_2 (by decide) ?_
  refine mG.callS0 (as := [.int (a1), .int 1, .int 7]) (st := []) (S2 := S) (r := some (.int (bI (f_X9_isIn S a1 (1 : Int32) (7 : Int32))))) dX9_night_4 mbX9_isIn wk7_13 wk7_12 rfl rfl (by decide) (Nat.le_of_ble_eq_true rfl) (c_X9_isIn  rfl) ?_
  refine mG.ifz_ne (b := f_X9_isIn S a1 (1 : Int32) (7 : Int32)) 12 dX9_night_7 (by decide) (fun c1 => ?_) (fun c1 => ?_)
  · replace h := itp c1 h
    refine mG.iconst (v := 0) dX9_night_12 rfl ?_
    refine mG.istore_n (lv2 := [(2, .int 0), (0, .ref (t)), (1, .int (a1))]) dX9_night_13 rfl (by decide) rfl ?_
    refine mG.iconst (v := 0) dX9_night_14 rfl ?_
    refine mG.istore_n (lv2 := [(3, .int 0), (2, .int 0), (0, .ref (t)), (1, .int (a1))]) dX9_night_15 rfl (by decide) rfl ?_
    refine mG.iconst (v := 0) dX9_night_16 rfl ?_
    refine mG.istore (lv2 := [(4, .int 0), (3, .int 0), (2, .int 0), (0, .ref (t)), (1, .int (a1))]) dX9_night_17 (by decide) rfl ?_
    refine mG.sub (lv2 := [(0, .ref (t)), (1, .int (a1)), (2, .int 0), (3, .int 0), (4, .int 0)]) [3, 4, 2, 1, 0] rfl ?_
    exact gX9_night_19 ht  F S (0 : Int32) (0 : Int32) (0 : Int32)  h
  · replace h := itn c1 h
    refine mG.iconst (v := (-1)) dX9_night_10 rfl ?_
    obtain rfl := Option.some.inj h
    exact mG.iret dX9_night_11 rfl ⟨rfl, rfl, rfl⟩
theorem dX9_isLaid_0 : decode cX9_isLaid 0 = .ok (.iload_n 1, 1) := by decide +kernel
theorem dX9_isLaid_1 : decode cX9_isLaid 1 = .ok (.istore 4, 2) := by decide +kernel
theorem dX9_isLaid_3 : decode cX9_isLaid 3 = .ok (.iconst 0, 1) := by decide +kernel
theorem dX9_isLaid_4 : decode cX9_isLaid 4 = .ok (.istore 5, 2) := by decide +kernel
theorem dX9_isLaid_6 : decode cX9_isLaid 6 = .ok (.iload_n 3, 1) := by decide +kernel
theorem dX9_isLaid_7 : decode cX9_isLaid 7 = .ok (.iconst 1, 1) := by decide +kernel
theorem dX9_isLaid_8 : decode cX9_isLaid 8 = .ok (.isub, 1) := by decide +kernel
theorem dX9_isLaid_9 : decode cX9_isLaid 9 = .ok (.istore 6, 2) := by decide +kernel
theorem dX9_isLaid_11 : decode cX9_isLaid 11 = .ok (.iload 6, 2) := by decide +kernel
theorem dX9_isLaid_13 : decode cX9_isLaid 13 = .ok (.ifCond .lt 100, 3) := by decide +kernel
theorem dX9_isLaid_16 : decode cX9_isLaid 16 = .ok (.iload 4, 2) := by decide +kernel
theorem dX9_isLaid_18 : decode cX9_isLaid 18 = .ok (.iload_n 2, 1) := by decide +kernel
theorem dX9_isLaid_19 : decode cX9_isLaid 19 = .ok (.iconst 1, 1) := by decide +kernel
theorem dX9_isLaid_20 : decode cX9_isLaid 20 = .ok (.iadd, 1) := by decide +kernel
theorem dX9_isLaid_21 : decode cX9_isLaid 21 = .ok (.irem, 1) := by decide +kernel
theorem dX9_isLaid_22 : decode cX9_isLaid 22 = .ok (.istore 7, 2) := by decide +kernel
theorem dX9_isLaid_24 : decode cX9_isLaid 24 = .ok (.iload 4, 2) := by decide +kernel
theorem dX9_isLaid_26 : decode cX9_isLaid 26 = .ok (.iload_n 2, 1) := by decide +kernel
theorem dX9_isLaid_27 : decode cX9_isLaid 27 = .ok (.iconst 1, 1) := by decide +kernel
theorem dX9_isLaid_28 : decode cX9_isLaid 28 = .ok (.iadd, 1) := by decide +kernel
theorem dX9_isLaid_29 : decode cX9_isLaid 29 = .ok (.idiv, 1) := by decide +kernel
theorem dX9_isLaid_30 : decode cX9_isLaid 30 = .ok (.istore 4, 2) := by decide +kernel
theorem dX9_isLaid_32 : decode cX9_isLaid 32 = .ok (.iload 7, 2) := by decide +kernel
theorem dX9_isLaid_34 : decode cX9_isLaid 34 = .ok (.iload_n 2, 1) := by decide +kernel
theorem dX9_isLaid_35 : decode cX9_isLaid 35 = .ok (.if_icmp .ne 6, 3) := by decide +kernel
theorem dX9_isLaid_38 : decode cX9_isLaid 38 = .ok (.goto 69, 3) := by decide +kernel
theorem dX9_isLaid_41 : decode cX9_isLaid 41 = .ok (.iload 5, 2) := by decide +kernel
theorem dX9_isLaid_43 : decode cX9_isLaid 43 = .ok (.iload 7, 2) := by decide +kernel
theorem dX9_isLaid_45 : decode cX9_isLaid 45 = .ok (.invokestatic 80, 3) := by decide +kernel
theorem dX9_isLaid_48 : decode cX9_isLaid 48 = .ok (.ifCond .ne 34, 3) := by decide +kernel
theorem dX9_isLaid_51 : decode cX9_isLaid 51 = .ok (.aload_n 0, 1) := by decide +kernel
theorem dX9_isLaid_52 : decode cX9_isLaid 52 = .ok (.aload_n 0, 1) := by decide +kernel
theorem dX9_isLaid_53 : decode cX9_isLaid 53 = .ok (.getfield 49, 3) := by decide +kernel
theorem dX9_isLaid_56 : decode cX9_isLaid 56 = .ok (.iload 7, 2) := by decide +kernel
theorem dX9_isLaid_58 : decode cX9_isLaid 58 = .ok (.iaload, 1) := by decide +kernel
theorem dX9_isLaid_59 : decode cX9_isLaid 59 = .ok (.iconst 0, 1) := by decide +kernel
theorem dX9_isLaid_60 : decode cX9_isLaid 60 = .ok (.invokevirtual 73, 3) := by decide +kernel
theorem dX9_isLaid_63 : decode cX9_isLaid 63 = .ok (.aload_n 0, 1) := by decide +kernel
theorem dX9_isLaid_64 : decode cX9_isLaid 64 = .ok (.getfield 7, 3) := by decide +kernel
theorem dX9_isLaid_67 : decode cX9_isLaid 67 = .ok (.bipush 8, 2) := by decide +kernel
theorem dX9_isLaid_69 : decode cX9_isLaid 69 = .ok (.iaload, 1) := by decide +kernel
theorem dX9_isLaid_70 : decode cX9_isLaid 70 = .ok (.iload 6, 2) := by decide +kernel
theorem dX9_isLaid_72 : decode cX9_isLaid 72 = .ok (.iadd, 1) := by decide +kernel
theorem dX9_isLaid_73 : decode cX9_isLaid 73 = .ok (.bipush 20, 2) := by decide +kernel
theorem dX9_isLaid_75 : decode cX9_isLaid 75 = .ok (.irem, 1) := by decide +kernel
theorem dX9_isLaid_76 : decode cX9_isLaid 76 = .ok (.invokestatic 80, 3) := by decide +kernel
theorem dX9_isLaid_79 : decode cX9_isLaid 79 = .ok (.ifCond .eq 5, 3) := by decide +kernel
theorem dX9_isLaid_82 : decode cX9_isLaid 82 = .ok (.iconst 0, 1) := by decide +kernel
theorem dX9_isLaid_83 : decode cX9_isLaid 83 = .ok (.ireturn, 1) := by decide +kernel
theorem dX9_isLaid_84 : decode cX9_isLaid 84 = .ok (.iload 5, 2) := by decide +kernel
theorem dX9_isLaid_86 : decode cX9_isLaid 86 = .ok (.iconst 1, 1) := by decide +kernel
theorem dX9_isLaid_87 : decode cX9_isLaid 87 = .ok (.iload 7, 2) := by decide +kernel
theorem dX9_isLaid_89 : decode cX9_isLaid 89 = .ok (.ishl, 1) := by decide +kernel
theorem dX9_isLaid_90 : decode cX9_isLaid 90 = .ok (.ior, 1) := by decide +kernel
theorem dX9_isLaid_91 : decode cX9_isLaid 91 = .ok (.istore 5, 2) := by decide +kernel
theorem dX9_isLaid_93 : decode cX9_isLaid 93 = .ok (.aload_n 0, 1) := by decide +kernel
theorem dX9_isLaid_94 : decode cX9_isLaid 94 = .ok (.getfield 52, 3) := by decide +kernel
theorem dX9_isLaid_97 : decode cX9_isLaid 97 = .ok (.aload_n 0, 1) := by decide +kernel
theorem dX9_isLaid_98 : decode cX9_isLaid 98 = .ok (.getfield 49, 3) := by decide +kernel
theorem dX9_isLaid_101 : decode cX9_isLaid 101 = .ok (.iload 7, 2) := by decide +kernel
theorem dX9_isLaid_103 : decode cX9_isLaid 103 = .ok (.iaload, 1) := by decide +kernel
theorem dX9_isLaid_104 : decode cX9_isLaid 104 = .ok (.iload 6, 2) := by decide +kernel
theorem dX9_isLaid_106 : decode cX9_isLaid 106 = .ok (.iastore, 1) := by decide +kernel
theorem dX9_isLaid_107 : decode cX9_isLaid 107 = .ok (.iinc 6 (-1), 3) := by decide +kernel
theorem dX9_isLaid_110 : decode cX9_isLaid 110 = .ok (.goto (-99), 3) := by decide +kernel
theorem dX9_isLaid_113 : decode cX9_isLaid 113 = .ok (.iload 5, 2) := by decide +kernel
theorem dX9_isLaid_115 : decode cX9_isLaid 115 = .ok (.iconst 1, 1) := by decide +kernel
theorem dX9_isLaid_116 : decode cX9_isLaid 116 = .ok (.iload_n 2, 1) := by decide +kernel
theorem dX9_isLaid_117 : decode cX9_isLaid 117 = .ok (.ishl, 1) := by decide +kernel
theorem dX9_isLaid_118 : decode cX9_isLaid 118 = .ok (.iconst 1, 1) := by decide +kernel
theorem dX9_isLaid_119 : decode cX9_isLaid 119 = .ok (.isub, 1) := by decide +kernel
theorem dX9_isLaid_120 : decode cX9_isLaid 120 = .ok (.if_icmp .ne 7, 3) := by decide +kernel
theorem dX9_isLaid_123 : decode cX9_isLaid 123 = .ok (.iconst 1, 1) := by decide +kernel
theorem dX9_isLaid_124 : decode cX9_isLaid 124 = .ok (.goto 4, 3) := by decide +kernel
theorem dX9_isLaid_127 : decode cX9_isLaid 127 = .ok (.iconst 0, 1) := by decide +kernel
theorem dX9_isLaid_128 : decode cX9_isLaid 128 = .ok (.ireturn, 1) := by decide +kernel
def lX9_isLaid_11 (F : Nat)  (t : Nat) (a1 : Int32) (a2 : Int32) (a3 : Int32) : Nat → mS → Int32 → Int32 → Int32 → Option (mS × Bool)
  | 0, _, _, _, _ => none
  | n + 1, S, v4, v5, v6 => if v6 < 0 then (if v5 = (((1 : Int32) <<< (a2 &&& 31)) - (1 : Int32)) then (some (S, true)) else (some (S, false))) else (ck (nz (a2 + (1 : Int32))) (ck (nz (a2 + (1 : Int32))) (if (v4 - v4 / (a2 + (1 : Int32)) * (a2 + (1 : Int32))) = a2 then (lX9_isLaid_11 F  t a1 a2 a3 n S (v4 / (a2 + (1 : Int32))) v5 (v6 + (-1))) else (if (f_X9_has S v5 (v4 - v4 / (a2 + (1 : Int32)) * (a2 + (1 : Int32)))) = true then (some (S, false)) else (ck (inb (v4 - v4 / (a2 + (1 : Int32)) * (a2 + (1 : Int32))) 7) (bd (f_X9_get F S t (S.1 (t + 11) (v4 - v4 / (a2 + (1 : Int32)) * (a2 + (1 : Int32))).toNatClampNeg) (0 : Int32)) fun q3 => ck (inb (8 : Int32) 2308) (if (f_X9_has S q3 (((S.1 (t + 1) (8 : Int32).toNatClampNeg) + v6) - ((S.1 (t + 1) (8 : Int32).toNatClampNeg) + v6) / (20 : Int32) * (20 : Int32))) = true then (some (S, false)) else (ck (inb (v4 - v4 / (a2 + (1 : Int32)) * (a2 + (1 : Int32))) 7) (ck (inb (S.1 (t + 11) (v4 - v4 / (a2 + (1 : Int32)) * (a2 + (1 : Int32))).toNatClampNeg) 7) (stp (sI S (t + 12) (S.1 (t + 11) (v4 - v4 / (a2 + (1 : Int32)) * (a2 + (1 : Int32))).toNatClampNeg).toNatClampNeg v6) fun S7 => lX9_isLaid_11 F  t a1 a2 a3 n S7 (v4 / (a2 + (1 : Int32))) (v5 ||| ((1 : Int32) <<< ((v4 - v4 / (a2 + (1 : Int32)) * (a2 + (1 : Int32))) &&& 31))) (v6 + (-1))))))))))))
set_option maxHeartbeats 4000000 in
set_option maxRecDepth 100000 in
theorem gX9_isLaid_11 {x : mX} {F : Nat} {t : Nat} {a1 : Int32} {a2 : Int32} {a3 : Int32}   {R : mS × Bool} (ht : kd0 t = 9)  : ∀ (n : Nat) (S : mS) (v4 : Int32) (v5 : Int32) (v6 : Int32), lX9_isLaid_11 F  t a1 a2 a3 n S v4 v5 v6 = some R → mG x μX9_isLaid 2 0 0 (mQe R.1 (some (.int (bI R.2)))) 0 0 E0 S 11 [(0, .ref (t)), (2, .int (a2)), (4, .int (v4)), (5, .int (v5)), (6, .int (v6))] [] := by
  intro n
  induction n with
  | zero =>
    intro S v4 v5 v6 h
    cases h
  | succ n ih =>
    intro S v4 v5 v6 h
    unfold lX9_isLaid_11 at h
    refine mG.iload 4 dX9_isLaid_11 rfl ?_
    refine mG.if_lt 113 dX9_isLaid_13 (by decide) (fun c13 => ?_) (fun c13 => ?_)
    · replace h := itp c13 h
      refine mG.iload 3 dX9_isLaid_113 rfl ?_
      refine mG.iconst (v := 1) dX9_isLaid_115 rfl ?_
      refine mG.iload_n 1 dX9_isLaid_116 rfl ?_
      refine mG.ishl dX9_isLaid_117 ?_
      refine mG.iconst (v := 1) dX9_isLaid_118 rfl ?_
      refine mG.isub dX9_isLaid_119 ?_
      refine mG.icmp_ne 127 dX9_isLaid_120 (by decide) (fun c1 => ?_) (fun c1 => ?_)
      · replace h := itn c1 h
        refine mG.iconst (v := 0) dX9_isLaid_127 rfl ?_
        obtain rfl := Option.some.inj h
        exact mG.zret (b := false) dX9_isLaid_128 rfl rfl ⟨rfl, rfl, rfl⟩
      · replace h := itp c1 h
        refine mG.iconst (v := 1) dX9_isLaid_123 rfl ?_
        refine mG.goto 128 dX9_isLaid_124 (by decide) ?_
        obtain rfl := Option.some.inj h
        exact mG.zret (b := true) dX9_isLaid_128 rfl rfl ⟨rfl, rfl, rfl⟩
    · replace h := itn c13 h
      refine mG.iload 2 dX9_isLaid_16 rfl ?_
      refine mG.iload_n 1 dX9_isLaid_18 rfl ?_
      refine mG.iconst (v := 1) dX9_isLaid_19 rfl ?_
      refine mG.iadd dX9_isLaid_20 ?_
      obtain ⟨b12, h⟩ := ckp h
      refine mG.irem dX9_isLaid_21 (nzp b12) ?_
      refine mG.istore (lv2 := [(7, .int (v4 - v4 / (a2 + (1 : Int32)) * (a2 + (1 : Int32)))), (0, .ref (t)), (2, .int (a2)), (4, .int (v4)), (5, .int (v5)), (6, .int (v6))]) dX9_isLaid_22 (by decide) rfl ?_
      refine mG.iload 3 dX9_isLaid_24 rfl ?_
      refine mG.iload_n 2 dX9_isLaid_26 rfl ?_
      refine mG.iconst (v := 1) dX9_isLaid_27 rfl ?_
      refine mG.iadd dX9_isLaid_28 ?_
      obtain ⟨b11, h⟩ := ckp h
      refine mG.idiv dX9_isLaid_29 (nzp b11) ?_
      refine mG.istore (lv2 := [(4, .int (v4 / (a2 + (1 : Int32)))), (7, .int (v4 - v4 / (a2 + (1 : Int32)) * (a2 + (1 : Int32)))), (0, .ref (t)), (2, .int (a2)), (5, .int (v5)), (6, .int (v6))]) dX9_isLaid_30 (by decide) rfl ?_
      refine mG.iload 1 dX9_isLaid_32 rfl ?_
      refine mG.iload_n 3 dX9_isLaid_34 rfl ?_
      refine mG.icmp_ne 41 dX9_isLaid_35 (by decide) (fun c10 => ?_) (fun c10 => ?_)
      · replace h := itn c10 h
        refine mG.iload 4 dX9_isLaid_41 rfl ?_
        refine mG.iload 1 dX9_isLaid_43 rfl ?_
        refine mG.callS0 (as := [.int (v5), .int (v4 - v4 / (a2 + (1 : Int32)) * (a2 + (1 : Int32)))]) (st := []) (S2 := S) (r := some (.int (bI (f_X9_has S v5 (v4 - v4 / (a2 + (1 : Int32)) * (a2 + (1 : Int32))))))) dX9_isLaid_45 mbX9_has wk22_12 wk22_11 rfl rfl (by decide) (Nat.le_of_ble_eq_true rfl) (c_X9_has  rfl) ?_
        refine mG.ifz_ne (b := f_X9_has S v5 (v4 - v4 / (a2 + (1 : Int32)) * (a2 + (1 : Int32)))) 82 dX9_isLaid_48 (by decide) (fun c9 => ?_) (fun c9 => ?_)
        · replace h := itp c9 h
          refine mG.iconst (v := 0) dX9_isLaid_82 rfl ?_
          obtain rfl := Option.some.inj h
          exact mG.zret (b := false) dX9_isLaid_83 rfl rfl ⟨rfl, rfl, rfl⟩
        · replace h := itn c9 h
          refine mG.aload_n 2 dX9_isLaid_51 rfl ?_
          refine mG.aload_n 2 dX9_isLaid_52 rfl ?_
          refine mG.get (v := .ref (t + 11)) dX9_isLaid_53 mfX9_49 ht (lr9_member ht) ?_
          refine mG.iload 1 dX9_isLaid_56 rfl ?_
          obtain ⟨b2, h⟩ := ckp h
          refine mG.iald dX9_isLaid_58 (lk9_member ht) (ll9_member ht) (inbp b2) ?_
          refine mG.iconst (v := 0) dX9_isLaid_59 rfl ?_
          obtain ⟨q3, hq3, h⟩ := bdp h
          refine mG.callV0 (as := [.int (S.1 (t + 11) (v4 - v4 / (a2 + (1 : Int32)) * (a2 + (1 : Int32))).toNatClampNeg), .int 0]) (st := []) (S2 := S) (r := some (.int (q3))) dX9_isLaid_60 mvX9_get wk7_23 rfl ht rfl (by decide) (Nat.le_of_ble_eq_true rfl) (c_X9_get ht hq3) ?_
          refine mG.aload_n 2 dX9_isLaid_63 rfl ?_
          refine mG.get (v := .ref (t + 1)) dX9_isLaid_64 mfX9_7 ht (lr9_a ht) ?_
          refine mG.bipush (v := 8) dX9_isLaid_67 (by decide) ?_
          obtain ⟨b4, h⟩ := ckp h
          refine mG.iald dX9_isLaid_69 (lk9_a ht) (ll9_a ht) (inbp b4) ?_
          refine mG.iload 5 dX9_isLaid_70 rfl ?_
          refine mG.iadd dX9_isLaid_72 ?_
          refine mG.bipush (v := 20) dX9_isLaid_73 (by decide) ?_
          refine mG.irem dX9_isLaid_75 (by decide) ?_
          refine mG.callS0 (as := [.int (q3), .int (((S.1 (t + 1) (8 : Int32).toNatClampNeg) + v6) - ((S.1 (t + 1) (8 : Int32).toNatClampNeg) + v6) / (20 : Int32) * (20 : Int32))]) (st := []) (S2 := S) (r := some (.int (bI (f_X9_has S q3 (((S.1 (t + 1) (8 : Int32).toNatClampNeg) + v6) - ((S.1 (t + 1) (8 : Int32).toNatClampNeg) + v6) / (20 : Int32) * (20 : Int32)))))) dX9_isLaid_76 mbX9_has wk22_12 wk22_11 rfl rfl (by decide) (Nat.le_of_ble_eq_true rfl) (c_X9_has  rfl) ?_
          refine mG.ifz_eq (b := f_X9_has S q3 (((S.1 (t + 1) (8 : Int32).toNatClampNeg) + v6) - ((S.1 (t + 1) (8 : Int32).toNatClampNeg) + v6) / (20 : Int32) * (20 : Int32))) 84 dX9_isLaid_79 (by decide) (fun c8 => ?_) (fun c8 => ?_)
          · replace h := itn c8 h
            refine mG.iload 4 dX9_isLaid_84 rfl ?_
            refine mG.iconst (v := 1) dX9_isLaid_86 rfl ?_
            refine mG.iload 1 dX9_isLaid_87 rfl ?_
            refine mG.ishl dX9_isLaid_89 ?_
            refine mG.ior dX9_isLaid_90 ?_
            refine mG.istore (lv2 := [(5, .int (v5 ||| ((1 : Int32) <<< ((v4 - v4 / (a2 + (1 : Int32)) * (a2 + (1 : Int32))) &&& 31)))), (4, .int (v4 / (a2 + (1 : Int32)))), (7, .int (v4 - v4 / (a2 + (1 : Int32)) * (a2 + (1 : Int32)))), (0, .ref (t)), (2, .int (a2)), (6, .int (v6))]) dX9_isLaid_91 (by decide) rfl ?_
            refine mG.aload_n 3 dX9_isLaid_93 rfl ?_
            refine mG.get (v := .ref (t + 12)) dX9_isLaid_94 mfX9_52 ht (lr9_dayOf ht) ?_
            refine mG.aload_n 3 dX9_isLaid_97 rfl ?_
            refine mG.get (v := .ref (t + 11)) dX9_isLaid_98 mfX9_49 ht (lr9_member ht) ?_
            refine mG.iload 2 dX9_isLaid_101 rfl ?_
            obtain ⟨b5, h⟩ := ckp h
            refine mG.iald dX9_isLaid_103 (lk9_member ht) (ll9_member ht) (inbp b5) ?_
            refine mG.iload 5 dX9_isLaid_104 rfl ?_
            obtain ⟨b6, h⟩ := ckp h
            obtain ⟨S7, hS7, h⟩ := stpp h
            refine mG.iast dX9_isLaid_106 (lk9_dayOf ht) (ll9_dayOf ht) (inbp b6) hS7 ?_
            refine mG.iinc 5 (u := v6 + (-1)) (lv2 := [(6, .int (v6 + (-1))), (5, .int (v5 ||| ((1 : Int32) <<< ((v4 - v4 / (a2 + (1 : Int32)) * (a2 + (1 : Int32))) &&& 31)))), (4, .int (v4 / (a2 + (1 : Int32)))), (7, .int (v4 - v4 / (a2 + (1 : Int32)) * (a2 + (1 : Int32)))), (0, .ref (t)), (2, .int (a2))]) dX9_isLaid_107 rfl rfl (by decide) rfl ?_
            refine mG.goto 11 dX9_isLaid_110 (by decide) ?_
            refine mG.sub (lv2 := [(0, .ref (t)), (2, .int (a2)), (4, .int (v4 / (a2 + (1 : Int32)))), (5, .int (v5 ||| ((1 : Int32) <<< ((v4 - v4 / (a2 + (1 : Int32)) * (a2 + (1 : Int32))) &&& 31)))), (6, .int (v6 + (-1)))]) [4, 5, 2, 1, 0] rfl ?_
            exact ih S7 (v4 / (a2 + (1 : Int32))) (v5 ||| ((1 : Int32) <<< ((v4 - v4 / (a2 + (1 : Int32)) * (a2 + (1 : Int32))) &&& 31))) (v6 + (-1))  h
          · replace h := itp c8 h
            refine mG.iconst (v := 0) dX9_isLaid_82 rfl ?_
            obtain rfl := Option.some.inj h
            exact mG.zret (b := false) dX9_isLaid_83 rfl rfl ⟨rfl, rfl, rfl⟩
      · replace h := itp c10 h
        refine mG.goto 107 dX9_isLaid_38 (by decide) ?_
        refine mG.iinc 5 (u := v6 + (-1)) (lv2 := [(6, .int (v6 + (-1))), (4, .int (v4 / (a2 + (1 : Int32)))), (7, .int (v4 - v4 / (a2 + (1 : Int32)) * (a2 + (1 : Int32)))), (0, .ref (t)), (2, .int (a2)), (5, .int (v5))]) dX9_isLaid_107 rfl rfl (by decide) rfl ?_
        refine mG.goto 11 dX9_isLaid_110 (by decide) ?_
        refine mG.sub (lv2 := [(0, .ref (t)), (2, .int (a2)), (4, .int (v4 / (a2 + (1 : Int32)))), (5, .int (v5)), (6, .int (v6 + (-1)))]) [3, 4, 1, 5, 0] rfl ?_
        exact ih S (v4 / (a2 + (1 : Int32))) v5 (v6 + (-1))  h
def f_X9_isLaid (F : Nat) (S : mS) (t : Nat) (a1 : Int32) (a2 : Int32) (a3 : Int32) : Option (mS × Bool) := lX9_isLaid_11 F  t a1 a2 a3 F S a1 (0 : Int32) (a3 - (1 : Int32))
set_option maxHeartbeats 4000000 in
set_option maxRecDepth 100000 in
theorem c_X9_isLaid {F : Nat} {S : mS} {t : Nat} {a1 : Int32} {a2 : Int32} {a3 : Int32} {R : mS × Bool} (ht : kd0 t = 9) (h : f_X9_isLaid F S t a1 a2 a3 = some R) : mCt μX9_isLaid 2 0 0 E0 S [.ref (t), .int (a1), .int (a2), .int (a3)] (mQe R.1 (some (.int (bI R.2)))) := by
  unfold f_X9_isLaid at h
  refine mCt.of (by decide) (Nat.le_of_ble_eq_true rfl) ?_
  intro x
  refine mG.iload_n 1 dX9_isLaid_0 rfl ?_
  refine mG.istore (lv2 := [(4, .int (a1)), (0, .ref (t)), (1, .int (a1)), (2, .int (a2)), (3, .int (a3))]) dX9_isLaid_1 (by decide) rfl ?_
  refine mG.iconst (v := 0) dX9_isLaid_3 rfl ?_
  refine mG.istore (lv2 := [(5, .int 0), (4, .int (a1)), (0, .ref (t)), (1, .int (a1)), (2, .int (a2)), (3, .int (a3))]) dX9_isLaid_4 (by decide) rfl ?_
  refine mG.iload_n 5 dX9_isLaid_6 rfl ?_
  refine mG.iconst (v := 1) dX9_isLaid_7 rfl ?_
  refine mG.isub dX9_isLaid_8 ?_
  refine mG.istore (lv2 := [(6, .int (a3 - (1 : Int32))), (5, .int 0), (4, .int (a1)), (0, .ref (t)), (1, .int (a1)), (2, .int (a2)), (3, .int (a3))]) dX9_isLaid_9 (by decide) rfl ?_
  refine mG.sub (lv2 := [(0, .ref (t)), (2, .int (a2)), (4, .int (a1)), (5, .int 0), (6, .int (a3 - (1 : Int32)))]) [3, 5, 2, 1, 0] rfl ?_
  exact gX9_isLaid_11 ht  F S a1 (0 : Int32) (a3 - (1 : Int32))  h
theorem dX9_layMembers_0 : decode cX9_layMembers 0 = .ok (.iconst 0, 1) := by decide +kernel
theorem dX9_layMembers_1 : decode cX9_layMembers 1 = .ok (.istore_n 2, 1) := by decide +kernel
theorem dX9_layMembers_2 : decode cX9_layMembers 2 = .ok (.iconst 0, 1) := by decide +kernel
theorem dX9_layMembers_3 : decode cX9_layMembers 3 = .ok (.istore_n 3, 1) := by decide +kernel
theorem dX9_layMembers_4 : decode cX9_layMembers 4 = .ok (.iload_n 3, 1) := by decide +kernel
theorem dX9_layMembers_5 : decode cX9_layMembers 5 = .ok (.aload_n 0, 1) := by decide +kernel
theorem dX9_layMembers_6 : decode cX9_layMembers 6 = .ok (.getfield 7, 3) := by decide +kernel
theorem dX9_layMembers_9 : decode cX9_layMembers 9 = .ok (.iconst 0, 1) := by decide +kernel
theorem dX9_layMembers_10 : decode cX9_layMembers 10 = .ok (.iaload, 1) := by decide +kernel
theorem dX9_layMembers_11 : decode cX9_layMembers 11 = .ok (.if_icmp .ge 30, 3) := by decide +kernel
theorem dX9_layMembers_14 : decode cX9_layMembers 14 = .ok (.iload_n 1, 1) := by decide +kernel
theorem dX9_layMembers_15 : decode cX9_layMembers 15 = .ok (.iload_n 3, 1) := by decide +kernel
theorem dX9_layMembers_16 : decode cX9_layMembers 16 = .ok (.invokestatic 80, 3) := by decide +kernel
theorem dX9_layMembers_19 : decode cX9_layMembers 19 = .ok (.ifCond .ne 6, 3) := by decide +kernel
theorem dX9_layMembers_22 : decode cX9_layMembers 22 = .ok (.goto 13, 3) := by decide +kernel
theorem dX9_layMembers_25 : decode cX9_layMembers 25 = .ok (.aload_n 0, 1) := by decide +kernel
theorem dX9_layMembers_26 : decode cX9_layMembers 26 = .ok (.getfield 49, 3) := by decide +kernel
theorem dX9_layMembers_29 : decode cX9_layMembers 29 = .ok (.iload_n 2, 1) := by decide +kernel
theorem dX9_layMembers_30 : decode cX9_layMembers 30 = .ok (.iload_n 3, 1) := by decide +kernel
theorem dX9_layMembers_31 : decode cX9_layMembers 31 = .ok (.iastore, 1) := by decide +kernel
theorem dX9_layMembers_32 : decode cX9_layMembers 32 = .ok (.iinc 2 1, 3) := by decide +kernel
theorem dX9_layMembers_35 : decode cX9_layMembers 35 = .ok (.iinc 3 1, 3) := by decide +kernel
theorem dX9_layMembers_38 : decode cX9_layMembers 38 = .ok (.goto (-34), 3) := by decide +kernel
theorem dX9_layMembers_41 : decode cX9_layMembers 41 = .ok (.iload_n 2, 1) := by decide +kernel
theorem dX9_layMembers_42 : decode cX9_layMembers 42 = .ok (.ireturn, 1) := by decide +kernel
def lX9_layMembers_4 (F : Nat)  (t : Nat) (a1 : Int32) : Nat → mS → Int32 → Int32 → Option (mS × Int32)
  | 0, _, _, _ => none
  | n + 1, S, v2, v3 => ck (inb (0 : Int32) 2308) (if (S.1 (t + 1) (0 : Int32).toNatClampNeg) ≤ v3 then (some (S, v2)) else (if (f_X9_has S a1 v3) = true then (ck (inb v2 7) (stp (sI S (t + 11) v2.toNatClampNeg v3) fun S3 => lX9_layMembers_4 F  t a1 n S3 (v2 + 1) (v3 + 1))) else (lX9_layMembers_4 F  t a1 n S v2 (v3 + 1))))
set_option maxHeartbeats 4000000 in
set_option maxRecDepth 100000 in
theorem gX9_layMembers_4 {x : mX} {F : Nat} {t : Nat} {a1 : Int32}   {R : mS × Int32} (ht : kd0 t = 9)  : ∀ (n : Nat) (S : mS) (v2 : Int32) (v3 : Int32), lX9_layMembers_4 F  t a1 n S v2 v3 = some R → mG x μX9_layMembers 2 0 0 (mQe R.1 (some (.int R.2))) 0 0 E0 S 4 [(0, .ref (t)), (1, .int (a1)), (2, .int (v2)), (3, .int (v3))] [] := by
  intro n
  induction n with
  | zero =>
    intro S v2 v3 h
    cases h
  | succ n ih =>
    intro S v2 v3 h
    unfold lX9_layMembers_4 at h
    refine mG.iload_n 3 dX9_layMembers_4 rfl ?_
    refine mG.aload_n 0 dX9_layMembers_5 rfl ?_
    refine mG.get (v := .ref (t + 1)) dX9_layMembers_6 mfX9_7 ht (lr9_a ht) ?_
    refine mG.iconst (v := 0) dX9_layMembers_9 rfl ?_
    obtain ⟨b1, h⟩ := ckp h
    refine mG.iald dX9_layMembers_10 (lk9_a ht) (ll9_a ht) (inbp b1) ?_
    refine mG.icmp_ge 41 dX9_layMembers_11 (by decide) (fun c5 => ?_) (fun c5 => ?_)
    · replace h := itp c5 h
      refine mG.iload_n 2 dX9_layMembers_41 rfl ?_
      obtain rfl := Option.some.inj h
      exact mG.iret dX9_layMembers_42 rfl ⟨rfl, rfl, rfl⟩
    · replace h := itn c5 h
      refine mG.iload_n 1 dX9_layMembers_14 rfl ?_
      refine mG.iload_n 3 dX9_layMembers_15 rfl ?_
      refine mG.callS0 (as := [.int (a1), .int (v3)]) (st := []) (S2 := S) (r := some (.int (bI (f_X9_has S a1 v3)))) dX9_layMembers_16 mbX9_has wk22_12 wk22_11 rfl rfl (by decide) (Nat.le_of_ble_eq_true rfl) (c_X9_has  rfl) ?_
      refine mG.ifz_ne (b := f_X9_has S a1 v3) 25 dX9_layMembers_19 (by decide) (fun c4 => ?_) (fun c4 => ?_)
      · replace h := itp c4 h
        refine mG.aload_n 0 dX9_layMembers_25 rfl ?_
        refine mG.get (v := .ref (t + 11)) dX9_layMembers_26 mfX9_49 ht (lr9_member ht) ?_
        refine mG.iload_n 2 dX9_layMembers_29 rfl ?_
        refine mG.iload_n 3 dX9_layMembers_30 rfl ?_
        obtain ⟨b2, h⟩ := ckp h
        obtain ⟨S3, hS3, h⟩ := stpp h
        refine mG.iast dX9_layMembers_31 (lk9_member ht) (ll9_member ht) (inbp b2) hS3 ?_
        refine mG.iinc 2 (u := v2 + 1) (lv2 := [(2, .int (v2 + 1)), (0, .ref (t)), (1, .int (a1)), (3, .int (v3))]) dX9_layMembers_32 rfl rfl (by decide) rfl ?_
        refine mG.iinc 3 (u := v3 + 1) (lv2 := [(3, .int (v3 + 1)), (2, .int (v2 + 1)), (0, .ref (t)), (1, .int (a1))]) dX9_layMembers_35 rfl rfl (by decide) rfl ?_
        refine mG.goto 4 dX9_layMembers_38 (by decide) ?_
        refine mG.sub (lv2 := [(0, .ref (t)), (1, .int (a1)), (2, .int (v2 + 1)), (3, .int (v3 + 1))]) [2, 3, 1, 0] rfl ?_
        exact ih S3 (v2 + 1) (v3 + 1)  h
      · replace h := itn c4 h
        refine mG.goto 35 dX9_layMembers_22 (by decide) ?_
        refine mG.iinc 3 (u := v3 + 1) (lv2 := [(3, .int (v3 + 1)), (0, .ref (t)), (1, .int (a1)), (2, .int (v2))]) dX9_layMembers_35 rfl rfl (by decide) rfl ?_
        refine mG.goto 4 dX9_layMembers_38 (by decide) ?_
        refine mG.sub (lv2 := [(0, .ref (t)), (1, .int (a1)), (2, .int (v2)), (3, .int (v3 + 1))]) [1, 2, 3, 0] rfl ?_
        exact ih S v2 (v3 + 1)  h
def f_X9_layMembers (F : Nat) (S : mS) (t : Nat) (a1 : Int32) : Option (mS × Int32) := lX9_layMembers_4 F  t a1 F S (0 : Int32) (0 : Int32)
set_option maxHeartbeats 4000000 in
set_option maxRecDepth 100000 in
theorem c_X9_layMembers {F : Nat} {S : mS} {t : Nat} {a1 : Int32} {R : mS × Int32} (ht : kd0 t = 9) (h : f_X9_layMembers F S t a1 = some R) : mCt μX9_layMembers 2 0 0 E0 S [.ref (t), .int (a1)] (mQe R.1 (some (.int R.2))) := by
  unfold f_X9_layMembers at h
  refine mCt.of (by decide) (Nat.le_of_ble_eq_true rfl) ?_
  intro x
  refine mG.iconst (v := 0) dX9_layMembers_0 rfl ?_
  refine mG.istore_n (lv2 := [(2, .int 0), (0, .ref (t)), (1, .int (a1))]) dX9_layMembers_1 rfl (by decide) rfl ?_
  refine mG.iconst (v := 0) dX9_layMembers_2 rfl ?_
  refine mG.istore_n (lv2 := [(3, .int 0), (2, .int 0), (0, .ref (t)), (1, .int (a1))]) dX9_layMembers_3 rfl (by decide) rfl ?_
  refine mG.sub (lv2 := [(0, .ref (t)), (1, .int (a1)), (2, .int 0), (3, .int 0)]) [2, 3, 1, 0] rfl ?_
  exact gX9_layMembers_4 ht  F S (0 : Int32) (0 : Int32)  h
theorem dX9_areHere_0 : decode cX9_areHere 0 = .ok (.iconst 0, 1) := by decide +kernel
theorem dX9_areHere_1 : decode cX9_areHere 1 = .ok (.istore_n 2, 1) := by decide +kernel
theorem dX9_areHere_2 : decode cX9_areHere 2 = .ok (.iload_n 2, 1) := by decide +kernel
theorem dX9_areHere_3 : decode cX9_areHere 3 = .ok (.bipush 7, 2) := by decide +kernel
theorem dX9_areHere_5 : decode cX9_areHere 5 = .ok (.if_icmp .ge 27, 3) := by decide +kernel
theorem dX9_areHere_8 : decode cX9_areHere 8 = .ok (.iload_n 1, 1) := by decide +kernel
theorem dX9_areHere_9 : decode cX9_areHere 9 = .ok (.iload_n 2, 1) := by decide +kernel
theorem dX9_areHere_10 : decode cX9_areHere 10 = .ok (.invokestatic 80, 3) := by decide +kernel
theorem dX9_areHere_13 : decode cX9_areHere 13 = .ok (.ifCond .eq 13, 3) := by decide +kernel
theorem dX9_areHere_16 : decode cX9_areHere 16 = .ok (.aload_n 0, 1) := by decide +kernel
theorem dX9_areHere_17 : decode cX9_areHere 17 = .ok (.iload_n 2, 1) := by decide +kernel
theorem dX9_areHere_18 : decode cX9_areHere 18 = .ok (.invokevirtual 77, 3) := by decide +kernel
theorem dX9_areHere_21 : decode cX9_areHere 21 = .ok (.ifCond .ne 5, 3) := by decide +kernel
theorem dX9_areHere_24 : decode cX9_areHere 24 = .ok (.iconst 0, 1) := by decide +kernel
theorem dX9_areHere_25 : decode cX9_areHere 25 = .ok (.ireturn, 1) := by decide +kernel
theorem dX9_areHere_26 : decode cX9_areHere 26 = .ok (.iinc 2 1, 3) := by decide +kernel
theorem dX9_areHere_29 : decode cX9_areHere 29 = .ok (.goto (-27), 3) := by decide +kernel
theorem dX9_areHere_32 : decode cX9_areHere 32 = .ok (.iconst 1, 1) := by decide +kernel
theorem dX9_areHere_33 : decode cX9_areHere 33 = .ok (.ireturn, 1) := by decide +kernel
def lX9_areHere_2 (F : Nat)  (t : Nat) (a1 : Int32) : Nat → mS → Int32 → Option Bool
  | 0, _, _ => none
  | n + 1, S0, v2 => if (7 : Int32) ≤ v2 then (some true) else (if (f_X9_has S0 a1 v2) = true then (bd (f_X9_isHere F S0 t v2) fun q1 => if q1 = true then (lX9_areHere_2 F  t a1 n S0 (v2 + 1)) else (some false)) else (lX9_areHere_2 F  t a1 n S0 (v2 + 1)))
set_option maxHeartbeats 4000000 in
set_option maxRecDepth 100000 in
theorem gX9_areHere_2 {x : mX} {F : Nat} {t : Nat} {a1 : Int32} {S0 : mS}   {R : Bool} (ht : kd0 t = 9)  : ∀ (n : Nat) (v2 : Int32), lX9_areHere_2 F  t a1 n S0 v2 = some R → mG x μX9_areHere 4 0 0 (mQe S0 (some (.int (bI R)))) 0 0 E0 S0 2 [(0, .ref (t)), (1, .int (a1)), (2, .int (v2))] [] := by
  intro n
  induction n with
  | zero =>
    intro v2 h
    cases h
  | succ n ih =>
    intro v2 h
    unfold lX9_areHere_2 at h
    refine mG.iload_n 2 dX9_areHere_2 rfl ?_
    refine mG.bipush (v := 7) dX9_areHere_3 (by decide) ?_
    refine mG.icmp_ge 32 dX9_areHere_5 (by decide) (fun c4 => ?_) (fun c4 => ?_)
    · replace h := itp c4 h
      refine mG.iconst (v := 1) dX9_areHere_32 rfl ?_
      obtain rfl := Option.some.inj h
      exact mG.zret (b := true) dX9_areHere_33 rfl rfl ⟨rfl, rfl, rfl⟩
    · replace h := itn c4 h
      refine mG.iload_n 1 dX9_areHere_8 rfl ?_
      refine mG.iload_n 2 dX9_areHere_9 rfl ?_
      refine mG.callS0 (as := [.int (a1), .int (v2)]) (st := []) (S2 := S0) (r := some (.int (bI (f_X9_has S0 a1 v2)))) dX9_areHere_10 mbX9_has wk22_12 wk22_11 rfl rfl (by decide) (Nat.le_of_ble_eq_true rfl) (c_X9_has  rfl) ?_
      refine mG.ifz_eq (b := f_X9_has S0 a1 v2) 26 dX9_areHere_13 (by decide) (fun c3 => ?_) (fun c3 => ?_)
      · replace h := itn c3 h
        refine mG.iinc 2 (u := v2 + 1) (lv2 := [(2, .int (v2 + 1)), (0, .ref (t)), (1, .int (a1))]) dX9_areHere_26 rfl rfl (by decide) rfl ?_
        refine mG.goto 2 dX9_areHere_29 (by decide) ?_
        refine mG.sub (lv2 := [(0, .ref (t)), (1, .int (a1)), (2, .int (v2 + 1))]) [1, 2, 0] rfl ?_
        exact ih  (v2 + 1)  h
      · replace h := itp c3 h
        refine mG.aload_n 0 dX9_areHere_16 rfl ?_
        refine mG.iload_n 2 dX9_areHere_17 rfl ?_
        obtain ⟨q1, hq1, h⟩ := bdp h
        refine mG.callV0 (as := [.int (v2)]) (st := []) (S2 := S0) (r := some (.int (bI (q1)))) dX9_areHere_18 mvX9_isHere wk32_20 rfl ht rfl (by decide) (Nat.le_of_ble_eq_true rfl) (c_X9_isHere ht hq1) ?_
        refine mG.ifz_ne (b := q1) 26 dX9_areHere_21 (by decide) (fun c2 => ?_) (fun c2 => ?_)
        · replace h := itp c2 h
          refine mG.iinc 2 (u := v2 + 1) (lv2 := [(2, .int (v2 + 1)), (0, .ref (t)), (1, .int (a1))]) dX9_areHere_26 rfl rfl (by decide) rfl ?_
          refine mG.goto 2 dX9_areHere_29 (by decide) ?_
          refine mG.sub (lv2 := [(0, .ref (t)), (1, .int (a1)), (2, .int (v2 + 1))]) [1, 2, 0] rfl ?_
          exact ih  (v2 + 1)  h
        · replace h := itn c2 h
          refine mG.iconst (v := 0) dX9_areHere_24 rfl ?_
          obtain rfl := Option.some.inj h
          exact mG.zret (b := false) dX9_areHere_25 rfl rfl ⟨rfl, rfl, rfl⟩
def f_X9_areHere (F : Nat) (S0 : mS) (t : Nat) (a1 : Int32) : Option Bool := lX9_areHere_2 F  t a1 F S0 (0 : Int32)
set_option maxHeartbeats 4000000 in
set_option maxRecDepth 100000 in
theorem c_X9_areHere {F : Nat} {S0 : mS} {t : Nat} {a1 : Int32} {R : Bool} (ht : kd0 t = 9) (h : f_X9_areHere F S0 t a1 = some R) : mCt μX9_areHere 4 0 0 E0 S0 [.ref (t), .int (a1)] (mQe S0 (some (.int (bI R)))) := by
  unfold f_X9_areHere at h
  refine mCt.of (by decide) (Nat.le_of_ble_eq_true rfl) ?_
  intro x
  refine mG.iconst (v := 0) dX9_areHere_0 rfl ?_
  refine mG.istore_n (lv2 := [(2, .int 0), (0, .ref (t)), (1, .int (a1))]) dX9_areHere_1 rfl (by decide) rfl ?_
  refine mG.sub (lv2 := [(0, .ref (t)), (1, .int (a1)), (2, .int 0)]) [1, 2, 0] rfl ?_
  exact gX9_areHere_2 ht  F  (0 : Int32)  h
theorem dX9_appointments_0 : decode cX9_appointments 0 = .ok (.iload_n 1, 1) := by decide +kernel
theorem dX9_appointments_1 : decode cX9_appointments 1 = .ok (.iconst 1, 1) := by decide +kernel
theorem dX9_appointments_2 : decode cX9_appointments 2 = .ok (.bipush 127, 2) := by decide +kernel
theorem dX9_appointments_4 : decode cX9_appointments 4 = .ok (.invokestatic 65, 3) := by decide +kernel
theorem dX9_appointments_7 : decode cX9_appointments 7 = .ok (.ifCond .eq 40, 3) := by decide +kernel
theorem dX9_appointments_10 : decode cX9_appointments 10 = .ok (.iload_n 1, 1) := by decide +kernel
theorem dX9_appointments_11 : decode cX9_appointments 11 = .ok (.invokestatic 305, 3) := by decide +kernel
theorem dX9_appointments_14 : decode cX9_appointments 14 = .ok (.iconst 5, 1) := by decide +kernel
theorem dX9_appointments_15 : decode cX9_appointments 15 = .ok (.if_icmp .gt 32, 3) := by decide +kernel
theorem dX9_appointments_18 : decode cX9_appointments 18 = .ok (.aload_n 0, 1) := by decide +kernel
theorem dX9_appointments_19 : decode cX9_appointments 19 = .ok (.iload_n 1, 1) := by decide +kernel
theorem dX9_appointments_20 : decode cX9_appointments 20 = .ok (.invokevirtual 446, 3) := by decide +kernel
theorem dX9_appointments_23 : decode cX9_appointments 23 = .ok (.ifCond .eq 24, 3) := by decide +kernel
theorem dX9_appointments_26 : decode cX9_appointments 26 = .ok (.iload_n 2, 1) := by decide +kernel
theorem dX9_appointments_27 : decode cX9_appointments 27 = .ok (.iconst (-1), 1) := by decide +kernel
theorem dX9_appointments_28 : decode cX9_appointments 28 = .ok (.if_icmp .eq 22, 3) := by decide +kernel
theorem dX9_appointments_31 : decode cX9_appointments 31 = .ok (.aload_n 0, 1) := by decide +kernel
theorem dX9_appointments_32 : decode cX9_appointments 32 = .ok (.iload_n 2, 1) := by decide +kernel
theorem dX9_appointments_33 : decode cX9_appointments 33 = .ok (.invokevirtual 69, 3) := by decide +kernel
theorem dX9_appointments_36 : decode cX9_appointments 36 = .ok (.ifCond .eq 11, 3) := by decide +kernel
theorem dX9_appointments_39 : decode cX9_appointments 39 = .ok (.iload_n 1, 1) := by decide +kernel
theorem dX9_appointments_40 : decode cX9_appointments 40 = .ok (.iload_n 2, 1) := by decide +kernel
theorem dX9_appointments_41 : decode cX9_appointments 41 = .ok (.invokestatic 80, 3) := by decide +kernel
theorem dX9_appointments_44 : decode cX9_appointments 44 = .ok (.ifCond .ne 6, 3) := by decide +kernel
theorem dX9_appointments_47 : decode cX9_appointments 47 = .ok (.bipush (-2), 2) := by decide +kernel
theorem dX9_appointments_49 : decode cX9_appointments 49 = .ok (.ireturn, 1) := by decide +kernel
theorem dX9_appointments_50 : decode cX9_appointments 50 = .ok (.aload_n 0, 1) := by decide +kernel
theorem dX9_appointments_51 : decode cX9_appointments 51 = .ok (.iload_n 1, 1) := by decide +kernel
theorem dX9_appointments_52 : decode cX9_appointments 52 = .ok (.invokevirtual 449, 3) := by decide +kernel
theorem dX9_appointments_55 : decode cX9_appointments 55 = .ok (.istore_n 3, 1) := by decide +kernel
theorem dX9_appointments_56 : decode cX9_appointments 56 = .ok (.iload_n 3, 1) := by decide +kernel
theorem dX9_appointments_57 : decode cX9_appointments 57 = .ok (.istore 4, 2) := by decide +kernel
theorem dX9_appointments_59 : decode cX9_appointments 59 = .ok (.iconst 1, 1) := by decide +kernel
theorem dX9_appointments_60 : decode cX9_appointments 60 = .ok (.istore 5, 2) := by decide +kernel
theorem dX9_appointments_62 : decode cX9_appointments 62 = .ok (.iconst 0, 1) := by decide +kernel
theorem dX9_appointments_63 : decode cX9_appointments 63 = .ok (.istore 6, 2) := by decide +kernel
theorem dX9_appointments_65 : decode cX9_appointments 65 = .ok (.iload 6, 2) := by decide +kernel
theorem dX9_appointments_67 : decode cX9_appointments 67 = .ok (.iload 4, 2) := by decide +kernel
theorem dX9_appointments_69 : decode cX9_appointments 69 = .ok (.if_icmp .ge 17, 3) := by decide +kernel
theorem dX9_appointments_72 : decode cX9_appointments 72 = .ok (.iload 5, 2) := by decide +kernel
theorem dX9_appointments_74 : decode cX9_appointments 74 = .ok (.iload_n 3, 1) := by decide +kernel
theorem dX9_appointments_75 : decode cX9_appointments 75 = .ok (.iconst 1, 1) := by decide +kernel
theorem dX9_appointments_76 : decode cX9_appointments 76 = .ok (.iadd, 1) := by decide +kernel
theorem dX9_appointments_77 : decode cX9_appointments 77 = .ok (.imul, 1) := by decide +kernel
theorem dX9_appointments_78 : decode cX9_appointments 78 = .ok (.istore 5, 2) := by decide +kernel
theorem dX9_appointments_80 : decode cX9_appointments 80 = .ok (.iinc 6 1, 3) := by decide +kernel
theorem dX9_appointments_83 : decode cX9_appointments 83 = .ok (.goto (-18), 3) := by decide +kernel
theorem dX9_appointments_86 : decode cX9_appointments 86 = .ok (.iconst 0, 1) := by decide +kernel
theorem dX9_appointments_87 : decode cX9_appointments 87 = .ok (.istore 6, 2) := by decide +kernel
theorem dX9_appointments_89 : decode cX9_appointments 89 = .ok (.iload 6, 2) := by decide +kernel
theorem dX9_appointments_91 : decode cX9_appointments 91 = .ok (.iload 5, 2) := by decide +kernel
theorem dX9_appointments_93 : decode cX9_appointments 93 = .ok (.if_icmp .ge 38, 3) := by decide +kernel
theorem dX9_appointments_96 : decode cX9_appointments 96 = .ok (.aload_n 0, 1) := by decide +kernel
theorem dX9_appointments_97 : decode cX9_appointments 97 = .ok (.iload 6, 2) := by decide +kernel
theorem dX9_appointments_99 : decode cX9_appointments 99 = .ok (.iload_n 3, 1) := by decide +kernel
theorem dX9_appointments_100 : decode cX9_appointments 100 = .ok (.iload 4, 2) := by decide +kernel
theorem dX9_appointments_102 : decode cX9_appointments 102 = .ok (.invokevirtual 452, 3) := by decide +kernel
theorem dX9_appointments_105 : decode cX9_appointments 105 = .ok (.ifCond .eq 20, 3) := by decide +kernel
theorem dX9_appointments_108 : decode cX9_appointments 108 = .ok (.iload_n 2, 1) := by decide +kernel
theorem dX9_appointments_109 : decode cX9_appointments 109 = .ok (.iconst (-1), 1) := by decide +kernel
theorem dX9_appointments_110 : decode cX9_appointments 110 = .ok (.if_icmp .ne 8, 3) := by decide +kernel
theorem dX9_appointments_113 : decode cX9_appointments 113 = .ok (.iload 4, 2) := by decide +kernel
theorem dX9_appointments_115 : decode cX9_appointments 115 = .ok (.goto 9, 3) := by decide +kernel
theorem dX9_appointments_118 : decode cX9_appointments 118 = .ok (.aload_n 0, 1) := by decide +kernel
theorem dX9_appointments_119 : decode cX9_appointments 119 = .ok (.getfield 52, 3) := by decide +kernel
theorem dX9_appointments_122 : decode cX9_appointments 122 = .ok (.iload_n 2, 1) := by decide +kernel
theorem dX9_appointments_123 : decode cX9_appointments 123 = .ok (.iaload, 1) := by decide +kernel
theorem dX9_appointments_124 : decode cX9_appointments 124 = .ok (.ireturn, 1) := by decide +kernel
theorem dX9_appointments_125 : decode cX9_appointments 125 = .ok (.iinc 6 1, 3) := by decide +kernel
theorem dX9_appointments_128 : decode cX9_appointments 128 = .ok (.goto (-39), 3) := by decide +kernel
theorem dX9_appointments_131 : decode cX9_appointments 131 = .ok (.iinc 4 1, 3) := by decide +kernel
theorem dX9_appointments_134 : decode cX9_appointments 134 = .ok (.goto (-75), 3) := by decide +kernel
def lX9_appointments_65 (F : Nat) (K89 : mS → Int32 → Int32 → Int32 → Int32 → Option (mS × Int32)) (t : Nat) (a1 : Int32) (a2 : Int32) : Nat → mS → Int32 → Int32 → Int32 → Int32 → Option (mS × Int32)
  | 0, _, _, _, _, _ => none
  | n + 1, S, v3, v4, v5, v6 => if v4 ≤ v6 then (K89 S v3 v4 v5 (0 : Int32)) else (lX9_appointments_65 F K89 t a1 a2 n S v3 v4 (v5 * (v3 + (1 : Int32))) (v6 + 1))
set_option maxHeartbeats 4000000 in
set_option maxRecDepth 100000 in
theorem gX9_appointments_65 {x : mX} {F : Nat} {t : Nat} {a1 : Int32} {a2 : Int32}  {K89 : mS → Int32 → Int32 → Int32 → Int32 → Option (mS × Int32)} {R : mS × Int32} (ht : kd0 t = 9) (hK89 : ∀ (S : mS) (v3 : Int32) (v4 : Int32) (v5 : Int32) (v6 : Int32) , K89 S v3 v4 v5 v6 = some R → mG x μX9_appointments 5 0 0 (mQe R.1 (some (.int R.2))) 0 0 E0 S 89 [(0, .ref (t)), (2, .int (a2)), (3, .int (v3)), (4, .int (v4)), (5, .int (v5)), (6, .int (v6))] []) : ∀ (n : Nat) (S : mS) (v3 : Int32) (v4 : Int32) (v5 : Int32) (v6 : Int32), lX9_appointments_65 F K89 t a1 a2 n S v3 v4 v5 v6 = some R → mG x μX9_appointments 5 0 0 (mQe R.1 (some (.int R.2))) 0 0 E0 S 65 [(0, .ref (t)), (2, .int (a2)), (3, .int (v3)), (4, .int (v4)), (5, .int (v5)), (6, .int (v6))] [] := by
  intro n
  induction n with
  | zero =>
    intro S v3 v4 v5 v6 h
    cases h
  | succ n ih =>
    intro S v3 v4 v5 v6 h
    unfold lX9_appointments_65 at h
    refine mG.iload 5 dX9_appointments_65 rfl ?_
    refine mG.iload 3 dX9_appointments_67 rfl ?_
    refine mG.icmp_ge 86 dX9_appointments_69 (by decide) (fun c1 => ?_) (fun c1 => ?_)
    · replace h := itp c1 h
      refine mG.iconst (v := 0) dX9_appointments_86 rfl ?_
      refine mG.istore (lv2 := [(6, .int 0), (0, .ref (t)), (2, .int (a2)), (3, .int (v3)), (4, .int (v4)), (5, .int (v5))]) dX9_appointments_87 (by decide) rfl ?_
      refine mG.sub (lv2 := [(0, .ref (t)), (2, .int (a2)), (3, .int (v3)), (4, .int (v4)), (5, .int (v5)), (6, .int 0)]) [1, 2, 3, 4, 5, 0] rfl ?_
      exact hK89 S v3 v4 v5 (0 : Int32)  h
    · replace h := itn c1 h
      refine mG.iload 4 dX9_appointments_72 rfl ?_
      refine mG.iload_n 2 dX9_appointments_74 rfl ?_
      refine mG.iconst (v := 1) dX9_appointments_75 rfl ?_
      refine mG.iadd dX9_appointments_76 ?_
      refine mG.imul dX9_appointments_77 ?_
      refine mG.istore (lv2 := [(5, .int (v5 * (v3 + (1 : Int32)))), (0, .ref (t)), (2, .int (a2)), (3, .int (v3)), (4, .int (v4)), (6, .int (v6))]) dX9_appointments_78 (by decide) rfl ?_
      refine mG.iinc 5 (u := v6 + 1) (lv2 := [(6, .int (v6 + 1)), (5, .int (v5 * (v3 + (1 : Int32)))), (0, .ref (t)), (2, .int (a2)), (3, .int (v3)), (4, .int (v4))]) dX9_appointments_80 rfl rfl (by decide) rfl ?_
      refine mG.goto 65 dX9_appointments_83 (by decide) ?_
      refine mG.sub (lv2 := [(0, .ref (t)), (2, .int (a2)), (3, .int (v3)), (4, .int (v4)), (5, .int (v5 * (v3 + (1 : Int32)))), (6, .int (v6 + 1))]) [2, 3, 4, 5, 1, 0] rfl ?_
      exact ih S v3 v4 (v5 * (v3 + (1 : Int32))) (v6 + 1)  h
def lX9_appointments_89 (F : Nat) (K59 : mS → Int32 → Int32 → Option (mS × Int32)) (t : Nat) (a1 : Int32) (a2 : Int32) : Nat → mS → Int32 → Int32 → Int32 → Int32 → Option (mS × Int32)
  | 0, _, _, _, _, _ => none
  | n + 1, S, v3, v4, v5, v6 => if v5 ≤ v6 then (K59 S v3 (v4 + 1)) else (bd (f_X9_isLaid F S t v6 v3 v4) fun q1 => if q1.2 = true then (if a2 = (-1 : Int32) then (some (q1.1, v4)) else (ck (inb a2 7) (some (q1.1, q1.1.1 (t + 12) a2.toNatClampNeg)))) else (lX9_appointments_89 F K59 t a1 a2 n q1.1 v3 v4 v5 (v6 + 1)))
set_option maxHeartbeats 4000000 in
set_option maxRecDepth 100000 in
theorem gX9_appointments_89 {x : mX} {F : Nat} {t : Nat} {a1 : Int32} {a2 : Int32}  {K59 : mS → Int32 → Int32 → Option (mS × Int32)} {R : mS × Int32} (ht : kd0 t = 9) (hK59 : ∀ (S : mS) (v3 : Int32) (v4 : Int32) , K59 S v3 v4 = some R → mG x μX9_appointments 5 0 0 (mQe R.1 (some (.int R.2))) 0 0 E0 S 59 [(0, .ref (t)), (2, .int (a2)), (3, .int (v3)), (4, .int (v4))] []) : ∀ (n : Nat) (S : mS) (v3 : Int32) (v4 : Int32) (v5 : Int32) (v6 : Int32), lX9_appointments_89 F K59 t a1 a2 n S v3 v4 v5 v6 = some R → mG x μX9_appointments 5 0 0 (mQe R.1 (some (.int R.2))) 0 0 E0 S 89 [(0, .ref (t)), (2, .int (a2)), (3, .int (v3)), (4, .int (v4)), (5, .int (v5)), (6, .int (v6))] [] := by
  intro n
  induction n with
  | zero =>
    intro S v3 v4 v5 v6 h
    cases h
  | succ n ih =>
    intro S v3 v4 v5 v6 h
    unfold lX9_appointments_89 at h
    refine mG.iload 5 dX9_appointments_89 rfl ?_
    refine mG.iload 4 dX9_appointments_91 rfl ?_
    refine mG.icmp_ge 131 dX9_appointments_93 (by decide) (fun c5 => ?_) (fun c5 => ?_)
    · replace h := itp c5 h
      refine mG.iinc 3 (u := v4 + 1) (lv2 := [(4, .int (v4 + 1)), (0, .ref (t)), (2, .int (a2)), (3, .int (v3)), (5, .int (v5)), (6, .int (v6))]) dX9_appointments_131 rfl rfl (by decide) rfl ?_
      refine mG.goto 59 dX9_appointments_134 (by decide) ?_
      refine mG.sub (lv2 := [(0, .ref (t)), (2, .int (a2)), (3, .int (v3)), (4, .int (v4 + 1))]) [1, 2, 3, 0] rfl ?_
      exact hK59 S v3 (v4 + 1)  h
    · replace h := itn c5 h
      refine mG.aload_n 0 dX9_appointments_96 rfl ?_
      refine mG.iload 5 dX9_appointments_97 rfl ?_
      refine mG.iload_n 2 dX9_appointments_99 rfl ?_
      refine mG.iload 3 dX9_appointments_100 rfl ?_
      obtain ⟨q1, hq1, h⟩ := bdp h
      refine mG.callV0 (as := [.int (v6), .int (v3), .int (v4)]) (st := []) (S2 := q1.1) (r := some (.int (bI (q1.2)))) dX9_appointments_102 mvX9_isLaid wk57_16 rfl ht rfl (by decide) (Nat.le_of_ble_eq_true rfl) (c_X9_isLaid ht hq1) ?_
      refine mG.ifz_eq (b := q1.2) 125 dX9_appointments_105 (by decide) (fun c4 => ?_) (fun c4 => ?_)
      · replace h := itn c4 h
        refine mG.iinc 5 (u := v6 + 1) (lv2 := [(6, .int (v6 + 1)), (0, .ref (t)), (2, .int (a2)), (3, .int (v3)), (4, .int (v4)), (5, .int (v5))]) dX9_appointments_125 rfl rfl (by decide) rfl ?_
        refine mG.goto 89 dX9_appointments_128 (by decide) ?_
        refine mG.sub (lv2 := [(0, .ref (t)), (2, .int (a2)), (3, .int (v3)), (4, .int (v4)), (5, .int (v5)), (6, .int (v6 + 1))]) [1, 2, 3, 4, 5, 0] rfl ?_
        exact ih q1.1 v3 v4 v5 (v6 + 1)  h
      · replace h := itp c4 h
        refine mG.iload_n 1 dX9_appointments_108 rfl ?_
        refine mG.iconst (v := (-1)) dX9_appointments_109 rfl ?_
        refine mG.icmp_ne 118 dX9_appointments_110 (by decide) (fun c3 => ?_) (fun c3 => ?_)
        · replace h := itn c3 h
          refine mG.aload_n 0 dX9_appointments_118 rfl ?_
          refine mG.get (v := .ref (t + 12)) dX9_appointments_119 mfX9_52 ht (lr9_dayOf ht) ?_
          refine mG.iload_n 1 dX9_appointments_122 rfl ?_
          obtain ⟨b2, h⟩ := ckp h
          refine mG.iald dX9_appointments_123 (lk9_dayOf ht) (ll9_dayOf ht) (inbp b2) ?_
          obtain rfl := Option.some.inj h
          exact mG.iret dX9_appointments_124 rfl ⟨rfl, rfl, rfl⟩
        · replace h := itp c3 h
          refine mG.iload 3 dX9_appointments_113 rfl ?_
          refine mG.goto 124 dX9_appointments_115 (by decide) ?_
          obtain rfl := Option.some.inj h
          exact mG.iret dX9_appointments_124 rfl ⟨rfl, rfl, rfl⟩
def lX9_appointments_59 (F : Nat)  (t : Nat) (a1 : Int32) (a2 : Int32) : Nat → mS → Int32 → Int32 → Option (mS × Int32)
  | 0, _, _, _ => none
  | n + 1, S, v3, v4 => lX9_appointments_65 F (fun (S : mS) (v3 : Int32) (v4 : Int32) (v5 : Int32) (v6 : Int32) => lX9_appointments_89 F (fun (S : mS) (v3 : Int32) (v4 : Int32) => lX9_appointments_59 F  t a1 a2 n S v3 v4) t a1 a2 F S v3 v4 v5 v6) t a1 a2 F S v3 v4 (1 : Int32) (0 : Int32)
set_option maxHeartbeats 4000000 in
set_option maxRecDepth 100000 in
theorem gX9_appointments_59 {x : mX} {F : Nat} {t : Nat} {a1 : Int32} {a2 : Int32}   {R : mS × Int32} (ht : kd0 t = 9)  : ∀ (n : Nat) (S : mS) (v3 : Int32) (v4 : Int32), lX9_appointments_59 F  t a1 a2 n S v3 v4 = some R → mG x μX9_appointments 5 0 0 (mQe R.1 (some (.int R.2))) 0 0 E0 S 59 [(0, .ref (t)), (2, .int (a2)), (3, .int (v3)), (4, .int (v4))] [] := by
  intro n
  induction n with
  | zero =>
    intro S v3 v4 h
    cases h
  | succ n ih =>
    intro S v3 v4 h
    unfold lX9_appointments_59 at h
    refine mG.iconst (v := 1) dX9_appointments_59 rfl ?_
    refine mG.istore (lv2 := [(5, .int 1), (0, .ref (t)), (2, .int (a2)), (3, .int (v3)), (4, .int (v4))]) dX9_appointments_60 (by decide) rfl ?_
    refine mG.iconst (v := 0) dX9_appointments_62 rfl ?_
    refine mG.istore (lv2 := [(6, .int 0), (5, .int 1), (0, .ref (t)), (2, .int (a2)), (3, .int (v3)), (4, .int (v4))]) dX9_appointments_63 (by decide) rfl ?_
    refine mG.sub (lv2 := [(0, .ref (t)), (2, .int (a2)), (3, .int (v3)), (4, .int (v4)), (5, .int 1), (6, .int 0)]) [2, 3, 4, 5, 1, 0] rfl ?_
    exact gX9_appointments_65 ht (fun S v3 v4 v5 v6 h => by exact gX9_appointments_89 ht (fun S v3 v4 h => by exact ih S v3 v4  h) F S v3 v4 v5 v6  h) F S v3 v4 (1 : Int32) (0 : Int32)  h
def f_X9_appointments (F : Nat) (S : mS) (t : Nat) (a1 : Int32) (a2 : Int32) : Option (mS × Int32) := if (f_X9_isIn S a1 (1 : Int32) (127 : Int32)) = true then (bd (f_X9_bits F S a1) fun q1 => if (5 : Int32) < q1 then (some (S, (-2 : Int32))) else (bd (f_X9_areHere F S t a1) fun q2 => if q2 = true then (if a2 = (-1 : Int32) then (bd (f_X9_layMembers F S t a1) fun q3 => lX9_appointments_59 F  t a1 a2 F q3.1 q3.2 q3.2) else (bd (f_X9_isHouse F S t a2) fun q4 => if q4 = true then (if (f_X9_has S a1 a2) = true then (bd (f_X9_layMembers F S t a1) fun q5 => lX9_appointments_59 F  t a1 a2 F q5.1 q5.2 q5.2) else (some (S, (-2 : Int32)))) else (some (S, (-2 : Int32))))) else (some (S, (-2 : Int32))))) else (some (S, (-2 : Int32)))
set_option maxHeartbeats 4000000 in
set_option maxRecDepth 100000 in
theorem c_X9_appointments {F : Nat} {S : mS} {t : Nat} {a1 : Int32} {a2 : Int32} {R : mS × Int32} (ht : kd0 t = 9) (h : f_X9_appointments F S t a1 a2 = some R) : mCt μX9_appointments 5 0 0 E0 S [.ref (t), .int (a1), .int (a2)] (mQe R.1 (some (.int R.2))) := by
  unfold f_X9_appointments at h
  refine mCt.of (by decide) (Nat.le_of_ble_eq_true rfl) ?_
  intro x
  refine mG.iload_n 1 dX9_appointments_0 rfl ?_
  refine mG.iconst (v := 1) dX9_appointments_1 rfl ?_
  refine mG.bipush (v := 127) dX9_appointments_2 (by decide) ?_
  refine mG.callS0 (as := [.int (a1), .int 1, .int 127]) (st := []) (S2 := S) (r := some (.int (bI (f_X9_isIn S a1 (1 : Int32) (127 : Int32))))) dX9_appointments_4 mbX9_isIn wk7_13 wk7_12 rfl rfl (by decide) (Nat.le_of_ble_eq_true rfl) (c_X9_isIn  rfl) ?_
  refine mG.ifz_eq (b := f_X9_isIn S a1 (1 : Int32) (127 : Int32)) 47 dX9_appointments_7 (by decide) (fun c11 => ?_) (fun c11 => ?_)
  · replace h := itn c11 h
    refine mG.bipush (v := (-2)) dX9_appointments_47 (by decide) ?_
    obtain rfl := Option.some.inj h
    exact mG.iret dX9_appointments_49 rfl ⟨rfl, rfl, rfl⟩
  · replace h := itp c11 h
    refine mG.iload_n 1 dX9_appointments_10 rfl ?_
    obtain ⟨q1, hq1, h⟩ := bdp h
    refine mG.callS0 (as := [.int (a1)]) (st := []) (S2 := S) (r := some (.int (q1))) dX9_appointments_11 mbX9_bits wk34_9 wk34_8 rfl rfl (by decide) (Nat.le_of_ble_eq_true rfl) (c_X9_bits  hq1) ?_
    refine mG.iconst (v := 5) dX9_appointments_14 rfl ?_
    refine mG.icmp_gt 47 dX9_appointments_15 (by decide) (fun c10 => ?_) (fun c10 => ?_)
    · replace h := itp c10 h
      refine mG.bipush (v := (-2)) dX9_appointments_47 (by decide) ?_
      obtain rfl := Option.some.inj h
      exact mG.iret dX9_appointments_49 rfl ⟨rfl, rfl, rfl⟩
    · replace h := itn c10 h
      refine mG.aload_n 0 dX9_appointments_18 rfl ?_
      refine mG.iload_n 1 dX9_appointments_19 rfl ?_
      obtain ⟨q2, hq2, h⟩ := bdp h
      refine mG.callV0 (as := [.int (a1)]) (st := []) (S2 := S) (r := some (.int (bI (q2)))) dX9_appointments_20 mvX9_areHere wk57_8 rfl ht rfl (by decide) (Nat.le_of_ble_eq_true rfl) (c_X9_areHere ht hq2) ?_
      refine mG.ifz_eq (b := q2) 47 dX9_appointments_23 (by decide) (fun c9 => ?_) (fun c9 => ?_)
      · replace h := itn c9 h
        refine mG.bipush (v := (-2)) dX9_appointments_47 (by decide) ?_
        obtain rfl := Option.some.inj h
        exact mG.iret dX9_appointments_49 rfl ⟨rfl, rfl, rfl⟩
      · replace h := itp c9 h
        refine mG.iload_n 2 dX9_appointments_26 rfl ?_
        refine mG.iconst (v := (-1)) dX9_appointments_27 rfl ?_
        refine mG.icmp_eq 50 dX9_appointments_28 (by decide) (fun c8 => ?_) (fun c8 => ?_)
        · replace h := itp c8 h
          refine mG.aload_n 0 dX9_appointments_50 rfl ?_
          refine mG.iload_n 1 dX9_appointments_51 rfl ?_
          obtain ⟨q3, hq3, h⟩ := bdp h
          refine mG.callV0 (as := [.int (a1)]) (st := []) (S2 := q3.1) (r := some (.int (q3.2))) dX9_appointments_52 mvX9_layMembers wk57_12 rfl ht rfl (by decide) (Nat.le_of_ble_eq_true rfl) (c_X9_layMembers ht hq3) ?_
          refine mG.istore_n (lv2 := [(3, .int (q3.2)), (0, .ref (t)), (1, .int (a1)), (2, .int (a2))]) dX9_appointments_55 rfl (by decide) rfl ?_
          refine mG.iload_n 0 dX9_appointments_56 rfl ?_
          refine mG.istore (lv2 := [(4, .int (q3.2)), (3, .int (q3.2)), (0, .ref (t)), (1, .int (a1)), (2, .int (a2))]) dX9_appointments_57 (by decide) rfl ?_
          refine mG.sub (lv2 := [(0, .ref (t)), (2, .int (a2)), (3, .int (q3.2)), (4, .int (q3.2))]) [2, 4, 1, 0] rfl ?_
          exact gX9_appointments_59 ht  F q3.1 q3.2 q3.2  h
        · replace h := itn c8 h
          refine mG.aload_n 0 dX9_appointments_31 rfl ?_
          refine mG.iload_n 2 dX9_appointments_32 rfl ?_
          obtain ⟨q4, hq4, h⟩ := bdp h
          refine mG.callV0 (as := [.int (a2)]) (st := []) (S2 := S) (r := some (.int (bI (q4)))) dX9_appointments_33 mvX9_isHouse wk33_0 rfl ht rfl (by decide) (Nat.le_of_ble_eq_true rfl) (c_X9_isHouse ht hq4) ?_
          refine mG.ifz_eq (b := q4) 47 dX9_appointments_36 (by decide) (fun c7 => ?_) (fun c7 => ?_)
          · replace h := itn c7 h
            refine mG.bipush (v := (-2)) dX9_appointments_47 (by decide) ?_
            obtain rfl := Option.some.inj h
            exact mG.iret dX9_appointments_49 rfl ⟨rfl, rfl, rfl⟩
          · replace h := itp c7 h
            refine mG.iload_n 1 dX9_appointments_39 rfl ?_
            refine mG.iload_n 2 dX9_appointments_40 rfl ?_
            refine mG.callS0 (as := [.int (a1), .int (a2)]) (st := []) (S2 := S) (r := some (.int (bI (f_X9_has S a1 a2)))) dX9_appointments_41 mbX9_has wk22_12 wk22_11 rfl rfl (by decide) (Nat.le_of_ble_eq_true rfl) (c_X9_has  rfl) ?_
            refine mG.ifz_ne (b := f_X9_has S a1 a2) 50 dX9_appointments_44 (by decide) (fun c6 => ?_) (fun c6 => ?_)
            · replace h := itp c6 h
              refine mG.aload_n 0 dX9_appointments_50 rfl ?_
              refine mG.iload_n 1 dX9_appointments_51 rfl ?_
              obtain ⟨q5, hq5, h⟩ := bdp h
              refine mG.callV0 (as := [.int (a1)]) (st := []) (S2 := q5.1) (r := some (.int (q5.2))) dX9_appointments_52 mvX9_layMembers wk57_12 rfl ht rfl (by decide) (Nat.le_of_ble_eq_true rfl) (c_X9_layMembers ht hq5) ?_
              refine mG.istore_n (lv2 := [(3, .int (q5.2)), (0, .ref (t)), (1, .int (a1)), (2, .int (a2))]) dX9_appointments_55 rfl (by decide) rfl ?_
              refine mG.iload_n 0 dX9_appointments_56 rfl ?_
              refine mG.istore (lv2 := [(4, .int (q5.2)), (3, .int (q5.2)), (0, .ref (t)), (1, .int (a1)), (2, .int (a2))]) dX9_appointments_57 (by decide) rfl ?_
              refine mG.sub (lv2 := [(0, .ref (t)), (2, .int (a2)), (3, .int (q5.2)), (4, .int (q5.2))]) [2, 4, 1, 0] rfl ?_
              exact gX9_appointments_59 ht  F q5.1 q5.2 q5.2  h
            · replace h := itn c6 h
              refine mG.bipush (v := (-2)) dX9_appointments_47 (by decide) ?_
              obtain rfl := Option.some.inj h
              exact mG.iret dX9_appointments_49 rfl ⟨rfl, rfl, rfl⟩
theorem dX9_isRound_0 : decode cX9_isRound 0 = .ok (.iconst 0, 1) := by decide +kernel
theorem dX9_isRound_1 : decode cX9_isRound 1 = .ok (.istore_n 2, 1) := by decide +kernel
theorem dX9_isRound_2 : decode cX9_isRound 2 = .ok (.iload_n 2, 1) := by decide +kernel
theorem dX9_isRound_3 : decode cX9_isRound 3 = .ok (.aload_n 0, 1) := by decide +kernel
theorem dX9_isRound_4 : decode cX9_isRound 4 = .ok (.getfield 7, 3) := by decide +kernel
theorem dX9_isRound_7 : decode cX9_isRound 7 = .ok (.iconst 0, 1) := by decide +kernel
theorem dX9_isRound_8 : decode cX9_isRound 8 = .ok (.iaload, 1) := by decide +kernel
theorem dX9_isRound_9 : decode cX9_isRound 9 = .ok (.if_icmp .ge 32, 3) := by decide +kernel
theorem dX9_isRound_12 : decode cX9_isRound 12 = .ok (.aload_n 0, 1) := by decide +kernel
theorem dX9_isRound_13 : decode cX9_isRound 13 = .ok (.iload_n 2, 1) := by decide +kernel
theorem dX9_isRound_14 : decode cX9_isRound 14 = .ok (.invokevirtual 77, 3) := by decide +kernel
theorem dX9_isRound_17 : decode cX9_isRound 17 = .ok (.ifCond .eq 18, 3) := by decide +kernel
theorem dX9_isRound_20 : decode cX9_isRound 20 = .ok (.iload_n 1, 1) := by decide +kernel
theorem dX9_isRound_21 : decode cX9_isRound 21 = .ok (.aload_n 0, 1) := by decide +kernel
theorem dX9_isRound_22 : decode cX9_isRound 22 = .ok (.iload_n 2, 1) := by decide +kernel
theorem dX9_isRound_23 : decode cX9_isRound 23 = .ok (.iconst 0, 1) := by decide +kernel
theorem dX9_isRound_24 : decode cX9_isRound 24 = .ok (.invokevirtual 73, 3) := by decide +kernel
theorem dX9_isRound_27 : decode cX9_isRound 27 = .ok (.iconst (-1), 1) := by decide +kernel
theorem dX9_isRound_28 : decode cX9_isRound 28 = .ok (.ixor, 1) := by decide +kernel
theorem dX9_isRound_29 : decode cX9_isRound 29 = .ok (.iand, 1) := by decide +kernel
theorem dX9_isRound_30 : decode cX9_isRound 30 = .ok (.ifCond .ne 5, 3) := by decide +kernel
theorem dX9_isRound_33 : decode cX9_isRound 33 = .ok (.iconst 0, 1) := by decide +kernel
theorem dX9_isRound_34 : decode cX9_isRound 34 = .ok (.ireturn, 1) := by decide +kernel
theorem dX9_isRound_35 : decode cX9_isRound 35 = .ok (.iinc 2 1, 3) := by decide +kernel
theorem dX9_isRound_38 : decode cX9_isRound 38 = .ok (.goto (-36), 3) := by decide +kernel
theorem dX9_isRound_41 : decode cX9_isRound 41 = .ok (.iconst 1, 1) := by decide +kernel
theorem dX9_isRound_42 : decode cX9_isRound 42 = .ok (.ireturn, 1) := by decide +kernel
def lX9_isRound_2 (F : Nat)  (t : Nat) (a1 : Int32) : Nat → mS → Int32 → Option Bool
  | 0, _, _ => none
  | n + 1, S0, v2 => ck (inb (0 : Int32) 2308) (if (S0.1 (t + 1) (0 : Int32).toNatClampNeg) ≤ v2 then (some true) else (bd (f_X9_isHere F S0 t v2) fun q2 => if q2 = true then (bd (f_X9_get F S0 t v2 (0 : Int32)) fun q3 => if (a1 &&& (q3 ^^^ (-1 : Int32))) = 0 then (some false) else (lX9_isRound_2 F  t a1 n S0 (v2 + 1))) else (lX9_isRound_2 F  t a1 n S0 (v2 + 1))))
set_option maxHeartbeats 4000000 in
set_option maxRecDepth 100000 in
theorem gX9_isRound_2 {x : mX} {F : Nat} {t : Nat} {a1 : Int32} {S0 : mS}   {R : Bool} (ht : kd0 t = 9)  : ∀ (n : Nat) (v2 : Int32), lX9_isRound_2 F  t a1 n S0 v2 = some R → mG x μX9_isRound 4 0 0 (mQe S0 (some (.int (bI R)))) 0 0 E0 S0 2 [(0, .ref (t)), (1, .int (a1)), (2, .int (v2))] [] := by
  intro n
  induction n with
  | zero =>
    intro v2 h
    cases h
  | succ n ih =>
    intro v2 h
    unfold lX9_isRound_2 at h
    refine mG.iload_n 2 dX9_isRound_2 rfl ?_
    refine mG.aload_n 0 dX9_isRound_3 rfl ?_
    refine mG.get (v := .ref (t + 1)) dX9_isRound_4 mfX9_7 ht (lr9_a ht) ?_
    refine mG.iconst (v := 0) dX9_isRound_7 rfl ?_
    obtain ⟨b1, h⟩ := ckp h
    refine mG.iald dX9_isRound_8 (lk9_a ht) (ll9_a ht) (inbp b1) ?_
    refine mG.icmp_ge 41 dX9_isRound_9 (by decide) (fun c6 => ?_) (fun c6 => ?_)
    · replace h := itp c6 h
      refine mG.iconst (v := 1) dX9_isRound_41 rfl ?_
      obtain rfl := Option.some.inj h
      exact mG.zret (b := true) dX9_isRound_42 rfl rfl ⟨rfl, rfl, rfl⟩
    · replace h := itn c6 h
      refine mG.aload_n 0 dX9_isRound_12 rfl ?_
      refine mG.iload_n 2 dX9_isRound_13 rfl ?_
      obtain ⟨q2, hq2, h⟩ := bdp h
      refine mG.callV0 (as := [.int (v2)]) (st := []) (S2 := S0) (r := some (.int (bI (q2)))) dX9_isRound_14 mvX9_isHere wk32_20 rfl ht rfl (by decide) (Nat.le_of_ble_eq_true rfl) (c_X9_isHere ht hq2) ?_
      refine mG.ifz_eq (b := q2) 35 dX9_isRound_17 (by decide) (fun c5 => ?_) (fun c5 => ?_)
      · replace h := itn c5 h
        refine mG.iinc 2 (u := v2 + 1) (lv2 := [(2, .int (v2 + 1)), (0, .ref (t)), (1, .int (a1))]) dX9_isRound_35 rfl rfl (by decide) rfl ?_
        refine mG.goto 2 dX9_isRound_38 (by decide) ?_
        refine mG.sub (lv2 := [(0, .ref (t)), (1, .int (a1)), (2, .int (v2 + 1))]) [1, 2, 0] rfl ?_
        exact ih  (v2 + 1)  h
      · replace h := itp c5 h
        refine mG.iload_n 1 dX9_isRound_20 rfl ?_
        refine mG.aload_n 0 dX9_isRound_21 rfl ?_
        refine mG.iload_n 2 dX9_isRound_22 rfl ?_
        refine mG.iconst (v := 0) dX9_isRound_23 rfl ?_
        obtain ⟨q3, hq3, h⟩ := bdp h
        refine mG.callV0 (as := [.int (v2), .int 0]) (st := [.int (a1)]) (S2 := S0) (r := some (.int (q3))) dX9_isRound_24 mvX9_get wk7_23 rfl ht rfl (by decide) (Nat.le_of_ble_eq_true rfl) (c_X9_get ht hq3) ?_
        refine mG.iconst (v := (-1)) dX9_isRound_27 rfl ?_
        refine mG.ixor dX9_isRound_28 ?_
        refine mG.iand dX9_isRound_29 ?_
        refine mG.if_ne 35 dX9_isRound_30 (by decide) (fun c4 => ?_) (fun c4 => ?_)
        · replace h := itn c4 h
          refine mG.iinc 2 (u := v2 + 1) (lv2 := [(2, .int (v2 + 1)), (0, .ref (t)), (1, .int (a1))]) dX9_isRound_35 rfl rfl (by decide) rfl ?_
          refine mG.goto 2 dX9_isRound_38 (by decide) ?_
          refine mG.sub (lv2 := [(0, .ref (t)), (1, .int (a1)), (2, .int (v2 + 1))]) [1, 2, 0] rfl ?_
          exact ih  (v2 + 1)  h
        · replace h := itp c4 h
          refine mG.iconst (v := 0) dX9_isRound_33 rfl ?_
          obtain rfl := Option.some.inj h
          exact mG.zret (b := false) dX9_isRound_34 rfl rfl ⟨rfl, rfl, rfl⟩
def f_X9_isRound (F : Nat) (S0 : mS) (t : Nat) (a1 : Int32) : Option Bool := lX9_isRound_2 F  t a1 F S0 (0 : Int32)
set_option maxHeartbeats 4000000 in
set_option maxRecDepth 100000 in
theorem c_X9_isRound {F : Nat} {S0 : mS} {t : Nat} {a1 : Int32} {R : Bool} (ht : kd0 t = 9) (h : f_X9_isRound F S0 t a1 = some R) : mCt μX9_isRound 4 0 0 E0 S0 [.ref (t), .int (a1)] (mQe S0 (some (.int (bI R)))) := by
  unfold f_X9_isRound at h
  refine mCt.of (by decide) (Nat.le_of_ble_eq_true rfl) ?_
  intro x
  refine mG.iconst (v := 0) dX9_isRound_0 rfl ?_
  refine mG.istore_n (lv2 := [(2, .int 0), (0, .ref (t)), (1, .int (a1))]) dX9_isRound_1 rfl (by decide) rfl ?_
  refine mG.sub (lv2 := [(0, .ref (t)), (1, .int (a1)), (2, .int 0)]) [1, 2, 0] rfl ?_
  exact gX9_isRound_2 ht  F  (0 : Int32)  h
theorem dX9_rounds_0 : decode cX9_rounds 0 = .ok (.aload_n 0, 1) := by decide +kernel
theorem dX9_rounds_1 : decode cX9_rounds 1 = .ok (.iconst 0, 1) := by decide +kernel
theorem dX9_rounds_2 : decode cX9_rounds 2 = .ok (.invokevirtual 455, 3) := by decide +kernel
theorem dX9_rounds_5 : decode cX9_rounds 5 = .ok (.ifCond .eq 5, 3) := by decide +kernel
theorem dX9_rounds_8 : decode cX9_rounds 8 = .ok (.iconst 0, 1) := by decide +kernel
theorem dX9_rounds_9 : decode cX9_rounds 9 = .ok (.ireturn, 1) := by decide +kernel
theorem dX9_rounds_10 : decode cX9_rounds 10 = .ok (.iconst 0, 1) := by decide +kernel
theorem dX9_rounds_11 : decode cX9_rounds 11 = .ok (.istore_n 1, 1) := by decide +kernel
theorem dX9_rounds_12 : decode cX9_rounds 12 = .ok (.iload_n 1, 1) := by decide +kernel
theorem dX9_rounds_13 : decode cX9_rounds 13 = .ok (.bipush 20, 2) := by decide +kernel
theorem dX9_rounds_15 : decode cX9_rounds 15 = .ok (.if_icmp .ge 23, 3) := by decide +kernel
theorem dX9_rounds_18 : decode cX9_rounds 18 = .ok (.aload_n 0, 1) := by decide +kernel
theorem dX9_rounds_19 : decode cX9_rounds 19 = .ok (.iconst 1, 1) := by decide +kernel
theorem dX9_rounds_20 : decode cX9_rounds 20 = .ok (.iload_n 1, 1) := by decide +kernel
theorem dX9_rounds_21 : decode cX9_rounds 21 = .ok (.ishl, 1) := by decide +kernel
theorem dX9_rounds_22 : decode cX9_rounds 22 = .ok (.invokevirtual 455, 3) := by decide +kernel
theorem dX9_rounds_25 : decode cX9_rounds 25 = .ok (.ifCond .eq 7, 3) := by decide +kernel
theorem dX9_rounds_28 : decode cX9_rounds 28 = .ok (.iconst 1, 1) := by decide +kernel
theorem dX9_rounds_29 : decode cX9_rounds 29 = .ok (.iload_n 1, 1) := by decide +kernel
theorem dX9_rounds_30 : decode cX9_rounds 30 = .ok (.ishl, 1) := by decide +kernel
theorem dX9_rounds_31 : decode cX9_rounds 31 = .ok (.ireturn, 1) := by decide +kernel
theorem dX9_rounds_32 : decode cX9_rounds 32 = .ok (.iinc 1 1, 3) := by decide +kernel
theorem dX9_rounds_35 : decode cX9_rounds 35 = .ok (.goto (-23), 3) := by decide +kernel
theorem dX9_rounds_38 : decode cX9_rounds 38 = .ok (.iconst 0, 1) := by decide +kernel
theorem dX9_rounds_39 : decode cX9_rounds 39 = .ok (.istore_n 1, 1) := by decide +kernel
theorem dX9_rounds_40 : decode cX9_rounds 40 = .ok (.iload_n 1, 1) := by decide +kernel
theorem dX9_rounds_41 : decode cX9_rounds 41 = .ok (.bipush 20, 2) := by decide +kernel
theorem dX9_rounds_43 : decode cX9_rounds 43 = .ok (.if_icmp .ge 44, 3) := by decide +kernel
theorem dX9_rounds_46 : decode cX9_rounds 46 = .ok (.iconst 0, 1) := by decide +kernel
theorem dX9_rounds_47 : decode cX9_rounds 47 = .ok (.istore_n 2, 1) := by decide +kernel
theorem dX9_rounds_48 : decode cX9_rounds 48 = .ok (.iload_n 2, 1) := by decide +kernel
theorem dX9_rounds_49 : decode cX9_rounds 49 = .ok (.iload_n 1, 1) := by decide +kernel
theorem dX9_rounds_50 : decode cX9_rounds 50 = .ok (.if_icmp .ge 31, 3) := by decide +kernel
theorem dX9_rounds_53 : decode cX9_rounds 53 = .ok (.aload_n 0, 1) := by decide +kernel
theorem dX9_rounds_54 : decode cX9_rounds 54 = .ok (.iconst 1, 1) := by decide +kernel
theorem dX9_rounds_55 : decode cX9_rounds 55 = .ok (.iload_n 2, 1) := by decide +kernel
theorem dX9_rounds_56 : decode cX9_rounds 56 = .ok (.ishl, 1) := by decide +kernel
theorem dX9_rounds_57 : decode cX9_rounds 57 = .ok (.iconst 1, 1) := by decide +kernel
theorem dX9_rounds_58 : decode cX9_rounds 58 = .ok (.iload_n 1, 1) := by decide +kernel
theorem dX9_rounds_59 : decode cX9_rounds 59 = .ok (.ishl, 1) := by decide +kernel
theorem dX9_rounds_60 : decode cX9_rounds 60 = .ok (.ior, 1) := by decide +kernel
theorem dX9_rounds_61 : decode cX9_rounds 61 = .ok (.invokevirtual 455, 3) := by decide +kernel
theorem dX9_rounds_64 : decode cX9_rounds 64 = .ok (.ifCond .eq 11, 3) := by decide +kernel
theorem dX9_rounds_67 : decode cX9_rounds 67 = .ok (.iconst 1, 1) := by decide +kernel
theorem dX9_rounds_68 : decode cX9_rounds 68 = .ok (.iload_n 2, 1) := by decide +kernel
theorem dX9_rounds_69 : decode cX9_rounds 69 = .ok (.ishl, 1) := by decide +kernel
theorem dX9_rounds_70 : decode cX9_rounds 70 = .ok (.iconst 1, 1) := by decide +kernel
theorem dX9_rounds_71 : decode cX9_rounds 71 = .ok (.iload_n 1, 1) := by decide +kernel
theorem dX9_rounds_72 : decode cX9_rounds 72 = .ok (.ishl, 1) := by decide +kernel
theorem dX9_rounds_73 : decode cX9_rounds 73 = .ok (.ior, 1) := by decide +kernel
theorem dX9_rounds_74 : decode cX9_rounds 74 = .ok (.ireturn, 1) := by decide +kernel
theorem dX9_rounds_75 : decode cX9_rounds 75 = .ok (.iinc 2 1, 3) := by decide +kernel
theorem dX9_rounds_78 : decode cX9_rounds 78 = .ok (.goto (-30), 3) := by decide +kernel
theorem dX9_rounds_81 : decode cX9_rounds 81 = .ok (.iinc 1 1, 3) := by decide +kernel
theorem dX9_rounds_84 : decode cX9_rounds 84 = .ok (.goto (-44), 3) := by decide +kernel
theorem dX9_rounds_87 : decode cX9_rounds 87 = .ok (.iconst 0, 1) := by decide +kernel
theorem dX9_rounds_88 : decode cX9_rounds 88 = .ok (.istore_n 1, 1) := by decide +kernel
theorem dX9_rounds_89 : decode cX9_rounds 89 = .ok (.iload_n 1, 1) := by decide +kernel
theorem dX9_rounds_90 : decode cX9_rounds 90 = .ok (.bipush 20, 2) := by decide +kernel
theorem dX9_rounds_92 : decode cX9_rounds 92 = .ok (.if_icmp .ge 65, 3) := by decide +kernel
theorem dX9_rounds_95 : decode cX9_rounds 95 = .ok (.iconst 0, 1) := by decide +kernel
theorem dX9_rounds_96 : decode cX9_rounds 96 = .ok (.istore_n 2, 1) := by decide +kernel
theorem dX9_rounds_97 : decode cX9_rounds 97 = .ok (.iload_n 2, 1) := by decide +kernel
theorem dX9_rounds_98 : decode cX9_rounds 98 = .ok (.iload_n 1, 1) := by decide +kernel
theorem dX9_rounds_99 : decode cX9_rounds 99 = .ok (.if_icmp .ge 52, 3) := by decide +kernel
theorem dX9_rounds_102 : decode cX9_rounds 102 = .ok (.iconst 0, 1) := by decide +kernel
theorem dX9_rounds_103 : decode cX9_rounds 103 = .ok (.istore_n 3, 1) := by decide +kernel
theorem dX9_rounds_104 : decode cX9_rounds 104 = .ok (.iload_n 3, 1) := by decide +kernel
theorem dX9_rounds_105 : decode cX9_rounds 105 = .ok (.iload_n 2, 1) := by decide +kernel
theorem dX9_rounds_106 : decode cX9_rounds 106 = .ok (.if_icmp .ge 39, 3) := by decide +kernel
theorem dX9_rounds_109 : decode cX9_rounds 109 = .ok (.aload_n 0, 1) := by decide +kernel
theorem dX9_rounds_110 : decode cX9_rounds 110 = .ok (.iconst 1, 1) := by decide +kernel
theorem dX9_rounds_111 : decode cX9_rounds 111 = .ok (.iload_n 3, 1) := by decide +kernel
theorem dX9_rounds_112 : decode cX9_rounds 112 = .ok (.ishl, 1) := by decide +kernel
theorem dX9_rounds_113 : decode cX9_rounds 113 = .ok (.iconst 1, 1) := by decide +kernel
theorem dX9_rounds_114 : decode cX9_rounds 114 = .ok (.iload_n 2, 1) := by decide +kernel
theorem dX9_rounds_115 : decode cX9_rounds 115 = .ok (.ishl, 1) := by decide +kernel
theorem dX9_rounds_116 : decode cX9_rounds 116 = .ok (.ior, 1) := by decide +kernel
theorem dX9_rounds_117 : decode cX9_rounds 117 = .ok (.iconst 1, 1) := by decide +kernel
theorem dX9_rounds_118 : decode cX9_rounds 118 = .ok (.iload_n 1, 1) := by decide +kernel
theorem dX9_rounds_119 : decode cX9_rounds 119 = .ok (.ishl, 1) := by decide +kernel
theorem dX9_rounds_120 : decode cX9_rounds 120 = .ok (.ior, 1) := by decide +kernel
theorem dX9_rounds_121 : decode cX9_rounds 121 = .ok (.invokevirtual 455, 3) := by decide +kernel
theorem dX9_rounds_124 : decode cX9_rounds 124 = .ok (.ifCond .eq 15, 3) := by decide +kernel
theorem dX9_rounds_127 : decode cX9_rounds 127 = .ok (.iconst 1, 1) := by decide +kernel
theorem dX9_rounds_128 : decode cX9_rounds 128 = .ok (.iload_n 3, 1) := by decide +kernel
theorem dX9_rounds_129 : decode cX9_rounds 129 = .ok (.ishl, 1) := by decide +kernel
theorem dX9_rounds_130 : decode cX9_rounds 130 = .ok (.iconst 1, 1) := by decide +kernel
theorem dX9_rounds_131 : decode cX9_rounds 131 = .ok (.iload_n 2, 1) := by decide +kernel
theorem dX9_rounds_132 : decode cX9_rounds 132 = .ok (.ishl, 1) := by decide +kernel
theorem dX9_rounds_133 : decode cX9_rounds 133 = .ok (.ior, 1) := by decide +kernel
theorem dX9_rounds_134 : decode cX9_rounds 134 = .ok (.iconst 1, 1) := by decide +kernel
theorem dX9_rounds_135 : decode cX9_rounds 135 = .ok (.iload_n 1, 1) := by decide +kernel
theorem dX9_rounds_136 : decode cX9_rounds 136 = .ok (.ishl, 1) := by decide +kernel
theorem dX9_rounds_137 : decode cX9_rounds 137 = .ok (.ior, 1) := by decide +kernel
theorem dX9_rounds_138 : decode cX9_rounds 138 = .ok (.ireturn, 1) := by decide +kernel
theorem dX9_rounds_139 : decode cX9_rounds 139 = .ok (.iinc 3 1, 3) := by decide +kernel
theorem dX9_rounds_142 : decode cX9_rounds 142 = .ok (.goto (-38), 3) := by decide +kernel
theorem dX9_rounds_145 : decode cX9_rounds 145 = .ok (.iinc 2 1, 3) := by decide +kernel
theorem dX9_rounds_148 : decode cX9_rounds 148 = .ok (.goto (-51), 3) := by decide +kernel
theorem dX9_rounds_151 : decode cX9_rounds 151 = .ok (.iinc 1 1, 3) := by decide +kernel
theorem dX9_rounds_154 : decode cX9_rounds 154 = .ok (.goto (-65), 3) := by decide +kernel
theorem dX9_rounds_157 : decode cX9_rounds 157 = .ok (.bipush 15, 2) := by decide +kernel
theorem dX9_rounds_159 : decode cX9_rounds 159 = .ok (.ireturn, 1) := by decide +kernel
def lX9_rounds_12 (F : Nat) (K40 : Int32 → Option Int32) (t : Nat) : Nat → mS → Int32 → Option Int32
  | 0, _, _ => none
  | n + 1, S0, v1 => if (20 : Int32) ≤ v1 then (K40 (0 : Int32)) else (bd (f_X9_isRound F S0 t ((1 : Int32) <<< (v1 &&& 31))) fun q1 => if q1 = true then (some ((1 : Int32) <<< (v1 &&& 31))) else (lX9_rounds_12 F K40 t n S0 (v1 + 1)))
set_option maxHeartbeats 4000000 in
set_option maxRecDepth 100000 in
theorem gX9_rounds_12 {x : mX} {F : Nat} {t : Nat} {S0 : mS}  {K40 : Int32 → Option Int32} {R : Int32} (ht : kd0 t = 9) (hK40 : ∀ (v1 : Int32) , K40 v1 = some R → mG x μX9_rounds 5 0 0 (mQe S0 (some (.int R))) 0 0 E0 S0 40 [(0, .ref (t)), (1, .int (v1))] []) : ∀ (n : Nat) (v1 : Int32), lX9_rounds_12 F K40 t n S0 v1 = some R → mG x μX9_rounds 5 0 0 (mQe S0 (some (.int R))) 0 0 E0 S0 12 [(0, .ref (t)), (1, .int (v1))] [] := by
  intro n
  induction n with
  | zero =>
    intro v1 h
    cases h
  | succ n ih =>
    intro v1 h
    unfold lX9_rounds_12 at h
    refine mG.iload_n 1 dX9_rounds_12 rfl ?_
    refine mG.bipush (v := 20) dX9_rounds_13 (by decide) ?_
    refine mG.icmp_ge 38 dX9_rounds_15 (by decide) (fun c3 => ?_) (fun c3 => ?_)
    · replace h := itp c3 h
      refine mG.iconst (v := 0) dX9_rounds_38 rfl ?_
      refine mG.istore_n (lv2 := [(1, .int 0), (0, .ref (t))]) dX9_rounds_39 rfl (by decide) rfl ?_
      refine mG.sub (lv2 := [(0, .ref (t)), (1, .int 0)]) [1, 0] rfl ?_
      exact hK40  (0 : Int32)  h
    · replace h := itn c3 h
      refine mG.aload_n 0 dX9_rounds_18 rfl ?_
      refine mG.iconst (v := 1) dX9_rounds_19 rfl ?_
      refine mG.iload_n 1 dX9_rounds_20 rfl ?_
      refine mG.ishl dX9_rounds_21 ?_
      obtain ⟨q1, hq1, h⟩ := bdp h
      refine mG.callV0 (as := [.int ((1 : Int32) <<< (v1 &&& 31))]) (st := []) (S2 := S0) (r := some (.int (bI (q1)))) dX9_rounds_22 mvX9_isRound wk58_8 rfl ht rfl (by decide) (Nat.le_of_ble_eq_true rfl) (c_X9_isRound ht hq1) ?_
      refine mG.ifz_eq (b := q1) 32 dX9_rounds_25 (by decide) (fun c2 => ?_) (fun c2 => ?_)
      · replace h := itn c2 h
        refine mG.iinc 1 (u := v1 + 1) (lv2 := [(1, .int (v1 + 1)), (0, .ref (t))]) dX9_rounds_32 rfl rfl (by decide) rfl ?_
        refine mG.goto 12 dX9_rounds_35 (by decide) ?_
        refine mG.sub (lv2 := [(0, .ref (t)), (1, .int (v1 + 1))]) [1, 0] rfl ?_
        exact ih  (v1 + 1)  h
      · replace h := itp c2 h
        refine mG.iconst (v := 1) dX9_rounds_28 rfl ?_
        refine mG.iload_n 1 dX9_rounds_29 rfl ?_
        refine mG.ishl dX9_rounds_30 ?_
        obtain rfl := Option.some.inj h
        exact mG.iret dX9_rounds_31 rfl ⟨rfl, rfl, rfl⟩
def lX9_rounds_48 (F : Nat) (K40 : Int32 → Option Int32) (t : Nat) : Nat → mS → Int32 → Int32 → Option Int32
  | 0, _, _, _ => none
  | n + 1, S0, v1, v2 => if v1 ≤ v2 then (K40 (v1 + 1)) else (bd (f_X9_isRound F S0 t (((1 : Int32) <<< (v2 &&& 31)) ||| ((1 : Int32) <<< (v1 &&& 31)))) fun q1 => if q1 = true then (some (((1 : Int32) <<< (v2 &&& 31)) ||| ((1 : Int32) <<< (v1 &&& 31)))) else (lX9_rounds_48 F K40 t n S0 v1 (v2 + 1)))
set_option maxHeartbeats 4000000 in
set_option maxRecDepth 100000 in
theorem gX9_rounds_48 {x : mX} {F : Nat} {t : Nat} {S0 : mS}  {K40 : Int32 → Option Int32} {R : Int32} (ht : kd0 t = 9) (hK40 : ∀ (v1 : Int32) , K40 v1 = some R → mG x μX9_rounds 5 0 0 (mQe S0 (some (.int R))) 0 0 E0 S0 40 [(0, .ref (t)), (1, .int (v1))] []) : ∀ (n : Nat) (v1 : Int32) (v2 : Int32), lX9_rounds_48 F K40 t n S0 v1 v2 = some R → mG x μX9_rounds 5 0 0 (mQe S0 (some (.int R))) 0 0 E0 S0 48 [(0, .ref (t)), (1, .int (v1)), (2, .int (v2))] [] := by
  intro n
  induction n with
  | zero =>
    intro v1 v2 h
    cases h
  | succ n ih =>
    intro v1 v2 h
    unfold lX9_rounds_48 at h
    refine mG.iload_n 2 dX9_rounds_48 rfl ?_
    refine mG.iload_n 1 dX9_rounds_49 rfl ?_
    refine mG.icmp_ge 81 dX9_rounds_50 (by decide) (fun c3 => ?_) (fun c3 => ?_)
    · replace h := itp c3 h
      refine mG.iinc 1 (u := v1 + 1) (lv2 := [(1, .int (v1 + 1)), (0, .ref (t)), (2, .int (v2))]) dX9_rounds_81 rfl rfl (by decide) rfl ?_
      refine mG.goto 40 dX9_rounds_84 (by decide) ?_
      refine mG.sub (lv2 := [(0, .ref (t)), (1, .int (v1 + 1))]) [1, 0] rfl ?_
      exact hK40  (v1 + 1)  h
    · replace h := itn c3 h
      refine mG.aload_n 0 dX9_rounds_53 rfl ?_
      refine mG.iconst (v := 1) dX9_rounds_54 rfl ?_
      refine mG.iload_n 2 dX9_rounds_55 rfl ?_
      refine mG.ishl dX9_rounds_56 ?_
      refine mG.iconst (v := 1) dX9_rounds_57 rfl ?_
      refine mG.iload_n 1 dX9_rounds_58 rfl ?_
      refine mG.ishl dX9_rounds_59 ?_
      refine mG.ior dX9_rounds_60 ?_
      obtain ⟨q1, hq1, h⟩ := bdp h
      refine mG.callV0 (as := [.int (((1 : Int32) <<< (v2 &&& 31)) ||| ((1 : Int32) <<< (v1 &&& 31)))]) (st := []) (S2 := S0) (r := some (.int (bI (q1)))) dX9_rounds_61 mvX9_isRound wk58_8 rfl ht rfl (by decide) (Nat.le_of_ble_eq_true rfl) (c_X9_isRound ht hq1) ?_
      refine mG.ifz_eq (b := q1) 75 dX9_rounds_64 (by decide) (fun c2 => ?_) (fun c2 => ?_)
      · replace h := itn c2 h
        refine mG.iinc 2 (u := v2 + 1) (lv2 := [(2, .int (v2 + 1)), (0, .ref (t)), (1, .int (v1))]) dX9_rounds_75 rfl rfl (by decide) rfl ?_
        refine mG.goto 48 dX9_rounds_78 (by decide) ?_
        refine mG.sub (lv2 := [(0, .ref (t)), (1, .int (v1)), (2, .int (v2 + 1))]) [1, 2, 0] rfl ?_
        exact ih  v1 (v2 + 1)  h
      · replace h := itp c2 h
        refine mG.iconst (v := 1) dX9_rounds_67 rfl ?_
        refine mG.iload_n 2 dX9_rounds_68 rfl ?_
        refine mG.ishl dX9_rounds_69 ?_
        refine mG.iconst (v := 1) dX9_rounds_70 rfl ?_
        refine mG.iload_n 1 dX9_rounds_71 rfl ?_
        refine mG.ishl dX9_rounds_72 ?_
        refine mG.ior dX9_rounds_73 ?_
        obtain rfl := Option.some.inj h
        exact mG.iret dX9_rounds_74 rfl ⟨rfl, rfl, rfl⟩
def lX9_rounds_40 (F : Nat) (K89 : Int32 → Option Int32) (t : Nat) : Nat → mS → Int32 → Option Int32
  | 0, _, _ => none
  | n + 1, S0, v1 => if (20 : Int32) ≤ v1 then (K89 (0 : Int32)) else (lX9_rounds_48 F (fun (v1 : Int32) => lX9_rounds_40 F K89 t n S0 v1) t F S0 v1 (0 : Int32))
set_option maxHeartbeats 4000000 in
set_option maxRecDepth 100000 in
theorem gX9_rounds_40 {x : mX} {F : Nat} {t : Nat} {S0 : mS}  {K89 : Int32 → Option Int32} {R : Int32} (ht : kd0 t = 9) (hK89 : ∀ (v1 : Int32) , K89 v1 = some R → mG x μX9_rounds 5 0 0 (mQe S0 (some (.int R))) 0 0 E0 S0 89 [(0, .ref (t)), (1, .int (v1))] []) : ∀ (n : Nat) (v1 : Int32), lX9_rounds_40 F K89 t n S0 v1 = some R → mG x μX9_rounds 5 0 0 (mQe S0 (some (.int R))) 0 0 E0 S0 40 [(0, .ref (t)), (1, .int (v1))] [] := by
  intro n
  induction n with
  | zero =>
    intro v1 h
    cases h
  | succ n ih =>
    intro v1 h
    unfold lX9_rounds_40 at h
    refine mG.iload_n 1 dX9_rounds_40 rfl ?_
    refine mG.bipush (v := 20) dX9_rounds_41 (by decide) ?_
    refine mG.icmp_ge 87 dX9_rounds_43 (by decide) (fun c1 => ?_) (fun c1 => ?_)
    · replace h := itp c1 h
      refine mG.iconst (v := 0) dX9_rounds_87 rfl ?_
      refine mG.istore_n (lv2 := [(1, .int 0), (0, .ref (t))]) dX9_rounds_88 rfl (by decide) rfl ?_
      refine mG.sub (lv2 := [(0, .ref (t)), (1, .int 0)]) [1, 0] rfl ?_
      exact hK89  (0 : Int32)  h
    · replace h := itn c1 h
      refine mG.iconst (v := 0) dX9_rounds_46 rfl ?_
      refine mG.istore_n (lv2 := [(2, .int 0), (0, .ref (t)), (1, .int (v1))]) dX9_rounds_47 rfl (by decide) rfl ?_
      refine mG.sub (lv2 := [(0, .ref (t)), (1, .int (v1)), (2, .int 0)]) [1, 2, 0] rfl ?_
      exact gX9_rounds_48 ht (fun v1 h => by exact ih  v1  h) F  v1 (0 : Int32)  h
def lX9_rounds_104 (F : Nat) (K97 : Int32 → Int32 → Option Int32) (t : Nat) : Nat → mS → Int32 → Int32 → Int32 → Option Int32
  | 0, _, _, _, _ => none
  | n + 1, S0, v1, v2, v3 => if v2 ≤ v3 then (K97 v1 (v2 + 1)) else (bd (f_X9_isRound F S0 t ((((1 : Int32) <<< (v3 &&& 31)) ||| ((1 : Int32) <<< (v2 &&& 31))) ||| ((1 : Int32) <<< (v1 &&& 31)))) fun q1 => if q1 = true then (some ((((1 : Int32) <<< (v3 &&& 31)) ||| ((1 : Int32) <<< (v2 &&& 31))) ||| ((1 : Int32) <<< (v1 &&& 31)))) else (lX9_rounds_104 F K97 t n S0 v1 v2 (v3 + 1)))
set_option maxHeartbeats 4000000 in
set_option maxRecDepth 100000 in
theorem gX9_rounds_104 {x : mX} {F : Nat} {t : Nat} {S0 : mS}  {K97 : Int32 → Int32 → Option Int32} {R : Int32} (ht : kd0 t = 9) (hK97 : ∀ (v1 : Int32) (v2 : Int32) , K97 v1 v2 = some R → mG x μX9_rounds 5 0 0 (mQe S0 (some (.int R))) 0 0 E0 S0 97 [(0, .ref (t)), (1, .int (v1)), (2, .int (v2))] []) : ∀ (n : Nat) (v1 : Int32) (v2 : Int32) (v3 : Int32), lX9_rounds_104 F K97 t n S0 v1 v2 v3 = some R → mG x μX9_rounds 5 0 0 (mQe S0 (some (.int R))) 0 0 E0 S0 104 [(0, .ref (t)), (1, .int (v1)), (2, .int (v2)), (3, .int (v3))] [] := by
  intro n
  induction n with
  | zero =>
    intro v1 v2 v3 h
    cases h
  | succ n ih =>
    intro v1 v2 v3 h
    unfold lX9_rounds_104 at h
    refine mG.iload_n 3 dX9_rounds_104 rfl ?_
    refine mG.iload_n 2 dX9_rounds_105 rfl ?_
    refine mG.icmp_ge 145 dX9_rounds_106 (by decide) (fun c3 => ?_) (fun c3 => ?_)
    · replace h := itp c3 h
      refine mG.iinc 2 (u := v2 + 1) (lv2 := [(2, .int (v2 + 1)), (0, .ref (t)), (1, .int (v1)), (3, .int (v3))]) dX9_rounds_145 rfl rfl (by decide) rfl ?_
      refine mG.goto 97 dX9_rounds_148 (by decide) ?_
      refine mG.sub (lv2 := [(0, .ref (t)), (1, .int (v1)), (2, .int (v2 + 1))]) [1, 2, 0] rfl ?_
      exact hK97  v1 (v2 + 1)  h
    · replace h := itn c3 h
      refine mG.aload_n 0 dX9_rounds_109 rfl ?_
      refine mG.iconst (v := 1) dX9_rounds_110 rfl ?_
      refine mG.iload_n 3 dX9_rounds_111 rfl ?_
      refine mG.ishl dX9_rounds_112 ?_
      refine mG.iconst (v := 1) dX9_rounds_113 rfl ?_
      refine mG.iload_n 2 dX9_rounds_114 rfl ?_
      refine mG.ishl dX9_rounds_115 ?_
      refine mG.ior dX9_rounds_116 ?_
      refine mG.iconst (v := 1) dX9_rounds_117 rfl ?_
      refine mG.iload_n 1 dX9_rounds_118 rfl ?_
      refine mG.ishl dX9_rounds_119 ?_
      refine mG.ior dX9_rounds_120 ?_
      obtain ⟨q1, hq1, h⟩ := bdp h
      refine mG.callV0 (as := [.int ((((1 : Int32) <<< (v3 &&& 31)) ||| ((1 : Int32) <<< (v2 &&& 31))) ||| ((1 : Int32) <<< (v1 &&& 31)))]) (st := []) (S2 := S0) (r := some (.int (bI (q1)))) dX9_rounds_121 mvX9_isRound wk58_8 rfl ht rfl (by decide) (Nat.le_of_ble_eq_true rfl) (c_X9_isRound ht hq1) ?_
      refine mG.ifz_eq (b := q1) 139 dX9_rounds_124 (by decide) (fun c2 => ?_) (fun c2 => ?_)
      · replace h := itn c2 h
        refine mG.iinc 3 (u := v3 + 1) (lv2 := [(3, .int (v3 + 1)), (0, .ref (t)), (1, .int (v1)), (2, .int (v2))]) dX9_rounds_139 rfl rfl (by decide) rfl ?_
        refine mG.goto 104 dX9_rounds_142 (by decide) ?_
        refine mG.sub (lv2 := [(0, .ref (t)), (1, .int (v1)), (2, .int (v2)), (3, .int (v3 + 1))]) [1, 2, 3, 0] rfl ?_
        exact ih  v1 v2 (v3 + 1)  h
      · replace h := itp c2 h
        refine mG.iconst (v := 1) dX9_rounds_127 rfl ?_
        refine mG.iload_n 3 dX9_rounds_128 rfl ?_
        refine mG.ishl dX9_rounds_129 ?_
        refine mG.iconst (v := 1) dX9_rounds_130 rfl ?_
        refine mG.iload_n 2 dX9_rounds_131 rfl ?_
        refine mG.ishl dX9_rounds_132 ?_
        refine mG.ior dX9_rounds_133 ?_
        refine mG.iconst (v := 1) dX9_rounds_134 rfl ?_
        refine mG.iload_n 1 dX9_rounds_135 rfl ?_
        refine mG.ishl dX9_rounds_136 ?_
        refine mG.ior dX9_rounds_137 ?_
        obtain rfl := Option.some.inj h
        exact mG.iret dX9_rounds_138 rfl ⟨rfl, rfl, rfl⟩
def lX9_rounds_97 (F : Nat) (K89 : Int32 → Option Int32) (t : Nat) : Nat → mS → Int32 → Int32 → Option Int32
  | 0, _, _, _ => none
  | n + 1, S0, v1, v2 => if v1 ≤ v2 then (K89 (v1 + 1)) else (lX9_rounds_104 F (fun (v1 : Int32) (v2 : Int32) => lX9_rounds_97 F K89 t n S0 v1 v2) t F S0 v1 v2 (0 : Int32))
set_option maxHeartbeats 4000000 in
set_option maxRecDepth 100000 in
theorem gX9_rounds_97 {x : mX} {F : Nat} {t : Nat} {S0 : mS}  {K89 : Int32 → Option Int32} {R : Int32} (ht : kd0 t = 9) (hK89 : ∀ (v1 : Int32) , K89 v1 = some R → mG x μX9_rounds 5 0 0 (mQe S0 (some (.int R))) 0 0 E0 S0 89 [(0, .ref (t)), (1, .int (v1))] []) : ∀ (n : Nat) (v1 : Int32) (v2 : Int32), lX9_rounds_97 F K89 t n S0 v1 v2 = some R → mG x μX9_rounds 5 0 0 (mQe S0 (some (.int R))) 0 0 E0 S0 97 [(0, .ref (t)), (1, .int (v1)), (2, .int (v2))] [] := by
  intro n
  induction n with
  | zero =>
    intro v1 v2 h
    cases h
  | succ n ih =>
    intro v1 v2 h
    unfold lX9_rounds_97 at h
    refine mG.iload_n 2 dX9_rounds_97 rfl ?_
    refine mG.iload_n 1 dX9_rounds_98 rfl ?_
    refine mG.icmp_ge 151 dX9_rounds_99 (by decide) (fun c1 => ?_) (fun c1 => ?_)
    · replace h := itp c1 h
      refine mG.iinc 1 (u := v1 + 1) (lv2 := [(1, .int (v1 + 1)), (0, .ref (t)), (2, .int (v2))]) dX9_rounds_151 rfl rfl (by decide) rfl ?_
      refine mG.goto 89 dX9_rounds_154 (by decide) ?_
      refine mG.sub (lv2 := [(0, .ref (t)), (1, .int (v1 + 1))]) [1, 0] rfl ?_
      exact hK89  (v1 + 1)  h
    · replace h := itn c1 h
      refine mG.iconst (v := 0) dX9_rounds_102 rfl ?_
      refine mG.istore_n (lv2 := [(3, .int 0), (0, .ref (t)), (1, .int (v1)), (2, .int (v2))]) dX9_rounds_103 rfl (by decide) rfl ?_
      refine mG.sub (lv2 := [(0, .ref (t)), (1, .int (v1)), (2, .int (v2)), (3, .int 0)]) [1, 2, 3, 0] rfl ?_
      exact gX9_rounds_104 ht (fun v1 v2 h => by exact ih  v1 v2  h) F  v1 v2 (0 : Int32)  h
def lX9_rounds_89 (F : Nat)  (t : Nat) : Nat → mS → Int32 → Option Int32
  | 0, _, _ => none
  | n + 1, S0, v1 => if (20 : Int32) ≤ v1 then (some (15 : Int32)) else (lX9_rounds_97 F (fun (v1 : Int32) => lX9_rounds_89 F  t n S0 v1) t F S0 v1 (0 : Int32))
set_option maxHeartbeats 4000000 in
set_option maxRecDepth 100000 in
theorem gX9_rounds_89 {x : mX} {F : Nat} {t : Nat} {S0 : mS}   {R : Int32} (ht : kd0 t = 9)  : ∀ (n : Nat) (v1 : Int32), lX9_rounds_89 F  t n S0 v1 = some R → mG x μX9_rounds 5 0 0 (mQe S0 (some (.int R))) 0 0 E0 S0 89 [(0, .ref (t)), (1, .int (v1))] [] := by
  intro n
  induction n with
  | zero =>
    intro v1 h
    cases h
  | succ n ih =>
    intro v1 h
    unfold lX9_rounds_89 at h
    refine mG.iload_n 1 dX9_rounds_89 rfl ?_
    refine mG.bipush (v := 20) dX9_rounds_90 (by decide) ?_
    refine mG.icmp_ge 157 dX9_rounds_92 (by decide) (fun c1 => ?_) (fun c1 => ?_)
    · replace h := itp c1 h
      refine mG.bipush (v := 15) dX9_rounds_157 (by decide) ?_
      obtain rfl := Option.some.inj h
      exact mG.iret dX9_rounds_159 rfl ⟨rfl, rfl, rfl⟩
    · replace h := itn c1 h
      refine mG.iconst (v := 0) dX9_rounds_95 rfl ?_
      refine mG.istore_n (lv2 := [(2, .int 0), (0, .ref (t)), (1, .int (v1))]) dX9_rounds_96 rfl (by decide) rfl ?_
      refine mG.sub (lv2 := [(0, .ref (t)), (1, .int (v1)), (2, .int 0)]) [1, 2, 0] rfl ?_
      exact gX9_rounds_97 ht (fun v1 h => by exact ih  v1  h) F  v1 (0 : Int32)  h
def f_X9_rounds (F : Nat) (S0 : mS) (t : Nat) : Option Int32 := bd (f_X9_isRound F S0 t (0 : Int32)) fun q1 => if q1 = true then (some (0 : Int32)) else (lX9_rounds_12 F (fun (v1 : Int32) => lX9_rounds_40 F (fun (v1 : Int32) => lX9_rounds_89 F  t F S0 v1) t F S0 v1) t F S0 (0 : Int32))
set_option maxHeartbeats 4000000 in
set_option maxRecDepth 100000 in
theorem c_X9_rounds {F : Nat} {S0 : mS} {t : Nat} {R : Int32} (ht : kd0 t = 9) (h : f_X9_rounds F S0 t = some R) : mCt μX9_rounds 5 0 0 E0 S0 [.ref (t)] (mQe S0 (some (.int R))) := by
  unfold f_X9_rounds at h
  refine mCt.of (by decide) (Nat.le_of_ble_eq_true rfl) ?_
  intro x
  refine mG.aload_n 0 dX9_rounds_0 rfl ?_
  refine mG.iconst (v := 0) dX9_rounds_1 rfl ?_
  obtain ⟨q1, hq1, h⟩ := bdp h
  refine mG.callV0 (as := [.int 0]) (st := []) (S2 := S0) (r := some (.int (bI (q1)))) dX9_rounds_2 mvX9_isRound wk58_8 rfl ht rfl (by decide) (Nat.le_of_ble_eq_true rfl) (c_X9_isRound ht hq1) ?_
  refine mG.ifz_eq (b := q1) 10 dX9_rounds_5 (by decide) (fun c2 => ?_) (fun c2 => ?_)
  · replace h := itn c2 h
    refine mG.iconst (v := 0) dX9_rounds_10 rfl ?_
    refine mG.istore_n (lv2 := [(1, .int 0), (0, .ref (t))]) dX9_rounds_11 rfl (by decide) rfl ?_
    refine mG.sub (lv2 := [(0, .ref (t)), (1, .int 0)]) [1, 0] rfl ?_
    exact gX9_rounds_12 ht (fun v1 h => by exact gX9_rounds_40 ht (fun v1 h => by exact gX9_rounds_89 ht  F  v1  h) F  v1  h) F  (0 : Int32)  h
  · replace h := itp c2 h
    refine mG.iconst (v := 0) dX9_rounds_8 rfl ?_
    obtain rfl := Option.some.inj h
    exact mG.iret dX9_rounds_9 rfl ⟨rfl, rfl, rfl⟩
theorem dX9_sharedNow_0 : decode cX9_sharedNow 0 = .ok (.iconst 0, 1) := by decide +kernel
theorem dX9_sharedNow_1 : decode cX9_sharedNow 1 = .ok (.istore_n 1, 1) := by decide +kernel
theorem dX9_sharedNow_2 : decode cX9_sharedNow 2 = .ok (.iconst 0, 1) := by decide +kernel
theorem dX9_sharedNow_3 : decode cX9_sharedNow 3 = .ok (.istore_n 2, 1) := by decide +kernel
theorem dX9_sharedNow_4 : decode cX9_sharedNow 4 = .ok (.iload_n 2, 1) := by decide +kernel
theorem dX9_sharedNow_5 : decode cX9_sharedNow 5 = .ok (.aload_n 0, 1) := by decide +kernel
theorem dX9_sharedNow_6 : decode cX9_sharedNow 6 = .ok (.getfield 7, 3) := by decide +kernel
theorem dX9_sharedNow_9 : decode cX9_sharedNow 9 = .ok (.iconst 0, 1) := by decide +kernel
theorem dX9_sharedNow_10 : decode cX9_sharedNow 10 = .ok (.iaload, 1) := by decide +kernel
theorem dX9_sharedNow_11 : decode cX9_sharedNow 11 = .ok (.if_icmp .ge 47, 3) := by decide +kernel
theorem dX9_sharedNow_14 : decode cX9_sharedNow 14 = .ok (.iload_n 1, 1) := by decide +kernel
theorem dX9_sharedNow_15 : decode cX9_sharedNow 15 = .ok (.aload_n 0, 1) := by decide +kernel
theorem dX9_sharedNow_16 : decode cX9_sharedNow 16 = .ok (.getfield 55, 3) := by decide +kernel
theorem dX9_sharedNow_19 : decode cX9_sharedNow 19 = .ok (.iload_n 2, 1) := by decide +kernel
theorem dX9_sharedNow_20 : decode cX9_sharedNow 20 = .ok (.iaload, 1) := by decide +kernel
theorem dX9_sharedNow_21 : decode cX9_sharedNow 21 = .ok (.iload_n 2, 1) := by decide +kernel
theorem dX9_sharedNow_22 : decode cX9_sharedNow 22 = .ok (.if_icmp .le 27, 3) := by decide +kernel
theorem dX9_sharedNow_25 : decode cX9_sharedNow 25 = .ok (.aload_n 0, 1) := by decide +kernel
theorem dX9_sharedNow_26 : decode cX9_sharedNow 26 = .ok (.iload_n 2, 1) := by decide +kernel
theorem dX9_sharedNow_27 : decode cX9_sharedNow 27 = .ok (.iconst 0, 1) := by decide +kernel
theorem dX9_sharedNow_28 : decode cX9_sharedNow 28 = .ok (.invokevirtual 73, 3) := by decide +kernel
theorem dX9_sharedNow_31 : decode cX9_sharedNow 31 = .ok (.aload_n 0, 1) := by decide +kernel
theorem dX9_sharedNow_32 : decode cX9_sharedNow 32 = .ok (.aload_n 0, 1) := by decide +kernel
theorem dX9_sharedNow_33 : decode cX9_sharedNow 33 = .ok (.getfield 55, 3) := by decide +kernel
theorem dX9_sharedNow_36 : decode cX9_sharedNow 36 = .ok (.iload_n 2, 1) := by decide +kernel
theorem dX9_sharedNow_37 : decode cX9_sharedNow 37 = .ok (.iaload, 1) := by decide +kernel
theorem dX9_sharedNow_38 : decode cX9_sharedNow 38 = .ok (.iconst 0, 1) := by decide +kernel
theorem dX9_sharedNow_39 : decode cX9_sharedNow 39 = .ok (.invokevirtual 73, 3) := by decide +kernel
theorem dX9_sharedNow_42 : decode cX9_sharedNow 42 = .ok (.iand, 1) := by decide +kernel
theorem dX9_sharedNow_43 : decode cX9_sharedNow 43 = .ok (.invokestatic 305, 3) := by decide +kernel
theorem dX9_sharedNow_46 : decode cX9_sharedNow 46 = .ok (.goto 4, 3) := by decide +kernel
theorem dX9_sharedNow_49 : decode cX9_sharedNow 49 = .ok (.iconst 0, 1) := by decide +kernel
theorem dX9_sharedNow_50 : decode cX9_sharedNow 50 = .ok (.iadd, 1) := by decide +kernel
theorem dX9_sharedNow_51 : decode cX9_sharedNow 51 = .ok (.istore_n 1, 1) := by decide +kernel
theorem dX9_sharedNow_52 : decode cX9_sharedNow 52 = .ok (.iinc 2 1, 3) := by decide +kernel
theorem dX9_sharedNow_55 : decode cX9_sharedNow 55 = .ok (.goto (-51), 3) := by decide +kernel
theorem dX9_sharedNow_58 : decode cX9_sharedNow 58 = .ok (.iload_n 1, 1) := by decide +kernel
theorem dX9_sharedNow_59 : decode cX9_sharedNow 59 = .ok (.ireturn, 1) := by decide +kernel
def lX9_sharedNow_4 (F : Nat)  (t : Nat) : Nat → mS → Int32 → Int32 → Option Int32
  | 0, _, _, _ => none
  | n + 1, S0, v1, v2 => ck (inb (0 : Int32) 2308) (if (S0.1 (t + 1) (0 : Int32).toNatClampNeg) ≤ v2 then (some v1) else (ck (inb v2 7) (if (S0.1 (t + 13) v2.toNatClampNeg) ≤ v2 then (lX9_sharedNow_4 F  t n S0 (v1 + (0 : Int32)) (v2 + 1)) else (bd (f_X9_get F S0 t v2 (0 : Int32)) fun q3 => ck (inb v2 7) (bd (f_X9_get F S0 t (S0.1 (t + 13) v2.toNatClampNeg) (0 : Int32)) fun q5 => bd (f_X9_bits F S0 (q3 &&& q5)) fun q6 => lX9_sharedNow_4 F  t n S0 (v1 + q6) (v2 + 1))))))
set_option maxHeartbeats 4000000 in
set_option maxRecDepth 100000 in
theorem gX9_sharedNow_4 {x : mX} {F : Nat} {t : Nat} {S0 : mS}   {R : Int32} (ht : kd0 t = 9)  : ∀ (n : Nat) (v1 : Int32) (v2 : Int32), lX9_sharedNow_4 F  t n S0 v1 v2 = some R → mG x μX9_sharedNow 2 0 0 (mQe S0 (some (.int R))) 0 0 E0 S0 4 [(0, .ref (t)), (1, .int (v1)), (2, .int (v2))] [] := by
  intro n
  induction n with
  | zero =>
    intro v1 v2 h
    cases h
  | succ n ih =>
    intro v1 v2 h
    unfold lX9_sharedNow_4 at h
    refine mG.iload_n 2 dX9_sharedNow_4 rfl ?_
    refine mG.aload_n 0 dX9_sharedNow_5 rfl ?_
    refine mG.get (v := .ref (t + 1)) dX9_sharedNow_6 mfX9_7 ht (lr9_a ht) ?_
    refine mG.iconst (v := 0) dX9_sharedNow_9 rfl ?_
    obtain ⟨b1, h⟩ := ckp h
    refine mG.iald dX9_sharedNow_10 (lk9_a ht) (ll9_a ht) (inbp b1) ?_
    refine mG.icmp_ge 58 dX9_sharedNow_11 (by decide) (fun c8 => ?_) (fun c8 => ?_)
    · replace h := itp c8 h
      refine mG.iload_n 1 dX9_sharedNow_58 rfl ?_
      obtain rfl := Option.some.inj h
      exact mG.iret dX9_sharedNow_59 rfl ⟨rfl, rfl, rfl⟩
    · replace h := itn c8 h
      refine mG.iload_n 1 dX9_sharedNow_14 rfl ?_
      refine mG.aload_n 0 dX9_sharedNow_15 rfl ?_
      refine mG.get (v := .ref (t + 13)) dX9_sharedNow_16 mfX9_55 ht (lr9_mate ht) ?_
      refine mG.iload_n 2 dX9_sharedNow_19 rfl ?_
      obtain ⟨b2, h⟩ := ckp h
      refine mG.iald dX9_sharedNow_20 (lk9_mate ht) (ll9_mate ht) (inbp b2) ?_
      refine mG.iload_n 2 dX9_sharedNow_21 rfl ?_
      refine mG.icmp_le 49 dX9_sharedNow_22 (by decide) (fun c7 => ?_) (fun c7 => ?_)
      · replace h := itp c7 h
        refine mG.iconst (v := 0) dX9_sharedNow_49 rfl ?_
        refine mG.iadd dX9_sharedNow_50 ?_
        refine mG.istore_n (lv2 := [(1, .int (v1 + (0 : Int32))), (0, .ref (t)), (2, .int (v2))]) dX9_sharedNow_51 rfl (by decide) rfl ?_
        refine mG.iinc 2 (u := v2 + 1) (lv2 := [(2, .int (v2 + 1)), (1, .int (v1 + (0 : Int32))), (0, .ref (t))]) dX9_sharedNow_52 rfl rfl (by decide) rfl ?_
        refine mG.goto 4 dX9_sharedNow_55 (by decide) ?_
        refine mG.sub (lv2 := [(0, .ref (t)), (1, .int (v1 + (0 : Int32))), (2, .int (v2 + 1))]) [2, 1, 0] rfl ?_
        exact ih  (v1 + (0 : Int32)) (v2 + 1)  h
      · replace h := itn c7 h
        refine mG.aload_n 0 dX9_sharedNow_25 rfl ?_
        refine mG.iload_n 2 dX9_sharedNow_26 rfl ?_
        refine mG.iconst (v := 0) dX9_sharedNow_27 rfl ?_
        obtain ⟨q3, hq3, h⟩ := bdp h
        refine mG.callV0 (as := [.int (v2), .int 0]) (st := [.int (v1)]) (S2 := S0) (r := some (.int (q3))) dX9_sharedNow_28 mvX9_get wk7_23 rfl ht rfl (by decide) (Nat.le_of_ble_eq_true rfl) (c_X9_get ht hq3) ?_
        refine mG.aload_n 0 dX9_sharedNow_31 rfl ?_
        refine mG.aload_n 0 dX9_sharedNow_32 rfl ?_
        refine mG.get (v := .ref (t + 13)) dX9_sharedNow_33 mfX9_55 ht (lr9_mate ht) ?_
        refine mG.iload_n 2 dX9_sharedNow_36 rfl ?_
        obtain ⟨b4, h⟩ := ckp h
        refine mG.iald dX9_sharedNow_37 (lk9_mate ht) (ll9_mate ht) (inbp b4) ?_
        refine mG.iconst (v := 0) dX9_sharedNow_38 rfl ?_
        obtain ⟨q5, hq5, h⟩ := bdp h
        refine mG.callV0 (as := [.int (S0.1 (t + 13) v2.toNatClampNeg), .int 0]) (st := [.int (q3), .int (v1)]) (S2 := S0) (r := some (.int (q5))) dX9_sharedNow_39 mvX9_get wk7_23 rfl ht rfl (by decide) (Nat.le_of_ble_eq_true rfl) (c_X9_get ht hq5) ?_
        refine mG.iand dX9_sharedNow_42 ?_
        obtain ⟨q6, hq6, h⟩ := bdp h
        refine mG.callS0 (as := [.int (q3 &&& q5)]) (st := [.int (v1)]) (S2 := S0) (r := some (.int (q6))) dX9_sharedNow_43 mbX9_bits wk34_9 wk34_8 rfl rfl (by decide) (Nat.le_of_ble_eq_true rfl) (c_X9_bits  hq6) ?_
        refine mG.goto 50 dX9_sharedNow_46 (by decide) ?_
        refine mG.iadd dX9_sharedNow_50 ?_
        refine mG.istore_n (lv2 := [(1, .int (v1 + q6)), (0, .ref (t)), (2, .int (v2))]) dX9_sharedNow_51 rfl (by decide) rfl ?_
        refine mG.iinc 2 (u := v2 + 1) (lv2 := [(2, .int (v2 + 1)), (1, .int (v1 + q6)), (0, .ref (t))]) dX9_sharedNow_52 rfl rfl (by decide) rfl ?_
        refine mG.goto 4 dX9_sharedNow_55 (by decide) ?_
        refine mG.sub (lv2 := [(0, .ref (t)), (1, .int (v1 + q6)), (2, .int (v2 + 1))]) [2, 1, 0] rfl ?_
        exact ih  (v1 + q6) (v2 + 1)  h
def f_X9_sharedNow (F : Nat) (S0 : mS) (t : Nat) : Option Int32 := lX9_sharedNow_4 F  t F S0 (0 : Int32) (0 : Int32)
set_option maxHeartbeats 4000000 in
set_option maxRecDepth 100000 in
theorem c_X9_sharedNow {F : Nat} {S0 : mS} {t : Nat} {R : Int32} (ht : kd0 t = 9) (h : f_X9_sharedNow F S0 t = some R) : mCt μX9_sharedNow 2 0 0 E0 S0 [.ref (t)] (mQe S0 (some (.int R))) := by
  unfold f_X9_sharedNow at h
  refine mCt.of (by decide) (Nat.le_of_ble_eq_true rfl) ?_
  intro x
  refine mG.iconst (v := 0) dX9_sharedNow_0 rfl ?_
  refine mG.istore_n (lv2 := [(1, .int 0), (0, .ref (t))]) dX9_sharedNow_1 rfl (by decide) rfl ?_
  refine mG.iconst (v := 0) dX9_sharedNow_2 rfl ?_
  refine mG.istore_n (lv2 := [(2, .int 0), (1, .int 0), (0, .ref (t))]) dX9_sharedNow_3 rfl (by decide) rfl ?_
  refine mG.sub (lv2 := [(0, .ref (t)), (1, .int 0), (2, .int 0)]) [2, 1, 0] rfl ?_
  exact gX9_sharedNow_4 ht  F  (0 : Int32) (0 : Int32)  h
theorem dX9_nextMate_0 : decode cX9_nextMate 0 = .ok (.iload_n 2, 1) := by decide +kernel
theorem dX9_nextMate_1 : decode cX9_nextMate 1 = .ok (.iconst (-1), 1) := by decide +kernel
theorem dX9_nextMate_2 : decode cX9_nextMate 2 = .ok (.if_icmp .ne 9, 3) := by decide +kernel
theorem dX9_nextMate_5 : decode cX9_nextMate 5 = .ok (.iload_n 1, 1) := by decide +kernel
theorem dX9_nextMate_6 : decode cX9_nextMate 6 = .ok (.iconst 1, 1) := by decide +kernel
theorem dX9_nextMate_7 : decode cX9_nextMate 7 = .ok (.iadd, 1) := by decide +kernel
theorem dX9_nextMate_8 : decode cX9_nextMate 8 = .ok (.goto 6, 3) := by decide +kernel
theorem dX9_nextMate_11 : decode cX9_nextMate 11 = .ok (.iload_n 2, 1) := by decide +kernel
theorem dX9_nextMate_12 : decode cX9_nextMate 12 = .ok (.iconst 1, 1) := by decide +kernel
theorem dX9_nextMate_13 : decode cX9_nextMate 13 = .ok (.iadd, 1) := by decide +kernel
theorem dX9_nextMate_14 : decode cX9_nextMate 14 = .ok (.istore_n 3, 1) := by decide +kernel
theorem dX9_nextMate_15 : decode cX9_nextMate 15 = .ok (.iload_n 3, 1) := by decide +kernel
theorem dX9_nextMate_16 : decode cX9_nextMate 16 = .ok (.aload_n 0, 1) := by decide +kernel
theorem dX9_nextMate_17 : decode cX9_nextMate 17 = .ok (.getfield 7, 3) := by decide +kernel
theorem dX9_nextMate_20 : decode cX9_nextMate 20 = .ok (.iconst 0, 1) := by decide +kernel
theorem dX9_nextMate_21 : decode cX9_nextMate 21 = .ok (.iaload, 1) := by decide +kernel
theorem dX9_nextMate_22 : decode cX9_nextMate 22 = .ok (.if_icmp .ge 27, 3) := by decide +kernel
theorem dX9_nextMate_25 : decode cX9_nextMate 25 = .ok (.aload_n 0, 1) := by decide +kernel
theorem dX9_nextMate_26 : decode cX9_nextMate 26 = .ok (.iload_n 3, 1) := by decide +kernel
theorem dX9_nextMate_27 : decode cX9_nextMate 27 = .ok (.invokevirtual 77, 3) := by decide +kernel
theorem dX9_nextMate_30 : decode cX9_nextMate 30 = .ok (.ifCond .eq 13, 3) := by decide +kernel
theorem dX9_nextMate_33 : decode cX9_nextMate 33 = .ok (.aload_n 0, 1) := by decide +kernel
theorem dX9_nextMate_34 : decode cX9_nextMate 34 = .ok (.getfield 55, 3) := by decide +kernel
theorem dX9_nextMate_37 : decode cX9_nextMate 37 = .ok (.iload_n 3, 1) := by decide +kernel
theorem dX9_nextMate_38 : decode cX9_nextMate 38 = .ok (.iaload, 1) := by decide +kernel
theorem dX9_nextMate_39 : decode cX9_nextMate 39 = .ok (.iconst (-1), 1) := by decide +kernel
theorem dX9_nextMate_40 : decode cX9_nextMate 40 = .ok (.if_icmp .eq 9, 3) := by decide +kernel
theorem dX9_nextMate_43 : decode cX9_nextMate 43 = .ok (.iinc 3 1, 3) := by decide +kernel
theorem dX9_nextMate_46 : decode cX9_nextMate 46 = .ok (.goto (-31), 3) := by decide +kernel
theorem dX9_nextMate_49 : decode cX9_nextMate 49 = .ok (.iload_n 3, 1) := by decide +kernel
theorem dX9_nextMate_50 : decode cX9_nextMate 50 = .ok (.aload_n 0, 1) := by decide +kernel
theorem dX9_nextMate_51 : decode cX9_nextMate 51 = .ok (.getfield 7, 3) := by decide +kernel
theorem dX9_nextMate_54 : decode cX9_nextMate 54 = .ok (.iconst 0, 1) := by decide +kernel
theorem dX9_nextMate_55 : decode cX9_nextMate 55 = .ok (.iaload, 1) := by decide +kernel
theorem dX9_nextMate_56 : decode cX9_nextMate 56 = .ok (.if_icmp .ge 7, 3) := by decide +kernel
theorem dX9_nextMate_59 : decode cX9_nextMate 59 = .ok (.iload_n 3, 1) := by decide +kernel
theorem dX9_nextMate_60 : decode cX9_nextMate 60 = .ok (.goto 4, 3) := by decide +kernel
theorem dX9_nextMate_63 : decode cX9_nextMate 63 = .ok (.iconst (-1), 1) := by decide +kernel
theorem dX9_nextMate_64 : decode cX9_nextMate 64 = .ok (.ireturn, 1) := by decide +kernel
def lX9_nextMate_15 (F : Nat)  (t : Nat) (a1 : Int32) (a2 : Int32) : Nat → mS → Int32 → Option Int32
  | 0, _, _ => none
  | n + 1, S0, v3 => ck (inb (0 : Int32) 2308) (if (S0.1 (t + 1) (0 : Int32).toNatClampNeg) ≤ v3 then (ck (inb (0 : Int32) 2308) (if (S0.1 (t + 1) (0 : Int32).toNatClampNeg) ≤ v3 then (some (-1 : Int32)) else (some v3))) else (bd (f_X9_isHere F S0 t v3) fun q4 => if q4 = true then (ck (inb v3 7) (if (S0.1 (t + 13) v3.toNatClampNeg) = (-1 : Int32) then (ck (inb (0 : Int32) 2308) (if (S0.1 (t + 1) (0 : Int32).toNatClampNeg) ≤ v3 then (some (-1 : Int32)) else (some v3))) else (lX9_nextMate_15 F  t a1 a2 n S0 (v3 + 1)))) else (lX9_nextMate_15 F  t a1 a2 n S0 (v3 + 1))))
set_option maxHeartbeats 4000000 in
set_option maxRecDepth 100000 in
theorem gX9_nextMate_15 {x : mX} {F : Nat} {t : Nat} {a1 : Int32} {a2 : Int32} {S0 : mS}   {R : Int32} (ht : kd0 t = 9)  : ∀ (n : Nat) (v3 : Int32), lX9_nextMate_15 F  t a1 a2 n S0 v3 = some R → mG x μX9_nextMate 4 0 0 (mQe S0 (some (.int R))) 0 0 E0 S0 15 [(0, .ref (t)), (3, .int (v3))] [] := by
  intro n
  induction n with
  | zero =>
    intro v3 h
    cases h
  | succ n ih =>
    intro v3 h
    unfold lX9_nextMate_15 at h
    refine mG.iload_n 1 dX9_nextMate_15 rfl ?_
    refine mG.aload_n 0 dX9_nextMate_16 rfl ?_
    refine mG.get (v := .ref (t + 1)) dX9_nextMate_17 mfX9_7 ht (lr9_a ht) ?_
    refine mG.iconst (v := 0) dX9_nextMate_20 rfl ?_
    obtain ⟨b1, h⟩ := ckp h
    refine mG.iald dX9_nextMate_21 (lk9_a ht) (ll9_a ht) (inbp b1) ?_
    refine mG.icmp_ge 49 dX9_nextMate_22 (by decide) (fun c10 => ?_) (fun c10 => ?_)
    · replace h := itp c10 h
      refine mG.iload_n 1 dX9_nextMate_49 rfl ?_
      refine mG.aload_n 0 dX9_nextMate_50 rfl ?_
      refine mG.get (v := .ref (t + 1)) dX9_nextMate_51 mfX9_7 ht (lr9_a ht) ?_
      refine mG.iconst (v := 0) dX9_nextMate_54 rfl ?_
      obtain ⟨b2, h⟩ := ckp h
      refine mG.iald dX9_nextMate_55 (lk9_a ht) (ll9_a ht) (inbp b2) ?_
      refine mG.icmp_ge 63 dX9_nextMate_56 (by decide) (fun c3 => ?_) (fun c3 => ?_)
      · replace h := itp c3 h
        refine mG.iconst (v := (-1)) dX9_nextMate_63 rfl ?_
        obtain rfl := Option.some.inj h
        exact mG.iret dX9_nextMate_64 rfl ⟨rfl, rfl, rfl⟩
      · replace h := itn c3 h
        refine mG.iload_n 1 dX9_nextMate_59 rfl ?_
        refine mG.goto 64 dX9_nextMate_60 (by decide) ?_
        obtain rfl := Option.some.inj h
        exact mG.iret dX9_nextMate_64 rfl ⟨rfl, rfl, rfl⟩
    · replace h := itn c10 h
      refine mG.aload_n 0 dX9_nextMate_25 rfl ?_
      refine mG.iload_n 1 dX9_nextMate_26 rfl ?_
      obtain ⟨q4, hq4, h⟩ := bdp h
      refine mG.callV0 (as := [.int (v3)]) (st := []) (S2 := S0) (r := some (.int (bI (q4)))) dX9_nextMate_27 mvX9_isHere wk32_20 rfl ht rfl (by decide) (Nat.le_of_ble_eq_true rfl) (c_X9_isHere ht hq4) ?_
      refine mG.ifz_eq (b := q4) 43 dX9_nextMate_30 (by decide) (fun c9 => ?_) (fun c9 => ?_)
      · replace h := itn c9 h
        refine mG.iinc 1 (u := v3 + 1) (lv2 := [(3, .int (v3 + 1)), (0, .ref (t))]) dX9_nextMate_43 rfl rfl (by decide) rfl ?_
        refine mG.goto 15 dX9_nextMate_46 (by decide) ?_
        refine mG.sub (lv2 := [(0, .ref (t)), (3, .int (v3 + 1))]) [1, 0] rfl ?_
        exact ih  (v3 + 1)  h
      · replace h := itp c9 h
        refine mG.aload_n 0 dX9_nextMate_33 rfl ?_
        refine mG.get (v := .ref (t + 13)) dX9_nextMate_34 mfX9_55 ht (lr9_mate ht) ?_
        refine mG.iload_n 1 dX9_nextMate_37 rfl ?_
        obtain ⟨b5, h⟩ := ckp h
        refine mG.iald dX9_nextMate_38 (lk9_mate ht) (ll9_mate ht) (inbp b5) ?_
        refine mG.iconst (v := (-1)) dX9_nextMate_39 rfl ?_
        refine mG.icmp_eq 49 dX9_nextMate_40 (by decide) (fun c8 => ?_) (fun c8 => ?_)
        · replace h := itp c8 h
          refine mG.iload_n 1 dX9_nextMate_49 rfl ?_
          refine mG.aload_n 0 dX9_nextMate_50 rfl ?_
          refine mG.get (v := .ref (t + 1)) dX9_nextMate_51 mfX9_7 ht (lr9_a ht) ?_
          refine mG.iconst (v := 0) dX9_nextMate_54 rfl ?_
          obtain ⟨b6, h⟩ := ckp h
          refine mG.iald dX9_nextMate_55 (lk9_a ht) (ll9_a ht) (inbp b6) ?_
          refine mG.icmp_ge 63 dX9_nextMate_56 (by decide) (fun c7 => ?_) (fun c7 => ?_)
          · replace h := itp c7 h
            refine mG.iconst (v := (-1)) dX9_nextMate_63 rfl ?_
            obtain rfl := Option.some.inj h
            exact mG.iret dX9_nextMate_64 rfl ⟨rfl, rfl, rfl⟩
          · replace h := itn c7 h
            refine mG.iload_n 1 dX9_nextMate_59 rfl ?_
            refine mG.goto 64 dX9_nextMate_60 (by decide) ?_
            obtain rfl := Option.some.inj h
            exact mG.iret dX9_nextMate_64 rfl ⟨rfl, rfl, rfl⟩
        · replace h := itn c8 h
          refine mG.iinc 1 (u := v3 + 1) (lv2 := [(3, .int (v3 + 1)), (0, .ref (t))]) dX9_nextMate_43 rfl rfl (by decide) rfl ?_
          refine mG.goto 15 dX9_nextMate_46 (by decide) ?_
          refine mG.sub (lv2 := [(0, .ref (t)), (3, .int (v3 + 1))]) [1, 0] rfl ?_
          exact ih  (v3 + 1)  h
def f_X9_nextMate (F : Nat) (S0 : mS) (t : Nat) (a1 : Int32) (a2 : Int32) : Option Int32 := if a2 = (-1 : Int32) then (lX9_nextMate_15 F  t a1 a2 F S0 (a1 + (1 : Int32))) else (lX9_nextMate_15 F  t a1 a2 F S0 (a2 + (1 : Int32)))
set_option maxHeartbeats 4000000 in
set_option maxRecDepth 100000 in
theorem c_X9_nextMate {F : Nat} {S0 : mS} {t : Nat} {a1 : Int32} {a2 : Int32} {R : Int32} (ht : kd0 t = 9) (h : f_X9_nextMate F S0 t a1 a2 = some R) : mCt μX9_nextMate 4 0 0 E0 S0 [.ref (t), .int (a1), .int (a2)] (mQe S0 (some (.int R))) := by
  unfold f_X9_nextMate at h
  refine mCt.of (by decide) (Nat.le_of_ble_eq_true rfl) ?_
  intro x
  refine mG.iload_n 2 dX9_nextMate_0 rfl ?_
  refine mG.iconst (v := (-1)) dX9_nextMate_1 rfl ?_
  refine mG.icmp_ne 11 dX9_nextMate_2 (by decide) (fun c1 => ?_) (fun c1 => ?_)
  · replace h := itn c1 h
    refine mG.iload_n 2 dX9_nextMate_11 rfl ?_
    refine mG.iconst (v := 1) dX9_nextMate_12 rfl ?_
    refine mG.iadd dX9_nextMate_13 ?_
    refine mG.istore_n (lv2 := [(3, .int (a2 + (1 : Int32))), (0, .ref (t)), (1, .int (a1)), (2, .int (a2))]) dX9_nextMate_14 rfl (by decide) rfl ?_
    refine mG.sub (lv2 := [(0, .ref (t)), (3, .int (a2 + (1 : Int32)))]) [1, 0] rfl ?_
    exact gX9_nextMate_15 ht  F  (a2 + (1 : Int32))  h
  · replace h := itp c1 h
    refine mG.iload_n 1 dX9_nextMate_5 rfl ?_
    refine mG.iconst (v := 1) dX9_nextMate_6 rfl ?_
    refine mG.iadd dX9_nextMate_7 ?_
    refine mG.goto 14 dX9_nextMate_8 (by decide) ?_
    refine mG.istore_n (lv2 := [(3, .int (a1 + (1 : Int32))), (0, .ref (t)), (1, .int (a1)), (2, .int (a2))]) dX9_nextMate_14 rfl (by decide) rfl ?_
    refine mG.sub (lv2 := [(0, .ref (t)), (3, .int (a1 + (1 : Int32)))]) [1, 0] rfl ?_
    exact gX9_nextMate_15 ht  F  (a1 + (1 : Int32))  h
theorem dX9_nextRow_0 : decode cX9_nextRow 0 = .ok (.aload_n 0, 1) := by decide +kernel
theorem dX9_nextRow_1 : decode cX9_nextRow 1 = .ok (.getfield 7, 3) := by decide +kernel
theorem dX9_nextRow_4 : decode cX9_nextRow 4 = .ok (.iconst 0, 1) := by decide +kernel
theorem dX9_nextRow_5 : decode cX9_nextRow 5 = .ok (.iaload, 1) := by decide +kernel
theorem dX9_nextRow_6 : decode cX9_nextRow 6 = .ok (.iconst 1, 1) := by decide +kernel
theorem dX9_nextRow_7 : decode cX9_nextRow 7 = .ok (.isub, 1) := by decide +kernel
theorem dX9_nextRow_8 : decode cX9_nextRow 8 = .ok (.istore_n 1, 1) := by decide +kernel
theorem dX9_nextRow_9 : decode cX9_nextRow 9 = .ok (.iload_n 1, 1) := by decide +kernel
theorem dX9_nextRow_10 : decode cX9_nextRow 10 = .ok (.ifCond .lt 97, 3) := by decide +kernel
theorem dX9_nextRow_13 : decode cX9_nextRow 13 = .ok (.aload_n 0, 1) := by decide +kernel
theorem dX9_nextRow_14 : decode cX9_nextRow 14 = .ok (.iload_n 1, 1) := by decide +kernel
theorem dX9_nextRow_15 : decode cX9_nextRow 15 = .ok (.invokevirtual 77, 3) := by decide +kernel
theorem dX9_nextRow_18 : decode cX9_nextRow 18 = .ok (.ifCond .eq 83, 3) := by decide +kernel
theorem dX9_nextRow_21 : decode cX9_nextRow 21 = .ok (.aload_n 0, 1) := by decide +kernel
theorem dX9_nextRow_22 : decode cX9_nextRow 22 = .ok (.getfield 55, 3) := by decide +kernel
theorem dX9_nextRow_25 : decode cX9_nextRow 25 = .ok (.iload_n 1, 1) := by decide +kernel
theorem dX9_nextRow_26 : decode cX9_nextRow 26 = .ok (.iaload, 1) := by decide +kernel
theorem dX9_nextRow_27 : decode cX9_nextRow 27 = .ok (.iconst (-1), 1) := by decide +kernel
theorem dX9_nextRow_28 : decode cX9_nextRow 28 = .ok (.if_icmp .eq 16, 3) := by decide +kernel
theorem dX9_nextRow_31 : decode cX9_nextRow 31 = .ok (.aload_n 0, 1) := by decide +kernel
theorem dX9_nextRow_32 : decode cX9_nextRow 32 = .ok (.getfield 55, 3) := by decide +kernel
theorem dX9_nextRow_35 : decode cX9_nextRow 35 = .ok (.iload_n 1, 1) := by decide +kernel
theorem dX9_nextRow_36 : decode cX9_nextRow 36 = .ok (.iaload, 1) := by decide +kernel
theorem dX9_nextRow_37 : decode cX9_nextRow 37 = .ok (.iload_n 1, 1) := by decide +kernel
theorem dX9_nextRow_38 : decode cX9_nextRow 38 = .ok (.if_icmp .ge 6, 3) := by decide +kernel
theorem dX9_nextRow_41 : decode cX9_nextRow 41 = .ok (.goto 60, 3) := by decide +kernel
theorem dX9_nextRow_44 : decode cX9_nextRow 44 = .ok (.aload_n 0, 1) := by decide +kernel
theorem dX9_nextRow_45 : decode cX9_nextRow 45 = .ok (.getfield 55, 3) := by decide +kernel
theorem dX9_nextRow_48 : decode cX9_nextRow 48 = .ok (.iload_n 1, 1) := by decide +kernel
theorem dX9_nextRow_49 : decode cX9_nextRow 49 = .ok (.iaload, 1) := by decide +kernel
theorem dX9_nextRow_50 : decode cX9_nextRow 50 = .ok (.istore_n 2, 1) := by decide +kernel
theorem dX9_nextRow_51 : decode cX9_nextRow 51 = .ok (.iload_n 2, 1) := by decide +kernel
theorem dX9_nextRow_52 : decode cX9_nextRow 52 = .ok (.iconst (-1), 1) := by decide +kernel
theorem dX9_nextRow_53 : decode cX9_nextRow 53 = .ok (.if_icmp .eq 10, 3) := by decide +kernel
theorem dX9_nextRow_56 : decode cX9_nextRow 56 = .ok (.aload_n 0, 1) := by decide +kernel
theorem dX9_nextRow_57 : decode cX9_nextRow 57 = .ok (.getfield 55, 3) := by decide +kernel
theorem dX9_nextRow_60 : decode cX9_nextRow 60 = .ok (.iload_n 2, 1) := by decide +kernel
theorem dX9_nextRow_61 : decode cX9_nextRow 61 = .ok (.iconst (-1), 1) := by decide +kernel
theorem dX9_nextRow_62 : decode cX9_nextRow 62 = .ok (.iastore, 1) := by decide +kernel
theorem dX9_nextRow_63 : decode cX9_nextRow 63 = .ok (.aload_n 0, 1) := by decide +kernel
theorem dX9_nextRow_64 : decode cX9_nextRow 64 = .ok (.getfield 55, 3) := by decide +kernel
theorem dX9_nextRow_67 : decode cX9_nextRow 67 = .ok (.iload_n 1, 1) := by decide +kernel
theorem dX9_nextRow_68 : decode cX9_nextRow 68 = .ok (.iconst (-1), 1) := by decide +kernel
theorem dX9_nextRow_69 : decode cX9_nextRow 69 = .ok (.iastore, 1) := by decide +kernel
theorem dX9_nextRow_70 : decode cX9_nextRow 70 = .ok (.aload_n 0, 1) := by decide +kernel
theorem dX9_nextRow_71 : decode cX9_nextRow 71 = .ok (.iload_n 1, 1) := by decide +kernel
theorem dX9_nextRow_72 : decode cX9_nextRow 72 = .ok (.iload_n 2, 1) := by decide +kernel
theorem dX9_nextRow_73 : decode cX9_nextRow 73 = .ok (.invokevirtual 458, 3) := by decide +kernel
theorem dX9_nextRow_76 : decode cX9_nextRow 76 = .ok (.istore_n 3, 1) := by decide +kernel
theorem dX9_nextRow_77 : decode cX9_nextRow 77 = .ok (.iload_n 3, 1) := by decide +kernel
theorem dX9_nextRow_78 : decode cX9_nextRow 78 = .ok (.iconst (-1), 1) := by decide +kernel
theorem dX9_nextRow_79 : decode cX9_nextRow 79 = .ok (.if_icmp .ne 6, 3) := by decide +kernel
theorem dX9_nextRow_82 : decode cX9_nextRow 82 = .ok (.goto 19, 3) := by decide +kernel
theorem dX9_nextRow_85 : decode cX9_nextRow 85 = .ok (.aload_n 0, 1) := by decide +kernel
theorem dX9_nextRow_86 : decode cX9_nextRow 86 = .ok (.getfield 55, 3) := by decide +kernel
theorem dX9_nextRow_89 : decode cX9_nextRow 89 = .ok (.iload_n 1, 1) := by decide +kernel
theorem dX9_nextRow_90 : decode cX9_nextRow 90 = .ok (.iload_n 3, 1) := by decide +kernel
theorem dX9_nextRow_91 : decode cX9_nextRow 91 = .ok (.iastore, 1) := by decide +kernel
theorem dX9_nextRow_92 : decode cX9_nextRow 92 = .ok (.aload_n 0, 1) := by decide +kernel
theorem dX9_nextRow_93 : decode cX9_nextRow 93 = .ok (.getfield 55, 3) := by decide +kernel
theorem dX9_nextRow_96 : decode cX9_nextRow 96 = .ok (.iload_n 3, 1) := by decide +kernel
theorem dX9_nextRow_97 : decode cX9_nextRow 97 = .ok (.iload_n 1, 1) := by decide +kernel
theorem dX9_nextRow_98 : decode cX9_nextRow 98 = .ok (.iastore, 1) := by decide +kernel
theorem dX9_nextRow_99 : decode cX9_nextRow 99 = .ok (.iconst 1, 1) := by decide +kernel
theorem dX9_nextRow_100 : decode cX9_nextRow 100 = .ok (.ireturn, 1) := by decide +kernel
theorem dX9_nextRow_101 : decode cX9_nextRow 101 = .ok (.iinc 1 (-1), 3) := by decide +kernel
theorem dX9_nextRow_104 : decode cX9_nextRow 104 = .ok (.goto (-95), 3) := by decide +kernel
theorem dX9_nextRow_107 : decode cX9_nextRow 107 = .ok (.iconst 0, 1) := by decide +kernel
theorem dX9_nextRow_108 : decode cX9_nextRow 108 = .ok (.ireturn, 1) := by decide +kernel
def lX9_nextRow_44 (F : Nat) (K63 : mS → Int32 → Int32 → Option (mS × Bool)) (t : Nat) (S : mS) (v1 : Int32) : Option (mS × Bool) := ck (inb v1 7) (if (S.1 (t + 13) v1.toNatClampNeg) = (-1 : Int32) then (K63 S v1 (S.1 (t + 13) v1.toNatClampNeg)) else (ck (inb (S.1 (t + 13) v1.toNatClampNeg) 7) (stp (sI S (t + 13) (S.1 (t + 13) v1.toNatClampNeg).toNatClampNeg (-1 : Int32)) fun S3 => K63 S3 v1 (S.1 (t + 13) v1.toNatClampNeg))))
set_option maxHeartbeats 4000000 in
set_option maxRecDepth 100000 in
theorem gX9_nextRow_44 {x : mX} {F : Nat} {t : Nat} {K63 : mS → Int32 → Int32 → Option (mS × Bool)} {R : mS × Bool} (ht : kd0 t = 9) (hK63 : ∀ (S : mS) (v1 : Int32) (v2 : Int32) , K63 S v1 v2 = some R → mG x μX9_nextRow 5 0 0 (mQe R.1 (some (.int (bI R.2)))) 0 0 E0 S 63 [(0, .ref (t)), (1, .int (v1)), (2, .int (v2))] []) (S : mS) (v1 : Int32)  (h : lX9_nextRow_44 F K63 t S v1 = some R) : mG x μX9_nextRow 5 0 0 (mQe R.1 (some (.int (bI R.2)))) 0 0 E0 S 44 [(0, .ref (t)), (1, .int (v1))] [] := by
  unfold lX9_nextRow_44 at h
  refine mG.aload_n 0 dX9_nextRow_44 rfl ?_
  refine mG.get (v := .ref (t + 13)) dX9_nextRow_45 mfX9_55 ht (lr9_mate ht) ?_
  refine mG.iload_n 1 dX9_nextRow_48 rfl ?_
  obtain ⟨b1, h⟩ := ckp h
  refine mG.iald dX9_nextRow_49 (lk9_mate ht) (ll9_mate ht) (inbp b1) ?_
  refine mG.istore_n (lv2 := [(2, .int (S.1 (t + 13) v1.toNatClampNeg)), (0, .ref (t)), (1, .int (v1))]) dX9_nextRow_50 rfl (by decide) rfl ?_
  refine mG.iload_n 0 dX9_nextRow_51 rfl ?_
  refine mG.iconst (v := (-1)) dX9_nextRow_52 rfl ?_
  refine mG.icmp_eq 63 dX9_nextRow_53 (by decide) (fun c4 => ?_) (fun c4 => ?_)
  · replace h := itp c4 h
    refine mG.sub (lv2 := [(0, .ref (t)), (1, .int (v1)), (2, .int (S.1 (t + 13) v1.toNatClampNeg))]) [1, 2, 0] rfl ?_
    exact hK63 S v1 (S.1 (t + 13) v1.toNatClampNeg)  h
  · replace h := itn c4 h
    refine mG.aload_n 1 dX9_nextRow_56 rfl ?_
    refine mG.get (v := .ref (t + 13)) dX9_nextRow_57 mfX9_55 ht (lr9_mate ht) ?_
    refine mG.iload_n 0 dX9_nextRow_60 rfl ?_
    refine mG.iconst (v := (-1)) dX9_nextRow_61 rfl ?_
    obtain ⟨b2, h⟩ := ckp h
    obtain ⟨S3, hS3, h⟩ := stpp h
    refine mG.iast dX9_nextRow_62 (lk9_mate ht) (ll9_mate ht) (inbp b2) hS3 ?_
    refine mG.sub (lv2 := [(0, .ref (t)), (1, .int (v1)), (2, .int (S.1 (t + 13) v1.toNatClampNeg))]) [1, 2, 0] rfl ?_
    exact hK63 S3 v1 (S.1 (t + 13) v1.toNatClampNeg)  h
def lX9_nextRow_63 (F : Nat) (K9 : mS → Int32 → Option (mS × Bool)) (t : Nat) (S : mS) (v1 : Int32) (v2 : Int32) : Option (mS × Bool) := ck (inb v1 7) (stp (sI S (t + 13) v1.toNatClampNeg (-1 : Int32)) fun S2 => bd (f_X9_nextMate F S2 t v1 v2) fun q3 => if q3 = (-1 : Int32) then (K9 S2 (v1 + (-1))) else (ck (inb v1 7) (stp (sI S2 (t + 13) v1.toNatClampNeg q3) fun S5 => ck (inb q3 7) (stp (sI S5 (t + 13) q3.toNatClampNeg v1) fun S7 => some (S7, true)))))
set_option maxHeartbeats 4000000 in
set_option maxRecDepth 100000 in
theorem gX9_nextRow_63 {x : mX} {F : Nat} {t : Nat} {K9 : mS → Int32 → Option (mS × Bool)} {R : mS × Bool} (ht : kd0 t = 9) (hK9 : ∀ (S : mS) (v1 : Int32) , K9 S v1 = some R → mG x μX9_nextRow 5 0 0 (mQe R.1 (some (.int (bI R.2)))) 0 0 E0 S 9 [(0, .ref (t)), (1, .int (v1))] []) (S : mS) (v1 : Int32) (v2 : Int32)  (h : lX9_nextRow_63 F K9 t S v1 v2 = some R) : mG x μX9_nextRow 5 0 0 (mQe R.1 (some (.int (bI R.2)))) 0 0 E0 S 63 [(0, .ref (t)), (1, .int (v1)), (2, .int (v2))] [] := by
  unfold lX9_nextRow_63 at h
  refine mG.aload_n 0 dX9_nextRow_63 rfl ?_
  refine mG.get (v := .ref (t + 13)) dX9_nextRow_64 mfX9_55 ht (lr9_mate ht) ?_
  refine mG.iload_n 1 dX9_nextRow_67 rfl ?_
  refine mG.iconst (v := (-1)) dX9_nextRow_68 rfl ?_
  obtain ⟨b1, h⟩ := ckp h
  obtain ⟨S2, hS2, h⟩ := stpp h
  refine mG.iast dX9_nextRow_69 (lk9_mate ht) (ll9_mate ht) (inbp b1) hS2 ?_
  refine mG.aload_n 0 dX9_nextRow_70 rfl ?_
  refine mG.iload_n 1 dX9_nextRow_71 rfl ?_
  refine mG.iload_n 2 dX9_nextRow_72 rfl ?_
  obtain ⟨q3, hq3, h⟩ := bdp h
  refine mG.callV0 (as := [.int (v1), .int (v2)]) (st := []) (S2 := S2) (r := some (.int (q3))) dX9_nextRow_73 mvX9_nextMate wk60_3 rfl ht rfl (by decide) (Nat.le_of_ble_eq_true rfl) (c_X9_nextMate ht hq3) ?_
  refine mG.istore_n (lv2 := [(3, .int (q3)), (0, .ref (t)), (1, .int (v1)), (2, .int (v2))]) dX9_nextRow_76 rfl (by decide) rfl ?_
  refine mG.iload_n 0 dX9_nextRow_77 rfl ?_
  refine mG.iconst (v := (-1)) dX9_nextRow_78 rfl ?_
  refine mG.icmp_ne 85 dX9_nextRow_79 (by decide) (fun c8 => ?_) (fun c8 => ?_)
  · replace h := itn c8 h
    refine mG.aload_n 1 dX9_nextRow_85 rfl ?_
    refine mG.get (v := .ref (t + 13)) dX9_nextRow_86 mfX9_55 ht (lr9_mate ht) ?_
    refine mG.iload_n 2 dX9_nextRow_89 rfl ?_
    refine mG.iload_n 0 dX9_nextRow_90 rfl ?_
    obtain ⟨b4, h⟩ := ckp h
    obtain ⟨S5, hS5, h⟩ := stpp h
    refine mG.iast dX9_nextRow_91 (lk9_mate ht) (ll9_mate ht) (inbp b4) hS5 ?_
    refine mG.aload_n 1 dX9_nextRow_92 rfl ?_
    refine mG.get (v := .ref (t + 13)) dX9_nextRow_93 mfX9_55 ht (lr9_mate ht) ?_
    refine mG.iload_n 0 dX9_nextRow_96 rfl ?_
    refine mG.iload_n 2 dX9_nextRow_97 rfl ?_
    obtain ⟨b6, h⟩ := ckp h
    obtain ⟨S7, hS7, h⟩ := stpp h
    refine mG.iast dX9_nextRow_98 (lk9_mate ht) (ll9_mate ht) (inbp b6) hS7 ?_
    refine mG.iconst (v := 1) dX9_nextRow_99 rfl ?_
    obtain rfl := Option.some.inj h
    exact mG.zret (b := true) dX9_nextRow_100 rfl rfl ⟨rfl, rfl, rfl⟩
  · replace h := itp c8 h
    refine mG.goto 101 dX9_nextRow_82 (by decide) ?_
    refine mG.iinc 2 (u := v1 + (-1)) (lv2 := [(1, .int (v1 + (-1))), (3, .int (q3)), (0, .ref (t)), (2, .int (v2))]) dX9_nextRow_101 rfl rfl (by decide) rfl ?_
    refine mG.goto 9 dX9_nextRow_104 (by decide) ?_
    refine mG.sub (lv2 := [(0, .ref (t)), (1, .int (v1 + (-1)))]) [2, 0] rfl ?_
    exact hK9 S2 (v1 + (-1))  h
def lX9_nextRow_9 (F : Nat)  (t : Nat) : Nat → mS → Int32 → Option (mS × Bool)
  | 0, _, _ => none
  | n + 1, S, v1 => if v1 < 0 then (some (S, false)) else (bd (f_X9_isHere F S t v1) fun q1 => if q1 = true then (ck (inb v1 7) (if (S.1 (t + 13) v1.toNatClampNeg) = (-1 : Int32) then (lX9_nextRow_44 F (fun (S : mS) (v1 : Int32) (v2 : Int32) => lX9_nextRow_63 F (fun (S : mS) (v1 : Int32) => lX9_nextRow_9 F  t n S v1) t S v1 v2) t S v1) else (ck (inb v1 7) (if v1 ≤ (S.1 (t + 13) v1.toNatClampNeg) then (lX9_nextRow_44 F (fun (S : mS) (v1 : Int32) (v2 : Int32) => lX9_nextRow_63 F (fun (S : mS) (v1 : Int32) => lX9_nextRow_9 F  t n S v1) t S v1 v2) t S v1) else (lX9_nextRow_9 F  t n S (v1 + (-1))))))) else (lX9_nextRow_9 F  t n S (v1 + (-1))))
set_option maxHeartbeats 4000000 in
set_option maxRecDepth 100000 in
theorem gX9_nextRow_9 {x : mX} {F : Nat} {t : Nat}   {R : mS × Bool} (ht : kd0 t = 9)  : ∀ (n : Nat) (S : mS) (v1 : Int32), lX9_nextRow_9 F  t n S v1 = some R → mG x μX9_nextRow 5 0 0 (mQe R.1 (some (.int (bI R.2)))) 0 0 E0 S 9 [(0, .ref (t)), (1, .int (v1))] [] := by
  intro n
  induction n with
  | zero =>
    intro S v1 h
    cases h
  | succ n ih =>
    intro S v1 h
    unfold lX9_nextRow_9 at h
    refine mG.iload_n 1 dX9_nextRow_9 rfl ?_
    refine mG.if_lt 107 dX9_nextRow_10 (by decide) (fun c7 => ?_) (fun c7 => ?_)
    · replace h := itp c7 h
      refine mG.iconst (v := 0) dX9_nextRow_107 rfl ?_
      obtain rfl := Option.some.inj h
      exact mG.zret (b := false) dX9_nextRow_108 rfl rfl ⟨rfl, rfl, rfl⟩
    · replace h := itn c7 h
      refine mG.aload_n 0 dX9_nextRow_13 rfl ?_
      refine mG.iload_n 1 dX9_nextRow_14 rfl ?_
      obtain ⟨q1, hq1, h⟩ := bdp h
      refine mG.callV0 (as := [.int (v1)]) (st := []) (S2 := S) (r := some (.int (bI (q1)))) dX9_nextRow_15 mvX9_isHere wk32_20 rfl ht rfl (by decide) (Nat.le_of_ble_eq_true rfl) (c_X9_isHere ht hq1) ?_
      refine mG.ifz_eq (b := q1) 101 dX9_nextRow_18 (by decide) (fun c6 => ?_) (fun c6 => ?_)
      · replace h := itn c6 h
        refine mG.iinc 1 (u := v1 + (-1)) (lv2 := [(1, .int (v1 + (-1))), (0, .ref (t))]) dX9_nextRow_101 rfl rfl (by decide) rfl ?_
        refine mG.goto 9 dX9_nextRow_104 (by decide) ?_
        refine mG.sub (lv2 := [(0, .ref (t)), (1, .int (v1 + (-1)))]) [1, 0] rfl ?_
        exact ih S (v1 + (-1))  h
      · replace h := itp c6 h
        refine mG.aload_n 0 dX9_nextRow_21 rfl ?_
        refine mG.get (v := .ref (t + 13)) dX9_nextRow_22 mfX9_55 ht (lr9_mate ht) ?_
        refine mG.iload_n 1 dX9_nextRow_25 rfl ?_
        obtain ⟨b2, h⟩ := ckp h
        refine mG.iald dX9_nextRow_26 (lk9_mate ht) (ll9_mate ht) (inbp b2) ?_
        refine mG.iconst (v := (-1)) dX9_nextRow_27 rfl ?_
        refine mG.icmp_eq 44 dX9_nextRow_28 (by decide) (fun c5 => ?_) (fun c5 => ?_)
        · replace h := itp c5 h
          refine mG.sub (lv2 := [(0, .ref (t)), (1, .int (v1))]) [0, 1] rfl ?_
          exact gX9_nextRow_44 ht (fun S v1 v2 h => by exact gX9_nextRow_63 ht (fun S v1 h => by exact ih S v1  h)  S v1 v2  h)  S v1  h
        · replace h := itn c5 h
          refine mG.aload_n 0 dX9_nextRow_31 rfl ?_
          refine mG.get (v := .ref (t + 13)) dX9_nextRow_32 mfX9_55 ht (lr9_mate ht) ?_
          refine mG.iload_n 1 dX9_nextRow_35 rfl ?_
          obtain ⟨b3, h⟩ := ckp h
          refine mG.iald dX9_nextRow_36 (lk9_mate ht) (ll9_mate ht) (inbp b3) ?_
          refine mG.iload_n 1 dX9_nextRow_37 rfl ?_
          refine mG.icmp_ge 44 dX9_nextRow_38 (by decide) (fun c4 => ?_) (fun c4 => ?_)
          · replace h := itp c4 h
            refine mG.sub (lv2 := [(0, .ref (t)), (1, .int (v1))]) [0, 1] rfl ?_
            exact gX9_nextRow_44 ht (fun S v1 v2 h => by exact gX9_nextRow_63 ht (fun S v1 h => by exact ih S v1  h)  S v1 v2  h)  S v1  h
          · replace h := itn c4 h
            refine mG.goto 101 dX9_nextRow_41 (by decide) ?_
            refine mG.iinc 1 (u := v1 + (-1)) (lv2 := [(1, .int (v1 + (-1))), (0, .ref (t))]) dX9_nextRow_101 rfl rfl (by decide) rfl ?_
            refine mG.goto 9 dX9_nextRow_104 (by decide) ?_
            refine mG.sub (lv2 := [(0, .ref (t)), (1, .int (v1 + (-1)))]) [1, 0] rfl ?_
            exact ih S (v1 + (-1))  h
def f_X9_nextRow (F : Nat) (S : mS) (t : Nat) : Option (mS × Bool) := ck (inb (0 : Int32) 2308) (lX9_nextRow_9 F  t F S ((S.1 (t + 1) (0 : Int32).toNatClampNeg) - (1 : Int32)))
set_option maxHeartbeats 4000000 in
set_option maxRecDepth 100000 in
theorem c_X9_nextRow {F : Nat} {S : mS} {t : Nat} {R : mS × Bool} (ht : kd0 t = 9) (h : f_X9_nextRow F S t = some R) : mCt μX9_nextRow 5 0 0 E0 S [.ref (t)] (mQe R.1 (some (.int (bI R.2)))) := by
  unfold f_X9_nextRow at h
  refine mCt.of (by decide) (Nat.le_of_ble_eq_true rfl) ?_
  intro x
  refine mG.aload_n 0 dX9_nextRow_0 rfl ?_
  refine mG.get (v := .ref (t + 1)) dX9_nextRow_1 mfX9_7 ht (lr9_a ht) ?_
  refine mG.iconst (v := 0) dX9_nextRow_4 rfl ?_
  obtain ⟨b1, h⟩ := ckp h
  refine mG.iald dX9_nextRow_5 (lk9_a ht) (ll9_a ht) (inbp b1) ?_
  refine mG.iconst (v := 1) dX9_nextRow_6 rfl ?_
  refine mG.isub dX9_nextRow_7 ?_
  refine mG.istore_n (lv2 := [(1, .int ((S.1 (t + 1) (0 : Int32).toNatClampNeg) - (1 : Int32))), (0, .ref (t))]) dX9_nextRow_8 rfl (by decide) rfl ?_
  refine mG.sub (lv2 := [(0, .ref (t)), (1, .int ((S.1 (t + 1) (0 : Int32).toNatClampNeg) - (1 : Int32)))]) [1, 0] rfl ?_
  exact gX9_nextRow_9 ht  F S ((S.1 (t + 1) (0 : Int32).toNatClampNeg) - (1 : Int32))  h
theorem dX9_wed_0 : decode cX9_wed 0 = .ok (.iconst 0, 1) := by decide +kernel
theorem dX9_wed_1 : decode cX9_wed 1 = .ok (.istore_n 1, 1) := by decide +kernel
theorem dX9_wed_2 : decode cX9_wed 2 = .ok (.iload_n 1, 1) := by decide +kernel
theorem dX9_wed_3 : decode cX9_wed 3 = .ok (.bipush 7, 2) := by decide +kernel
theorem dX9_wed_5 : decode cX9_wed 5 = .ok (.if_icmp .ge 23, 3) := by decide +kernel
theorem dX9_wed_8 : decode cX9_wed 8 = .ok (.aload_n 0, 1) := by decide +kernel
theorem dX9_wed_9 : decode cX9_wed 9 = .ok (.getfield 55, 3) := by decide +kernel
theorem dX9_wed_12 : decode cX9_wed 12 = .ok (.iload_n 1, 1) := by decide +kernel
theorem dX9_wed_13 : decode cX9_wed 13 = .ok (.iconst (-1), 1) := by decide +kernel
theorem dX9_wed_14 : decode cX9_wed 14 = .ok (.iastore, 1) := by decide +kernel
theorem dX9_wed_15 : decode cX9_wed 15 = .ok (.aload_n 0, 1) := by decide +kernel
theorem dX9_wed_16 : decode cX9_wed 16 = .ok (.getfield 58, 3) := by decide +kernel
theorem dX9_wed_19 : decode cX9_wed 19 = .ok (.iload_n 1, 1) := by decide +kernel
theorem dX9_wed_20 : decode cX9_wed 20 = .ok (.iconst (-1), 1) := by decide +kernel
theorem dX9_wed_21 : decode cX9_wed 21 = .ok (.iastore, 1) := by decide +kernel
theorem dX9_wed_22 : decode cX9_wed 22 = .ok (.iinc 1 1, 3) := by decide +kernel
theorem dX9_wed_25 : decode cX9_wed 25 = .ok (.goto (-23), 3) := by decide +kernel
theorem dX9_wed_28 : decode cX9_wed 28 = .ok (.iconst (-1), 1) := by decide +kernel
theorem dX9_wed_29 : decode cX9_wed 29 = .ok (.istore_n 1, 1) := by decide +kernel
theorem dX9_wed_30 : decode cX9_wed 30 = .ok (.iconst 1, 1) := by decide +kernel
theorem dX9_wed_31 : decode cX9_wed 31 = .ok (.istore_n 2, 1) := by decide +kernel
theorem dX9_wed_32 : decode cX9_wed 32 = .ok (.iload_n 2, 1) := by decide +kernel
theorem dX9_wed_33 : decode cX9_wed 33 = .ok (.ifCond .eq 53, 3) := by decide +kernel
theorem dX9_wed_36 : decode cX9_wed 36 = .ok (.aload_n 0, 1) := by decide +kernel
theorem dX9_wed_37 : decode cX9_wed 37 = .ok (.invokevirtual 461, 3) := by decide +kernel
theorem dX9_wed_40 : decode cX9_wed 40 = .ok (.istore_n 3, 1) := by decide +kernel
theorem dX9_wed_41 : decode cX9_wed 41 = .ok (.iload_n 3, 1) := by decide +kernel
theorem dX9_wed_42 : decode cX9_wed 42 = .ok (.iload_n 1, 1) := by decide +kernel
theorem dX9_wed_43 : decode cX9_wed 43 = .ok (.if_icmp .le 35, 3) := by decide +kernel
theorem dX9_wed_46 : decode cX9_wed 46 = .ok (.iload_n 3, 1) := by decide +kernel
theorem dX9_wed_47 : decode cX9_wed 47 = .ok (.istore_n 1, 1) := by decide +kernel
theorem dX9_wed_48 : decode cX9_wed 48 = .ok (.iconst 0, 1) := by decide +kernel
theorem dX9_wed_49 : decode cX9_wed 49 = .ok (.istore 4, 2) := by decide +kernel
theorem dX9_wed_51 : decode cX9_wed 51 = .ok (.iload 4, 2) := by decide +kernel
theorem dX9_wed_53 : decode cX9_wed 53 = .ok (.bipush 7, 2) := by decide +kernel
theorem dX9_wed_55 : decode cX9_wed 55 = .ok (.if_icmp .ge 23, 3) := by decide +kernel
theorem dX9_wed_58 : decode cX9_wed 58 = .ok (.aload_n 0, 1) := by decide +kernel
theorem dX9_wed_59 : decode cX9_wed 59 = .ok (.getfield 58, 3) := by decide +kernel
theorem dX9_wed_62 : decode cX9_wed 62 = .ok (.iload 4, 2) := by decide +kernel
theorem dX9_wed_64 : decode cX9_wed 64 = .ok (.aload_n 0, 1) := by decide +kernel
theorem dX9_wed_65 : decode cX9_wed 65 = .ok (.getfield 55, 3) := by decide +kernel
theorem dX9_wed_68 : decode cX9_wed 68 = .ok (.iload 4, 2) := by decide +kernel
theorem dX9_wed_70 : decode cX9_wed 70 = .ok (.iaload, 1) := by decide +kernel
theorem dX9_wed_71 : decode cX9_wed 71 = .ok (.iastore, 1) := by decide +kernel
theorem dX9_wed_72 : decode cX9_wed 72 = .ok (.iinc 4 1, 3) := by decide +kernel
theorem dX9_wed_75 : decode cX9_wed 75 = .ok (.goto (-24), 3) := by decide +kernel
theorem dX9_wed_78 : decode cX9_wed 78 = .ok (.aload_n 0, 1) := by decide +kernel
theorem dX9_wed_79 : decode cX9_wed 79 = .ok (.invokevirtual 464, 3) := by decide +kernel
theorem dX9_wed_82 : decode cX9_wed 82 = .ok (.istore_n 2, 1) := by decide +kernel
theorem dX9_wed_83 : decode cX9_wed 83 = .ok (.goto (-51), 3) := by decide +kernel
theorem dX9_wed_86 : decode cX9_wed 86 = .ok (.iload_n 1, 1) := by decide +kernel
theorem dX9_wed_87 : decode cX9_wed 87 = .ok (.ireturn, 1) := by decide +kernel
def lX9_wed_2 (F : Nat) (K32 : mS → Int32 → Int32 → Option (mS × Int32)) (t : Nat) : Nat → mS → Int32 → Option (mS × Int32)
  | 0, _, _ => none
  | n + 1, S, v1 => if (7 : Int32) ≤ v1 then (K32 S (-1 : Int32) (1 : Int32)) else (ck (inb v1 7) (stp (sI S (t + 13) v1.toNatClampNeg (-1 : Int32)) fun S2 => ck (inb v1 7) (stp (sI S2 (t + 14) v1.toNatClampNeg (-1 : Int32)) fun S4 => lX9_wed_2 F K32 t n S4 (v1 + 1))))
set_option maxHeartbeats 4000000 in
set_option maxRecDepth 100000 in
theorem gX9_wed_2 {x : mX} {F : Nat} {t : Nat}  {K32 : mS → Int32 → Int32 → Option (mS × Int32)} {R : mS × Int32} (ht : kd0 t = 9) (hK32 : ∀ (S : mS) (v1 : Int32) (v2 : Int32) , K32 S v1 v2 = some R → mG x μX9_wed 6 0 0 (mQe R.1 (some (.int R.2))) 0 0 E0 S 32 [(0, .ref (t)), (1, .int (v1)), (2, .int (v2))] []) : ∀ (n : Nat) (S : mS) (v1 : Int32), lX9_wed_2 F K32 t n S v1 = some R → mG x μX9_wed 6 0 0 (mQe R.1 (some (.int R.2))) 0 0 E0 S 2 [(0, .ref (t)), (1, .int (v1))] [] := by
  intro n
  induction n with
  | zero =>
    intro S v1 h
    cases h
  | succ n ih =>
    intro S v1 h
    unfold lX9_wed_2 at h
    refine mG.iload_n 1 dX9_wed_2 rfl ?_
    refine mG.bipush (v := 7) dX9_wed_3 (by decide) ?_
    refine mG.icmp_ge 28 dX9_wed_5 (by decide) (fun c5 => ?_) (fun c5 => ?_)
    · replace h := itp c5 h
      refine mG.iconst (v := (-1)) dX9_wed_28 rfl ?_
      refine mG.istore_n (lv2 := [(1, .int (-1)), (0, .ref (t))]) dX9_wed_29 rfl (by decide) rfl ?_
      refine mG.iconst (v := 1) dX9_wed_30 rfl ?_
      refine mG.istore_n (lv2 := [(2, .int 1), (1, .int (-1)), (0, .ref (t))]) dX9_wed_31 rfl (by decide) rfl ?_
      refine mG.sub (lv2 := [(0, .ref (t)), (1, .int (-1)), (2, .int 1)]) [2, 1, 0] rfl ?_
      exact hK32 S (-1 : Int32) (1 : Int32)  h
    · replace h := itn c5 h
      refine mG.aload_n 0 dX9_wed_8 rfl ?_
      refine mG.get (v := .ref (t + 13)) dX9_wed_9 mfX9_55 ht (lr9_mate ht) ?_
      refine mG.iload_n 1 dX9_wed_12 rfl ?_
      refine mG.iconst (v := (-1)) dX9_wed_13 rfl ?_
      obtain ⟨b1, h⟩ := ckp h
      obtain ⟨S2, hS2, h⟩ := stpp h
      refine mG.iast dX9_wed_14 (lk9_mate ht) (ll9_mate ht) (inbp b1) hS2 ?_
      refine mG.aload_n 0 dX9_wed_15 rfl ?_
      refine mG.get (v := .ref (t + 14)) dX9_wed_16 mfX9_58 ht (lr9_bestMate ht) ?_
      refine mG.iload_n 1 dX9_wed_19 rfl ?_
      refine mG.iconst (v := (-1)) dX9_wed_20 rfl ?_
      obtain ⟨b3, h⟩ := ckp h
      obtain ⟨S4, hS4, h⟩ := stpp h
      refine mG.iast dX9_wed_21 (lk9_bestMate ht) (ll9_bestMate ht) (inbp b3) hS4 ?_
      refine mG.iinc 1 (u := v1 + 1) (lv2 := [(1, .int (v1 + 1)), (0, .ref (t))]) dX9_wed_22 rfl rfl (by decide) rfl ?_
      refine mG.goto 2 dX9_wed_25 (by decide) ?_
      refine mG.sub (lv2 := [(0, .ref (t)), (1, .int (v1 + 1))]) [1, 0] rfl ?_
      exact ih S4 (v1 + 1)  h
def lX9_wed_51 (F : Nat) (K32 : mS → Int32 → Int32 → Option (mS × Int32)) (t : Nat) : Nat → mS → Int32 → Int32 → Option (mS × Int32)
  | 0, _, _, _ => none
  | n + 1, S, v1, v4 => if (7 : Int32) ≤ v4 then (bd (f_X9_nextRow F S t) fun q1 => K32 q1.1 v1 (bI (q1.2))) else (ck (inb v4 7) (ck (inb v4 7) (stp (sI S (t + 14) v4.toNatClampNeg (S.1 (t + 13) v4.toNatClampNeg)) fun S4 => lX9_wed_51 F K32 t n S4 v1 (v4 + 1))))
set_option maxHeartbeats 4000000 in
set_option maxRecDepth 100000 in
theorem gX9_wed_51 {x : mX} {F : Nat} {t : Nat}  {K32 : mS → Int32 → Int32 → Option (mS × Int32)} {R : mS × Int32} (ht : kd0 t = 9) (hK32 : ∀ (S : mS) (v1 : Int32) (v2 : Int32) , K32 S v1 v2 = some R → mG x μX9_wed 6 0 0 (mQe R.1 (some (.int R.2))) 0 0 E0 S 32 [(0, .ref (t)), (1, .int (v1)), (2, .int (v2))] []) : ∀ (n : Nat) (S : mS) (v1 : Int32) (v4 : Int32), lX9_wed_51 F K32 t n S v1 v4 = some R → mG x μX9_wed 6 0 0 (mQe R.1 (some (.int R.2))) 0 0 E0 S 51 [(0, .ref (t)), (1, .int (v1)), (4, .int (v4))] [] := by
  intro n
  induction n with
  | zero =>
    intro S v1 v4 h
    cases h
  | succ n ih =>
    intro S v1 v4 h
    unfold lX9_wed_51 at h
    refine mG.iload 2 dX9_wed_51 rfl ?_
    refine mG.bipush (v := 7) dX9_wed_53 (by decide) ?_
    refine mG.icmp_ge 78 dX9_wed_55 (by decide) (fun c5 => ?_) (fun c5 => ?_)
    · replace h := itp c5 h
      refine mG.aload_n 0 dX9_wed_78 rfl ?_
      obtain ⟨q1, hq1, h⟩ := bdp h
      refine mG.callV0 (as := []) (st := []) (S2 := q1.1) (r := some (.int (bI (q1.2)))) dX9_wed_79 mvX9_nextRow wk59_23 rfl ht rfl (by decide) (Nat.le_of_ble_eq_true rfl) (c_X9_nextRow ht hq1) ?_
      refine mG.istore_n (lv2 := [(2, .int (bI (q1.2))), (0, .ref (t)), (1, .int (v1)), (4, .int (v4))]) dX9_wed_82 rfl (by decide) rfl ?_
      refine mG.goto 32 dX9_wed_83 (by decide) ?_
      refine mG.sub (lv2 := [(0, .ref (t)), (1, .int (v1)), (2, .int (bI (q1.2)))]) [1, 2, 0] rfl ?_
      exact hK32 q1.1 v1 (bI (q1.2))  h
    · replace h := itn c5 h
      refine mG.aload_n 0 dX9_wed_58 rfl ?_
      refine mG.get (v := .ref (t + 14)) dX9_wed_59 mfX9_58 ht (lr9_bestMate ht) ?_
      refine mG.iload 2 dX9_wed_62 rfl ?_
      refine mG.aload_n 0 dX9_wed_64 rfl ?_
      refine mG.get (v := .ref (t + 13)) dX9_wed_65 mfX9_55 ht (lr9_mate ht) ?_
      refine mG.iload 2 dX9_wed_68 rfl ?_
      obtain ⟨b2, h⟩ := ckp h
      refine mG.iald dX9_wed_70 (lk9_mate ht) (ll9_mate ht) (inbp b2) ?_
      obtain ⟨b3, h⟩ := ckp h
      obtain ⟨S4, hS4, h⟩ := stpp h
      refine mG.iast dX9_wed_71 (lk9_bestMate ht) (ll9_bestMate ht) (inbp b3) hS4 ?_
      refine mG.iinc 2 (u := v4 + 1) (lv2 := [(4, .int (v4 + 1)), (0, .ref (t)), (1, .int (v1))]) dX9_wed_72 rfl rfl (by decide) rfl ?_
      refine mG.goto 51 dX9_wed_75 (by decide) ?_
      refine mG.sub (lv2 := [(0, .ref (t)), (1, .int (v1)), (4, .int (v4 + 1))]) [1, 2, 0] rfl ?_
      exact ih S4 v1 (v4 + 1)  h
def lX9_wed_32 (F : Nat)  (t : Nat) : Nat → mS → Int32 → Int32 → Option (mS × Int32)
  | 0, _, _, _ => none
  | n + 1, S, v1, v2 => if v2 = 0 then (some (S, v1)) else (bd (f_X9_sharedNow F S t) fun q1 => if q1 ≤ v1 then (bd (f_X9_nextRow F S t) fun q2 => lX9_wed_32 F  t n q2.1 v1 (bI (q2.2))) else (lX9_wed_51 F (fun (S : mS) (v1 : Int32) (v2 : Int32) => lX9_wed_32 F  t n S v1 v2) t F S q1 (0 : Int32)))
set_option maxHeartbeats 4000000 in
set_option maxRecDepth 100000 in
theorem gX9_wed_32 {x : mX} {F : Nat} {t : Nat}   {R : mS × Int32} (ht : kd0 t = 9)  : ∀ (n : Nat) (S : mS) (v1 : Int32) (v2 : Int32), lX9_wed_32 F  t n S v1 v2 = some R → mG x μX9_wed 6 0 0 (mQe R.1 (some (.int R.2))) 0 0 E0 S 32 [(0, .ref (t)), (1, .int (v1)), (2, .int (v2))] [] := by
  intro n
  induction n with
  | zero =>
    intro S v1 v2 h
    cases h
  | succ n ih =>
    intro S v1 v2 h
    unfold lX9_wed_32 at h
    refine mG.iload_n 2 dX9_wed_32 rfl ?_
    refine mG.if_eq 86 dX9_wed_33 (by decide) (fun c4 => ?_) (fun c4 => ?_)
    · replace h := itp c4 h
      refine mG.iload_n 1 dX9_wed_86 rfl ?_
      obtain rfl := Option.some.inj h
      exact mG.iret dX9_wed_87 rfl ⟨rfl, rfl, rfl⟩
    · replace h := itn c4 h
      refine mG.aload_n 0 dX9_wed_36 rfl ?_
      obtain ⟨q1, hq1, h⟩ := bdp h
      refine mG.callV0 (as := []) (st := []) (S2 := S) (r := some (.int (q1))) dX9_wed_37 mvX9_sharedNow wk59_19 rfl ht rfl (by decide) (Nat.le_of_ble_eq_true rfl) (c_X9_sharedNow ht hq1) ?_
      refine mG.istore_n (lv2 := [(3, .int (q1)), (0, .ref (t)), (1, .int (v1)), (2, .int (v2))]) dX9_wed_40 rfl (by decide) rfl ?_
      refine mG.iload_n 0 dX9_wed_41 rfl ?_
      refine mG.iload_n 2 dX9_wed_42 rfl ?_
      refine mG.icmp_le 78 dX9_wed_43 (by decide) (fun c3 => ?_) (fun c3 => ?_)
      · replace h := itp c3 h
        refine mG.aload_n 1 dX9_wed_78 rfl ?_
        obtain ⟨q2, hq2, h⟩ := bdp h
        refine mG.callV0 (as := []) (st := []) (S2 := q2.1) (r := some (.int (bI (q2.2)))) dX9_wed_79 mvX9_nextRow wk59_23 rfl ht rfl (by decide) (Nat.le_of_ble_eq_true rfl) (c_X9_nextRow ht hq2) ?_
        refine mG.istore_n (lv2 := [(2, .int (bI (q2.2))), (3, .int (q1)), (0, .ref (t)), (1, .int (v1))]) dX9_wed_82 rfl (by decide) rfl ?_
        refine mG.goto 32 dX9_wed_83 (by decide) ?_
        refine mG.sub (lv2 := [(0, .ref (t)), (1, .int (v1)), (2, .int (bI (q2.2)))]) [2, 3, 0] rfl ?_
        exact ih q2.1 v1 (bI (q2.2))  h
      · replace h := itn c3 h
        refine mG.iload_n 0 dX9_wed_46 rfl ?_
        refine mG.istore_n (lv2 := [(1, .int (q1)), (3, .int (q1)), (0, .ref (t)), (2, .int (v2))]) dX9_wed_47 rfl (by decide) rfl ?_
        refine mG.iconst (v := 0) dX9_wed_48 rfl ?_
        refine mG.istore (lv2 := [(4, .int 0), (1, .int (q1)), (3, .int (q1)), (0, .ref (t)), (2, .int (v2))]) dX9_wed_49 (by decide) rfl ?_
        refine mG.sub (lv2 := [(0, .ref (t)), (1, .int (q1)), (4, .int 0)]) [3, 1, 0] rfl ?_
        exact gX9_wed_51 ht (fun S v1 v2 h => by exact ih S v1 v2  h) F S q1 (0 : Int32)  h
def f_X9_wed (F : Nat) (S : mS) (t : Nat) : Option (mS × Int32) := lX9_wed_2 F (fun (S : mS) (v1 : Int32) (v2 : Int32) => lX9_wed_32 F  t F S v1 v2) t F S (0 : Int32)
set_option maxHeartbeats 4000000 in
set_option maxRecDepth 100000 in
theorem c_X9_wed {F : Nat} {S : mS} {t : Nat} {R : mS × Int32} (ht : kd0 t = 9) (h : f_X9_wed F S t = some R) : mCt μX9_wed 6 0 0 E0 S [.ref (t)] (mQe R.1 (some (.int R.2))) := by
  unfold f_X9_wed at h
  refine mCt.of (by decide) (Nat.le_of_ble_eq_true rfl) ?_
  intro x
  refine mG.iconst (v := 0) dX9_wed_0 rfl ?_
  refine mG.istore_n (lv2 := [(1, .int 0), (0, .ref (t))]) dX9_wed_1 rfl (by decide) rfl ?_
  refine mG.sub (lv2 := [(0, .ref (t)), (1, .int 0)]) [1, 0] rfl ?_
  exact gX9_wed_2 ht (fun S v1 v2 h => by exact gX9_wed_32 ht  F S v1 v2  h) F S (0 : Int32)  h
theorem dX9_weddings_0 : decode cX9_weddings 0 = .ok (.iload_n 1, 1) := by decide +kernel
theorem dX9_weddings_1 : decode cX9_weddings 1 = .ok (.iconst (-1), 1) := by decide +kernel
theorem dX9_weddings_2 : decode cX9_weddings 2 = .ok (.if_icmp .eq 14, 3) := by decide +kernel
theorem dX9_weddings_5 : decode cX9_weddings 5 = .ok (.aload_n 0, 1) := by decide +kernel
theorem dX9_weddings_6 : decode cX9_weddings 6 = .ok (.iload_n 1, 1) := by decide +kernel
theorem dX9_weddings_7 : decode cX9_weddings 7 = .ok (.invokevirtual 69, 3) := by decide +kernel
theorem dX9_weddings_10 : decode cX9_weddings 10 = .ok (.ifCond .ne 6, 3) := by decide +kernel
theorem dX9_weddings_13 : decode cX9_weddings 13 = .ok (.bipush (-2), 2) := by decide +kernel
theorem dX9_weddings_15 : decode cX9_weddings 15 = .ok (.ireturn, 1) := by decide +kernel
theorem dX9_weddings_16 : decode cX9_weddings 16 = .ok (.aload_n 0, 1) := by decide +kernel
theorem dX9_weddings_17 : decode cX9_weddings 17 = .ok (.invokevirtual 467, 3) := by decide +kernel
theorem dX9_weddings_20 : decode cX9_weddings 20 = .ok (.istore_n 2, 1) := by decide +kernel
theorem dX9_weddings_21 : decode cX9_weddings 21 = .ok (.iload_n 1, 1) := by decide +kernel
theorem dX9_weddings_22 : decode cX9_weddings 22 = .ok (.iconst (-1), 1) := by decide +kernel
theorem dX9_weddings_23 : decode cX9_weddings 23 = .ok (.if_icmp .ne 7, 3) := by decide +kernel
theorem dX9_weddings_26 : decode cX9_weddings 26 = .ok (.iload_n 2, 1) := by decide +kernel
theorem dX9_weddings_27 : decode cX9_weddings 27 = .ok (.goto 9, 3) := by decide +kernel
theorem dX9_weddings_30 : decode cX9_weddings 30 = .ok (.aload_n 0, 1) := by decide +kernel
theorem dX9_weddings_31 : decode cX9_weddings 31 = .ok (.getfield 58, 3) := by decide +kernel
theorem dX9_weddings_34 : decode cX9_weddings 34 = .ok (.iload_n 1, 1) := by decide +kernel
theorem dX9_weddings_35 : decode cX9_weddings 35 = .ok (.iaload, 1) := by decide +kernel
theorem dX9_weddings_36 : decode cX9_weddings 36 = .ok (.ireturn, 1) := by decide +kernel
def lX9_weddings_16 (F : Nat)  (t : Nat) (a1 : Int32) (S : mS)  : Option (mS × Int32) := bd (f_X9_wed F S t) fun q1 => if a1 = (-1 : Int32) then (some (q1.1, q1.2)) else (ck (inb a1 7) (some (q1.1, q1.1.1 (t + 14) a1.toNatClampNeg)))
set_option maxHeartbeats 4000000 in
set_option maxRecDepth 100000 in
theorem gX9_weddings_16 {x : mX} {F : Nat} {t : Nat} {a1 : Int32}  {R : mS × Int32} (ht : kd0 t = 9)  (S : mS)   (h : lX9_weddings_16 F  t a1 S  = some R) : mG x μX9_weddings 7 0 0 (mQe R.1 (some (.int R.2))) 0 0 E0 S 16 [(0, .ref (t)), (1, .int (a1))] [] := by
  unfold lX9_weddings_16 at h
  refine mG.aload_n 0 dX9_weddings_16 rfl ?_
  obtain ⟨q1, hq1, h⟩ := bdp h
  refine mG.callV0 (as := []) (st := []) (S2 := q1.1) (r := some (.int (q1.2))) dX9_weddings_17 mvX9_wed wk59_15 rfl ht rfl (by decide) (Nat.le_of_ble_eq_true rfl) (c_X9_wed ht hq1) ?_
  refine mG.istore_n (lv2 := [(2, .int (q1.2)), (0, .ref (t)), (1, .int (a1))]) dX9_weddings_20 rfl (by decide) rfl ?_
  refine mG.iload_n 2 dX9_weddings_21 rfl ?_
  refine mG.iconst (v := (-1)) dX9_weddings_22 rfl ?_
  refine mG.icmp_ne 30 dX9_weddings_23 (by decide) (fun c3 => ?_) (fun c3 => ?_)
  · replace h := itn c3 h
    refine mG.aload_n 1 dX9_weddings_30 rfl ?_
    refine mG.get (v := .ref (t + 14)) dX9_weddings_31 mfX9_58 ht (lr9_bestMate ht) ?_
    refine mG.iload_n 2 dX9_weddings_34 rfl ?_
    obtain ⟨b2, h⟩ := ckp h
    refine mG.iald dX9_weddings_35 (lk9_bestMate ht) (ll9_bestMate ht) (inbp b2) ?_
    obtain rfl := Option.some.inj h
    exact mG.iret dX9_weddings_36 rfl ⟨rfl, rfl, rfl⟩
  · replace h := itp c3 h
    refine mG.iload_n 0 dX9_weddings_26 rfl ?_
    refine mG.goto 36 dX9_weddings_27 (by decide) ?_
    obtain rfl := Option.some.inj h
    exact mG.iret dX9_weddings_36 rfl ⟨rfl, rfl, rfl⟩
def f_X9_weddings (F : Nat) (S : mS) (t : Nat) (a1 : Int32) : Option (mS × Int32) := if a1 = (-1 : Int32) then (lX9_weddings_16 F  t a1 S ) else (bd (f_X9_isHouse F S t a1) fun q1 => if q1 = true then (lX9_weddings_16 F  t a1 S ) else (some (S, (-2 : Int32))))
set_option maxHeartbeats 4000000 in
set_option maxRecDepth 100000 in
theorem c_X9_weddings {F : Nat} {S : mS} {t : Nat} {a1 : Int32} {R : mS × Int32} (ht : kd0 t = 9) (h : f_X9_weddings F S t a1 = some R) : mCt μX9_weddings 7 0 0 E0 S [.ref (t), .int (a1)] (mQe R.1 (some (.int R.2))) := by
  unfold f_X9_weddings at h
  refine mCt.of (by decide) (Nat.le_of_ble_eq_true rfl) ?_
  intro x
  refine mG.iload_n 1 dX9_weddings_0 rfl ?_
  refine mG.iconst (v := (-1)) dX9_weddings_1 rfl ?_
  refine mG.icmp_eq 16 dX9_weddings_2 (by decide) (fun c3 => ?_) (fun c3 => ?_)
  · replace h := itp c3 h
    refine mG.sub (lv2 := [(0, .ref (t)), (1, .int (a1))]) [0, 1] rfl ?_
    exact gX9_weddings_16 ht   S   h
  · replace h := itn c3 h
    refine mG.aload_n 0 dX9_weddings_5 rfl ?_
    refine mG.iload_n 1 dX9_weddings_6 rfl ?_
    obtain ⟨q1, hq1, h⟩ := bdp h
    refine mG.callV0 (as := [.int (a1)]) (st := []) (S2 := S) (r := some (.int (bI (q1)))) dX9_weddings_7 mvX9_isHouse wk33_0 rfl ht rfl (by decide) (Nat.le_of_ble_eq_true rfl) (c_X9_isHouse ht hq1) ?_
    refine mG.ifz_ne (b := q1) 16 dX9_weddings_10 (by decide) (fun c2 => ?_) (fun c2 => ?_)
    · replace h := itp c2 h
      refine mG.sub (lv2 := [(0, .ref (t)), (1, .int (a1))]) [0, 1] rfl ?_
      exact gX9_weddings_16 ht   S   h
    · replace h := itn c2 h
      refine mG.bipush (v := (-2)) dX9_weddings_13 (by decide) ?_
      obtain rfl := Option.some.inj h
      exact mG.iret dX9_weddings_15 rfl ⟨rfl, rfl, rfl⟩
theorem dX9_twins_0 : decode cX9_twins 0 = .ok (.iconst 0, 1) := by decide +kernel
theorem dX9_twins_1 : decode cX9_twins 1 = .ok (.istore_n 1, 1) := by decide +kernel
theorem dX9_twins_2 : decode cX9_twins 2 = .ok (.iconst 0, 1) := by decide +kernel
theorem dX9_twins_3 : decode cX9_twins 3 = .ok (.istore_n 2, 1) := by decide +kernel
theorem dX9_twins_4 : decode cX9_twins 4 = .ok (.iload_n 2, 1) := by decide +kernel
theorem dX9_twins_5 : decode cX9_twins 5 = .ok (.aload_n 0, 1) := by decide +kernel
theorem dX9_twins_6 : decode cX9_twins 6 = .ok (.getfield 7, 3) := by decide +kernel
theorem dX9_twins_9 : decode cX9_twins 9 = .ok (.iconst 0, 1) := by decide +kernel
theorem dX9_twins_10 : decode cX9_twins 10 = .ok (.iaload, 1) := by decide +kernel
theorem dX9_twins_11 : decode cX9_twins 11 = .ok (.if_icmp .ge 61, 3) := by decide +kernel
theorem dX9_twins_14 : decode cX9_twins 14 = .ok (.iconst 0, 1) := by decide +kernel
theorem dX9_twins_15 : decode cX9_twins 15 = .ok (.istore_n 3, 1) := by decide +kernel
theorem dX9_twins_16 : decode cX9_twins 16 = .ok (.iload_n 3, 1) := by decide +kernel
theorem dX9_twins_17 : decode cX9_twins 17 = .ok (.iload_n 2, 1) := by decide +kernel
theorem dX9_twins_18 : decode cX9_twins 18 = .ok (.if_icmp .ge 48, 3) := by decide +kernel
theorem dX9_twins_21 : decode cX9_twins 21 = .ok (.iload_n 1, 1) := by decide +kernel
theorem dX9_twins_22 : decode cX9_twins 22 = .ok (.aload_n 0, 1) := by decide +kernel
theorem dX9_twins_23 : decode cX9_twins 23 = .ok (.iload_n 2, 1) := by decide +kernel
theorem dX9_twins_24 : decode cX9_twins 24 = .ok (.invokevirtual 77, 3) := by decide +kernel
theorem dX9_twins_27 : decode cX9_twins 27 = .ok (.ifCond .eq 30, 3) := by decide +kernel
theorem dX9_twins_30 : decode cX9_twins 30 = .ok (.aload_n 0, 1) := by decide +kernel
theorem dX9_twins_31 : decode cX9_twins 31 = .ok (.iload_n 3, 1) := by decide +kernel
theorem dX9_twins_32 : decode cX9_twins 32 = .ok (.invokevirtual 77, 3) := by decide +kernel
theorem dX9_twins_35 : decode cX9_twins 35 = .ok (.ifCond .eq 22, 3) := by decide +kernel
theorem dX9_twins_38 : decode cX9_twins 38 = .ok (.aload_n 0, 1) := by decide +kernel
theorem dX9_twins_39 : decode cX9_twins 39 = .ok (.iload_n 2, 1) := by decide +kernel
theorem dX9_twins_40 : decode cX9_twins 40 = .ok (.iconst 0, 1) := by decide +kernel
theorem dX9_twins_41 : decode cX9_twins 41 = .ok (.invokevirtual 73, 3) := by decide +kernel
theorem dX9_twins_44 : decode cX9_twins 44 = .ok (.aload_n 0, 1) := by decide +kernel
theorem dX9_twins_45 : decode cX9_twins 45 = .ok (.iload_n 3, 1) := by decide +kernel
theorem dX9_twins_46 : decode cX9_twins 46 = .ok (.iconst 0, 1) := by decide +kernel
theorem dX9_twins_47 : decode cX9_twins 47 = .ok (.invokevirtual 73, 3) := by decide +kernel
theorem dX9_twins_50 : decode cX9_twins 50 = .ok (.if_icmp .ne 7, 3) := by decide +kernel
theorem dX9_twins_53 : decode cX9_twins 53 = .ok (.iconst 1, 1) := by decide +kernel
theorem dX9_twins_54 : decode cX9_twins 54 = .ok (.goto 4, 3) := by decide +kernel
theorem dX9_twins_57 : decode cX9_twins 57 = .ok (.iconst 0, 1) := by decide +kernel
theorem dX9_twins_58 : decode cX9_twins 58 = .ok (.iadd, 1) := by decide +kernel
theorem dX9_twins_59 : decode cX9_twins 59 = .ok (.istore_n 1, 1) := by decide +kernel
theorem dX9_twins_60 : decode cX9_twins 60 = .ok (.iinc 3 1, 3) := by decide +kernel
theorem dX9_twins_63 : decode cX9_twins 63 = .ok (.goto (-47), 3) := by decide +kernel
theorem dX9_twins_66 : decode cX9_twins 66 = .ok (.iinc 2 1, 3) := by decide +kernel
theorem dX9_twins_69 : decode cX9_twins 69 = .ok (.goto (-65), 3) := by decide +kernel
theorem dX9_twins_72 : decode cX9_twins 72 = .ok (.iload_n 1, 1) := by decide +kernel
theorem dX9_twins_73 : decode cX9_twins 73 = .ok (.ireturn, 1) := by decide +kernel
def lX9_twins_16 (F : Nat) (K4 : Int32 → Int32 → Option Int32) (t : Nat) : Nat → mS → Int32 → Int32 → Int32 → Option Int32
  | 0, _, _, _, _ => none
  | n + 1, S0, v1, v2, v3 => if v2 ≤ v3 then (K4 v1 (v2 + 1)) else (bd (f_X9_isHere F S0 t v2) fun q1 => if q1 = true then (bd (f_X9_isHere F S0 t v3) fun q2 => if q2 = true then (bd (f_X9_get F S0 t v2 (0 : Int32)) fun q3 => bd (f_X9_get F S0 t v3 (0 : Int32)) fun q4 => if q3 = q4 then (lX9_twins_16 F K4 t n S0 (v1 + (1 : Int32)) v2 (v3 + 1)) else (lX9_twins_16 F K4 t n S0 (v1 + (0 : Int32)) v2 (v3 + 1))) else (lX9_twins_16 F K4 t n S0 (v1 + (0 : Int32)) v2 (v3 + 1))) else (lX9_twins_16 F K4 t n S0 (v1 + (0 : Int32)) v2 (v3 + 1)))
set_option maxHeartbeats 4000000 in
set_option maxRecDepth 100000 in
theorem gX9_twins_16 {x : mX} {F : Nat} {t : Nat} {S0 : mS}  {K4 : Int32 → Int32 → Option Int32} {R : Int32} (ht : kd0 t = 9) (hK4 : ∀ (v1 : Int32) (v2 : Int32) , K4 v1 v2 = some R → mG x μX9_twins 4 0 0 (mQe S0 (some (.int R))) 0 0 E0 S0 4 [(0, .ref (t)), (1, .int (v1)), (2, .int (v2))] []) : ∀ (n : Nat) (v1 : Int32) (v2 : Int32) (v3 : Int32), lX9_twins_16 F K4 t n S0 v1 v2 v3 = some R → mG x μX9_twins 4 0 0 (mQe S0 (some (.int R))) 0 0 E0 S0 16 [(0, .ref (t)), (1, .int (v1)), (2, .int (v2)), (3, .int (v3))] [] := by
  intro n
  induction n with
  | zero =>
    intro v1 v2 v3 h
    cases h
  | succ n ih =>
    intro v1 v2 v3 h
    unfold lX9_twins_16 at h
    refine mG.iload_n 3 dX9_twins_16 rfl ?_
    refine mG.iload_n 2 dX9_twins_17 rfl ?_
    refine mG.icmp_ge 66 dX9_twins_18 (by decide) (fun c8 => ?_) (fun c8 => ?_)
    · replace h := itp c8 h
      refine mG.iinc 2 (u := v2 + 1) (lv2 := [(2, .int (v2 + 1)), (0, .ref (t)), (1, .int (v1)), (3, .int (v3))]) dX9_twins_66 rfl rfl (by decide) rfl ?_
      refine mG.goto 4 dX9_twins_69 (by decide) ?_
      refine mG.sub (lv2 := [(0, .ref (t)), (1, .int (v1)), (2, .int (v2 + 1))]) [1, 2, 0] rfl ?_
      exact hK4  v1 (v2 + 1)  h
    · replace h := itn c8 h
      refine mG.iload_n 1 dX9_twins_21 rfl ?_
      refine mG.aload_n 0 dX9_twins_22 rfl ?_
      refine mG.iload_n 2 dX9_twins_23 rfl ?_
      obtain ⟨q1, hq1, h⟩ := bdp h
      refine mG.callV0 (as := [.int (v2)]) (st := [.int (v1)]) (S2 := S0) (r := some (.int (bI (q1)))) dX9_twins_24 mvX9_isHere wk32_20 rfl ht rfl (by decide) (Nat.le_of_ble_eq_true rfl) (c_X9_isHere ht hq1) ?_
      refine mG.ifz_eq (b := q1) 57 dX9_twins_27 (by decide) (fun c7 => ?_) (fun c7 => ?_)
      · replace h := itn c7 h
        refine mG.iconst (v := 0) dX9_twins_57 rfl ?_
        refine mG.iadd dX9_twins_58 ?_
        refine mG.istore_n (lv2 := [(1, .int (v1 + (0 : Int32))), (0, .ref (t)), (2, .int (v2)), (3, .int (v3))]) dX9_twins_59 rfl (by decide) rfl ?_
        refine mG.iinc 3 (u := v3 + 1) (lv2 := [(3, .int (v3 + 1)), (1, .int (v1 + (0 : Int32))), (0, .ref (t)), (2, .int (v2))]) dX9_twins_60 rfl rfl (by decide) rfl ?_
        refine mG.goto 16 dX9_twins_63 (by decide) ?_
        refine mG.sub (lv2 := [(0, .ref (t)), (1, .int (v1 + (0 : Int32))), (2, .int (v2)), (3, .int (v3 + 1))]) [2, 1, 3, 0] rfl ?_
        exact ih  (v1 + (0 : Int32)) v2 (v3 + 1)  h
      · replace h := itp c7 h
        refine mG.aload_n 0 dX9_twins_30 rfl ?_
        refine mG.iload_n 3 dX9_twins_31 rfl ?_
        obtain ⟨q2, hq2, h⟩ := bdp h
        refine mG.callV0 (as := [.int (v3)]) (st := [.int (v1)]) (S2 := S0) (r := some (.int (bI (q2)))) dX9_twins_32 mvX9_isHere wk32_20 rfl ht rfl (by decide) (Nat.le_of_ble_eq_true rfl) (c_X9_isHere ht hq2) ?_
        refine mG.ifz_eq (b := q2) 57 dX9_twins_35 (by decide) (fun c6 => ?_) (fun c6 => ?_)
        · replace h := itn c6 h
          refine mG.iconst (v := 0) dX9_twins_57 rfl ?_
          refine mG.iadd dX9_twins_58 ?_
          refine mG.istore_n (lv2 := [(1, .int (v1 + (0 : Int32))), (0, .ref (t)), (2, .int (v2)), (3, .int (v3))]) dX9_twins_59 rfl (by decide) rfl ?_
          refine mG.iinc 3 (u := v3 + 1) (lv2 := [(3, .int (v3 + 1)), (1, .int (v1 + (0 : Int32))), (0, .ref (t)), (2, .int (v2))]) dX9_twins_60 rfl rfl (by decide) rfl ?_
          refine mG.goto 16 dX9_twins_63 (by decide) ?_
          refine mG.sub (lv2 := [(0, .ref (t)), (1, .int (v1 + (0 : Int32))), (2, .int (v2)), (3, .int (v3 + 1))]) [2, 1, 3, 0] rfl ?_
          exact ih  (v1 + (0 : Int32)) v2 (v3 + 1)  h
        · replace h := itp c6 h
          refine mG.aload_n 0 dX9_twins_38 rfl ?_
          refine mG.iload_n 2 dX9_twins_39 rfl ?_
          refine mG.iconst (v := 0) dX9_twins_40 rfl ?_
          obtain ⟨q3, hq3, h⟩ := bdp h
          refine mG.callV0 (as := [.int (v2), .int 0]) (st := [.int (v1)]) (S2 := S0) (r := some (.int (q3))) dX9_twins_41 mvX9_get wk7_23 rfl ht rfl (by decide) (Nat.le_of_ble_eq_true rfl) (c_X9_get ht hq3) ?_
          refine mG.aload_n 0 dX9_twins_44 rfl ?_
          refine mG.iload_n 3 dX9_twins_45 rfl ?_
          refine mG.iconst (v := 0) dX9_twins_46 rfl ?_
          obtain ⟨q4, hq4, h⟩ := bdp h
          refine mG.callV0 (as := [.int (v3), .int 0]) (st := [.int (q3), .int (v1)]) (S2 := S0) (r := some (.int (q4))) dX9_twins_47 mvX9_get wk7_23 rfl ht rfl (by decide) (Nat.le_of_ble_eq_true rfl) (c_X9_get ht hq4) ?_
          refine mG.icmp_ne 57 dX9_twins_50 (by decide) (fun c5 => ?_) (fun c5 => ?_)
          · replace h := itn c5 h
            refine mG.iconst (v := 0) dX9_twins_57 rfl ?_
            refine mG.iadd dX9_twins_58 ?_
            refine mG.istore_n (lv2 := [(1, .int (v1 + (0 : Int32))), (0, .ref (t)), (2, .int (v2)), (3, .int (v3))]) dX9_twins_59 rfl (by decide) rfl ?_
            refine mG.iinc 3 (u := v3 + 1) (lv2 := [(3, .int (v3 + 1)), (1, .int (v1 + (0 : Int32))), (0, .ref (t)), (2, .int (v2))]) dX9_twins_60 rfl rfl (by decide) rfl ?_
            refine mG.goto 16 dX9_twins_63 (by decide) ?_
            refine mG.sub (lv2 := [(0, .ref (t)), (1, .int (v1 + (0 : Int32))), (2, .int (v2)), (3, .int (v3 + 1))]) [2, 1, 3, 0] rfl ?_
            exact ih  (v1 + (0 : Int32)) v2 (v3 + 1)  h
          · replace h := itp c5 h
            refine mG.iconst (v := 1) dX9_twins_53 rfl ?_
            refine mG.goto 58 dX9_twins_54 (by decide) ?_
            refine mG.iadd dX9_twins_58 ?_
            refine mG.istore_n (lv2 := [(1, .int (v1 + (1 : Int32))), (0, .ref (t)), (2, .int (v2)), (3, .int (v3))]) dX9_twins_59 rfl (by decide) rfl ?_
            refine mG.iinc 3 (u := v3 + 1) (lv2 := [(3, .int (v3 + 1)), (1, .int (v1 + (1 : Int32))), (0, .ref (t)), (2, .int (v2))]) dX9_twins_60 rfl rfl (by decide) rfl ?_
            refine mG.goto 16 dX9_twins_63 (by decide) ?_
            refine mG.sub (lv2 := [(0, .ref (t)), (1, .int (v1 + (1 : Int32))), (2, .int (v2)), (3, .int (v3 + 1))]) [2, 1, 3, 0] rfl ?_
            exact ih  (v1 + (1 : Int32)) v2 (v3 + 1)  h
def lX9_twins_4 (F : Nat)  (t : Nat) : Nat → mS → Int32 → Int32 → Option Int32
  | 0, _, _, _ => none
  | n + 1, S0, v1, v2 => ck (inb (0 : Int32) 2308) (if (S0.1 (t + 1) (0 : Int32).toNatClampNeg) ≤ v2 then (some v1) else (lX9_twins_16 F (fun (v1 : Int32) (v2 : Int32) => lX9_twins_4 F  t n S0 v1 v2) t F S0 v1 v2 (0 : Int32)))
set_option maxHeartbeats 4000000 in
set_option maxRecDepth 100000 in
theorem gX9_twins_4 {x : mX} {F : Nat} {t : Nat} {S0 : mS}   {R : Int32} (ht : kd0 t = 9)  : ∀ (n : Nat) (v1 : Int32) (v2 : Int32), lX9_twins_4 F  t n S0 v1 v2 = some R → mG x μX9_twins 4 0 0 (mQe S0 (some (.int R))) 0 0 E0 S0 4 [(0, .ref (t)), (1, .int (v1)), (2, .int (v2))] [] := by
  intro n
  induction n with
  | zero =>
    intro v1 v2 h
    cases h
  | succ n ih =>
    intro v1 v2 h
    unfold lX9_twins_4 at h
    refine mG.iload_n 2 dX9_twins_4 rfl ?_
    refine mG.aload_n 0 dX9_twins_5 rfl ?_
    refine mG.get (v := .ref (t + 1)) dX9_twins_6 mfX9_7 ht (lr9_a ht) ?_
    refine mG.iconst (v := 0) dX9_twins_9 rfl ?_
    obtain ⟨b1, h⟩ := ckp h
    refine mG.iald dX9_twins_10 (lk9_a ht) (ll9_a ht) (inbp b1) ?_
    refine mG.icmp_ge 72 dX9_twins_11 (by decide) (fun c2 => ?_) (fun c2 => ?_)
    · replace h := itp c2 h
      refine mG.iload_n 1 dX9_twins_72 rfl ?_
      obtain rfl := Option.some.inj h
      exact mG.iret dX9_twins_73 rfl ⟨rfl, rfl, rfl⟩
    · replace h := itn c2 h
      refine mG.iconst (v := 0) dX9_twins_14 rfl ?_
      refine mG.istore_n (lv2 := [(3, .int 0), (0, .ref (t)), (1, .int (v1)), (2, .int (v2))]) dX9_twins_15 rfl (by decide) rfl ?_
      refine mG.sub (lv2 := [(0, .ref (t)), (1, .int (v1)), (2, .int (v2)), (3, .int 0)]) [1, 2, 3, 0] rfl ?_
      exact gX9_twins_16 ht (fun v1 v2 h => by exact ih  v1 v2  h) F  v1 v2 (0 : Int32)  h
def f_X9_twins (F : Nat) (S0 : mS) (t : Nat) : Option Int32 := lX9_twins_4 F  t F S0 (0 : Int32) (0 : Int32)
set_option maxHeartbeats 4000000 in
set_option maxRecDepth 100000 in
theorem c_X9_twins {F : Nat} {S0 : mS} {t : Nat} {R : Int32} (ht : kd0 t = 9) (h : f_X9_twins F S0 t = some R) : mCt μX9_twins 4 0 0 E0 S0 [.ref (t)] (mQe S0 (some (.int R))) := by
  unfold f_X9_twins at h
  refine mCt.of (by decide) (Nat.le_of_ble_eq_true rfl) ?_
  intro x
  refine mG.iconst (v := 0) dX9_twins_0 rfl ?_
  refine mG.istore_n (lv2 := [(1, .int 0), (0, .ref (t))]) dX9_twins_1 rfl (by decide) rfl ?_
  refine mG.iconst (v := 0) dX9_twins_2 rfl ?_
  refine mG.istore_n (lv2 := [(2, .int 0), (1, .int 0), (0, .ref (t))]) dX9_twins_3 rfl (by decide) rfl ?_
  refine mG.sub (lv2 := [(0, .ref (t)), (1, .int 0), (2, .int 0)]) [2, 1, 0] rfl ?_
  exact gX9_twins_4 ht  F  (0 : Int32) (0 : Int32)  h
theorem dX9_gossip_0 : decode cX9_gossip 0 = .ok (.iload_n 1, 1) := by decide +kernel
theorem dX9_gossip_1 : decode cX9_gossip 1 = .ok (.iconst (-1), 1) := by decide +kernel
theorem dX9_gossip_2 : decode cX9_gossip 2 = .ok (.if_icmp .ne 12, 3) := by decide +kernel
theorem dX9_gossip_5 : decode cX9_gossip 5 = .ok (.aload_n 0, 1) := by decide +kernel
theorem dX9_gossip_6 : decode cX9_gossip 6 = .ok (.getfield 7, 3) := by decide +kernel
theorem dX9_gossip_9 : decode cX9_gossip 9 = .ok (.iconst 5, 1) := by decide +kernel
theorem dX9_gossip_10 : decode cX9_gossip 10 = .ok (.iconst 0, 1) := by decide +kernel
theorem dX9_gossip_11 : decode cX9_gossip 11 = .ok (.iastore, 1) := by decide +kernel
theorem dX9_gossip_12 : decode cX9_gossip 12 = .ok (.iconst 0, 1) := by decide +kernel
theorem dX9_gossip_13 : decode cX9_gossip 13 = .ok (.ireturn, 1) := by decide +kernel
theorem dX9_gossip_14 : decode cX9_gossip 14 = .ok (.aload_n 0, 1) := by decide +kernel
theorem dX9_gossip_15 : decode cX9_gossip 15 = .ok (.iload_n 1, 1) := by decide +kernel
theorem dX9_gossip_16 : decode cX9_gossip 16 = .ok (.invokevirtual 69, 3) := by decide +kernel
theorem dX9_gossip_19 : decode cX9_gossip 19 = .ok (.ifCond .eq 27, 3) := by decide +kernel
theorem dX9_gossip_22 : decode cX9_gossip 22 = .ok (.aload_n 0, 1) := by decide +kernel
theorem dX9_gossip_23 : decode cX9_gossip 23 = .ok (.iload_n 2, 1) := by decide +kernel
theorem dX9_gossip_24 : decode cX9_gossip 24 = .ok (.invokevirtual 69, 3) := by decide +kernel
theorem dX9_gossip_27 : decode cX9_gossip 27 = .ok (.ifCond .eq 19, 3) := by decide +kernel
theorem dX9_gossip_30 : decode cX9_gossip 30 = .ok (.iload_n 1, 1) := by decide +kernel
theorem dX9_gossip_31 : decode cX9_gossip 31 = .ok (.iload_n 2, 1) := by decide +kernel
theorem dX9_gossip_32 : decode cX9_gossip 32 = .ok (.if_icmp .eq 14, 3) := by decide +kernel
theorem dX9_gossip_35 : decode cX9_gossip 35 = .ok (.aload_n 0, 1) := by decide +kernel
theorem dX9_gossip_36 : decode cX9_gossip 36 = .ok (.getfield 7, 3) := by decide +kernel
theorem dX9_gossip_39 : decode cX9_gossip 39 = .ok (.iconst 5, 1) := by decide +kernel
theorem dX9_gossip_40 : decode cX9_gossip 40 = .ok (.iaload, 1) := by decide +kernel
theorem dX9_gossip_41 : decode cX9_gossip 41 = .ok (.bipush 8, 2) := by decide +kernel
theorem dX9_gossip_43 : decode cX9_gossip 43 = .ok (.if_icmp .ne 6, 3) := by decide +kernel
theorem dX9_gossip_46 : decode cX9_gossip 46 = .ok (.bipush (-2), 2) := by decide +kernel
theorem dX9_gossip_48 : decode cX9_gossip 48 = .ok (.ireturn, 1) := by decide +kernel
theorem dX9_gossip_49 : decode cX9_gossip 49 = .ok (.aload_n 0, 1) := by decide +kernel
theorem dX9_gossip_50 : decode cX9_gossip 50 = .ok (.getfield 7, 3) := by decide +kernel
theorem dX9_gossip_53 : decode cX9_gossip 53 = .ok (.bipush 92, 2) := by decide +kernel
theorem dX9_gossip_55 : decode cX9_gossip 55 = .ok (.iconst 2, 1) := by decide +kernel
theorem dX9_gossip_56 : decode cX9_gossip 56 = .ok (.aload_n 0, 1) := by decide +kernel
theorem dX9_gossip_57 : decode cX9_gossip 57 = .ok (.getfield 7, 3) := by decide +kernel
theorem dX9_gossip_60 : decode cX9_gossip 60 = .ok (.iconst 5, 1) := by decide +kernel
theorem dX9_gossip_61 : decode cX9_gossip 61 = .ok (.iaload, 1) := by decide +kernel
theorem dX9_gossip_62 : decode cX9_gossip 62 = .ok (.imul, 1) := by decide +kernel
theorem dX9_gossip_63 : decode cX9_gossip 63 = .ok (.iadd, 1) := by decide +kernel
theorem dX9_gossip_64 : decode cX9_gossip 64 = .ok (.iload_n 1, 1) := by decide +kernel
theorem dX9_gossip_65 : decode cX9_gossip 65 = .ok (.iastore, 1) := by decide +kernel
theorem dX9_gossip_66 : decode cX9_gossip 66 = .ok (.aload_n 0, 1) := by decide +kernel
theorem dX9_gossip_67 : decode cX9_gossip 67 = .ok (.getfield 7, 3) := by decide +kernel
theorem dX9_gossip_70 : decode cX9_gossip 70 = .ok (.bipush 92, 2) := by decide +kernel
theorem dX9_gossip_72 : decode cX9_gossip 72 = .ok (.iconst 2, 1) := by decide +kernel
theorem dX9_gossip_73 : decode cX9_gossip 73 = .ok (.aload_n 0, 1) := by decide +kernel
theorem dX9_gossip_74 : decode cX9_gossip 74 = .ok (.getfield 7, 3) := by decide +kernel
theorem dX9_gossip_77 : decode cX9_gossip 77 = .ok (.iconst 5, 1) := by decide +kernel
theorem dX9_gossip_78 : decode cX9_gossip 78 = .ok (.iaload, 1) := by decide +kernel
theorem dX9_gossip_79 : decode cX9_gossip 79 = .ok (.imul, 1) := by decide +kernel
theorem dX9_gossip_80 : decode cX9_gossip 80 = .ok (.iadd, 1) := by decide +kernel
theorem dX9_gossip_81 : decode cX9_gossip 81 = .ok (.iconst 1, 1) := by decide +kernel
theorem dX9_gossip_82 : decode cX9_gossip 82 = .ok (.iadd, 1) := by decide +kernel
theorem dX9_gossip_83 : decode cX9_gossip 83 = .ok (.iload_n 2, 1) := by decide +kernel
theorem dX9_gossip_84 : decode cX9_gossip 84 = .ok (.iastore, 1) := by decide +kernel
theorem dX9_gossip_85 : decode cX9_gossip 85 = .ok (.aload_n 0, 1) := by decide +kernel
theorem dX9_gossip_86 : decode cX9_gossip 86 = .ok (.getfield 7, 3) := by decide +kernel
theorem dX9_gossip_89 : decode cX9_gossip 89 = .ok (.iconst 5, 1) := by decide +kernel
theorem dX9_gossip_90 : decode cX9_gossip 90 = .ok (.dup2, 1) := by decide +kernel
theorem dX9_gossip_91 : decode cX9_gossip 91 = .ok (.iaload, 1) := by decide +kernel
theorem dX9_gossip_92 : decode cX9_gossip 92 = .ok (.iconst 1, 1) := by decide +kernel
theorem dX9_gossip_93 : decode cX9_gossip 93 = .ok (.iadd, 1) := by decide +kernel
theorem dX9_gossip_94 : decode cX9_gossip 94 = .ok (.iastore, 1) := by decide +kernel
theorem dX9_gossip_95 : decode cX9_gossip 95 = .ok (.aload_n 0, 1) := by decide +kernel
theorem dX9_gossip_96 : decode cX9_gossip 96 = .ok (.getfield 7, 3) := by decide +kernel
theorem dX9_gossip_99 : decode cX9_gossip 99 = .ok (.iconst 5, 1) := by decide +kernel
theorem dX9_gossip_100 : decode cX9_gossip 100 = .ok (.iaload, 1) := by decide +kernel
theorem dX9_gossip_101 : decode cX9_gossip 101 = .ok (.ireturn, 1) := by decide +kernel
def f_X9_gossip (F : Nat) (S : mS) (t : Nat) (a1 : Int32) (a2 : Int32) : Option (mS × Int32) := if a1 = (-1 : Int32) then (ck (inb (5 : Int32) 2308) (stp (sI S (t + 1) (5 : Int32).toNatClampNeg (0 : Int32)) fun S19 => some (S19, (0 : Int32)))) else (bd (f_X9_isHouse F S t a1) fun q1 => if q1 = true then (bd (f_X9_isHouse F S t a2) fun q2 => if q2 = true then (if a1 = a2 then (some (S, (-2 : Int32))) else (ck (inb (5 : Int32) 2308) (if (S.1 (t + 1) (5 : Int32).toNatClampNeg) = (8 : Int32) then (some (S, (-2 : Int32))) else (ck (inb (5 : Int32) 2308) (ck (inb ((92 : Int32) + ((2 : Int32) * (S.1 (t + 1) (5 : Int32).toNatClampNeg))) 2308) (stp (sI S (t + 1) ((92 : Int32) + ((2 : Int32) * (S.1 (t + 1) (5 : Int32).toNatClampNeg))).toNatClampNeg a1) fun S6 => ck (inb (5 : Int32) 2308) (ck (inb (((92 : Int32) + ((2 : Int32) * (S6.1 (t + 1) (5 : Int32).toNatClampNeg))) + (1 : Int32)) 2308) (stp (sI S6 (t + 1) (((92 : Int32) + ((2 : Int32) * (S6.1 (t + 1) (5 : Int32).toNatClampNeg))) + (1 : Int32)).toNatClampNeg a2) fun S9 => ck (inb (5 : Int32) 2308) (ck (inb (5 : Int32) 2308) (stp (sI S9 (t + 1) (5 : Int32).toNatClampNeg ((S9.1 (t + 1) (5 : Int32).toNatClampNeg) + (1 : Int32))) fun S12 => ck (inb (5 : Int32) 2308) (some (S12, S12.1 (t + 1) (5 : Int32).toNatClampNeg)))))))))))) else (some (S, (-2 : Int32)))) else (some (S, (-2 : Int32))))
set_option maxHeartbeats 4000000 in
set_option maxRecDepth 100000 in
theorem c_X9_gossip {F : Nat} {S : mS} {t : Nat} {a1 : Int32} {a2 : Int32} {R : mS × Int32} (ht : kd0 t = 9) (h : f_X9_gossip F S t a1 a2 = some R) : mCt μX9_gossip 3 0 0 E0 S [.ref (t), .int (a1), .int (a2)] (mQe R.1 (some (.int R.2))) := by
  unfold f_X9_gossip at h
  refine mCt.of (by decide) (Nat.le_of_ble_eq_true rfl) ?_
  intro x
  refine mG.iload_n 1 dX9_gossip_0 rfl ?_
  refine mG.iconst (v := (-1)) dX9_gossip_1 rfl ?_
  refine mG.icmp_ne 14 dX9_gossip_2 (by decide) (fun c20 => ?_) (fun c20 => ?_)
  · replace h := itn c20 h
    refine mG.aload_n 0 dX9_gossip_14 rfl ?_
    refine mG.iload_n 1 dX9_gossip_15 rfl ?_
    obtain ⟨q1, hq1, h⟩ := bdp h
    refine mG.callV0 (as := [.int (a1)]) (st := []) (S2 := S) (r := some (.int (bI (q1)))) dX9_gossip_16 mvX9_isHouse wk33_0 rfl ht rfl (by decide) (Nat.le_of_ble_eq_true rfl) (c_X9_isHouse ht hq1) ?_
    refine mG.ifz_eq (b := q1) 46 dX9_gossip_19 (by decide) (fun c17 => ?_) (fun c17 => ?_)
    · replace h := itn c17 h
      refine mG.bipush (v := (-2)) dX9_gossip_46 (by decide) ?_
      obtain rfl := Option.some.inj h
      exact mG.iret dX9_gossip_48 rfl ⟨rfl, rfl, rfl⟩
    · replace h := itp c17 h
      refine mG.aload_n 0 dX9_gossip_22 rfl ?_
      refine mG.iload_n 2 dX9_gossip_23 rfl ?_
      obtain ⟨q2, hq2, h⟩ := bdp h
      refine mG.callV0 (as := [.int (a2)]) (st := []) (S2 := S) (r := some (.int (bI (q2)))) dX9_gossip_24 mvX9_isHouse wk33_0 rfl ht rfl (by decide) (Nat.le_of_ble_eq_true rfl) (c_X9_isHouse ht hq2) ?_
      refine mG.ifz_eq (b := q2) 46 dX9_gossip_27 (by decide) (fun c16 => ?_) (fun c16 => ?_)
      · replace h := itn c16 h
        refine mG.bipush (v := (-2)) dX9_gossip_46 (by decide) ?_
        obtain rfl := Option.some.inj h
        exact mG.iret dX9_gossip_48 rfl ⟨rfl, rfl, rfl⟩
      · replace h := itp c16 h
        refine mG.iload_n 1 dX9_gossip_30 rfl ?_
        refine mG.iload_n 2 dX9_gossip_31 rfl ?_
        refine mG.icmp_eq 46 dX9_gossip_32 (by decide) (fun c15 => ?_) (fun c15 => ?_)
        · replace h := itp c15 h
          refine mG.bipush (v := (-2)) dX9_gossip_46 (by decide) ?_
          obtain rfl := Option.some.inj h
          exact mG.iret dX9_gossip_48 rfl ⟨rfl, rfl, rfl⟩
        · replace h := itn c15 h
          refine mG.aload_n 0 dX9_gossip_35 rfl ?_
          refine mG.get (v := .ref (t + 1)) dX9_gossip_36 mfX9_7 ht (lr9_a ht) ?_
          refine mG.iconst (v := 5) dX9_gossip_39 rfl ?_
          obtain ⟨b3, h⟩ := ckp h
          refine mG.iald dX9_gossip_40 (lk9_a ht) (ll9_a ht) (inbp b3) ?_
          refine mG.bipush (v := 8) dX9_gossip_41 (by decide) ?_
          refine mG.icmp_ne 49 dX9_gossip_43 (by decide) (fun c14 => ?_) (fun c14 => ?_)
          · replace h := itn c14 h
            refine mG.aload_n 0 dX9_gossip_49 rfl ?_
            refine mG.get (v := .ref (t + 1)) dX9_gossip_50 mfX9_7 ht (lr9_a ht) ?_
            refine mG.bipush (v := 92) dX9_gossip_53 (by decide) ?_
            refine mG.iconst (v := 2) dX9_gossip_55 rfl ?_
            refine mG.aload_n 0 dX9_gossip_56 rfl ?_
            refine mG.get (v := .ref (t + 1)) dX9_gossip_57 mfX9_7 ht (lr9_a ht) ?_
            refine mG.iconst (v := 5) dX9_gossip_60 rfl ?_
            obtain ⟨b4, h⟩ := ckp h
            refine mG.iald dX9_gossip_61 (lk9_a ht) (ll9_a ht) (inbp b4) ?_
            refine mG.imul dX9_gossip_62 ?_
            refine mG.iadd dX9_gossip_63 ?_
            refine mG.iload_n 1 dX9_gossip_64 rfl ?_
            obtain ⟨b5, h⟩ := ckp h
            obtain ⟨S6, hS6, h⟩ := stpp h
            refine mG.iast dX9_gossip_65 (lk9_a ht) (ll9_a ht) (inbp b5) hS6 ?_
            refine mG.aload_n 0 dX9_gossip_66 rfl ?_
            refine mG.get (v := .ref (t + 1)) dX9_gossip_67 mfX9_7 ht (lr9_a ht) ?_
            refine mG.bipush (v := 92) dX9_gossip_70 (by decide) ?_
            refine mG.iconst (v := 2) dX9_gossip_72 rfl ?_
            refine mG.aload_n 0 dX9_gossip_73 rfl ?_
            refine mG.get (v := .ref (t + 1)) dX9_gossip_74 mfX9_7 ht (lr9_a ht) ?_
            refine mG.iconst (v := 5) dX9_gossip_77 rfl ?_
            obtain ⟨b7, h⟩ := ckp h
            refine mG.iald dX9_gossip_78 (lk9_a ht) (ll9_a ht) (inbp b7) ?_
            refine mG.imul dX9_gossip_79 ?_
            refine mG.iadd dX9_gossip_80 ?_
            refine mG.iconst (v := 1) dX9_gossip_81 rfl ?_
            refine mG.iadd dX9_gossip_82 ?_
            refine mG.iload_n 2 dX9_gossip_83 rfl ?_
            obtain ⟨b8, h⟩ := ckp h
            obtain ⟨S9, hS9, h⟩ := stpp h
            refine mG.iast dX9_gossip_84 (lk9_a ht) (ll9_a ht) (inbp b8) hS9 ?_
            refine mG.aload_n 0 dX9_gossip_85 rfl ?_
            refine mG.get (v := .ref (t + 1)) dX9_gossip_86 mfX9_7 ht (lr9_a ht) ?_
            refine mG.iconst (v := 5) dX9_gossip_89 rfl ?_
            refine mG.dup2 dX9_gossip_90 rfl rfl ?_
            obtain ⟨b10, h⟩ := ckp h
            refine mG.iald dX9_gossip_91 (lk9_a ht) (ll9_a ht) (inbp b10) ?_
            refine mG.iconst (v := 1) dX9_gossip_92 rfl ?_
            refine mG.iadd dX9_gossip_93 ?_
            obtain ⟨b11, h⟩ := ckp h
            obtain ⟨S12, hS12, h⟩ := stpp h
            refine mG.iast dX9_gossip_94 (lk9_a ht) (ll9_a ht) (inbp b11) hS12 ?_
            refine mG.aload_n 0 dX9_gossip_95 rfl ?_
            refine mG.get (v := .ref (t + 1)) dX9_gossip_96 mfX9_7 ht (lr9_a ht) ?_
            refine mG.iconst (v := 5) dX9_gossip_99 rfl ?_
            obtain ⟨b13, h⟩ := ckp h
            refine mG.iald dX9_gossip_100 (lk9_a ht) (ll9_a ht) (inbp b13) ?_
            obtain rfl := Option.some.inj h
            exact mG.iret dX9_gossip_101 rfl ⟨rfl, rfl, rfl⟩
          · replace h := itp c14 h
            refine mG.bipush (v := (-2)) dX9_gossip_46 (by decide) ?_
            obtain rfl := Option.some.inj h
            exact mG.iret dX9_gossip_48 rfl ⟨rfl, rfl, rfl⟩
  · replace h := itp c20 h
    refine mG.aload_n 0 dX9_gossip_5 rfl ?_
    refine mG.get (v := .ref (t + 1)) dX9_gossip_6 mfX9_7 ht (lr9_a ht) ?_
    refine mG.iconst (v := 5) dX9_gossip_9 rfl ?_
    refine mG.iconst (v := 0) dX9_gossip_10 rfl ?_
    obtain ⟨b18, h⟩ := ckp h
    obtain ⟨S19, hS19, h⟩ := stpp h
    refine mG.iast dX9_gossip_11 (lk9_a ht) (ll9_a ht) (inbp b18) hS19 ?_
    refine mG.iconst (v := 0) dX9_gossip_12 rfl ?_
    obtain rfl := Option.some.inj h
    exact mG.iret dX9_gossip_13 rfl ⟨rfl, rfl, rfl⟩
theorem dX9_spread_0 : decode cX9_spread 0 = .ok (.iload_n 1, 1) := by decide +kernel
theorem dX9_spread_1 : decode cX9_spread 1 = .ok (.istore_n 2, 1) := by decide +kernel
theorem dX9_spread_2 : decode cX9_spread 2 = .ok (.iconst 0, 1) := by decide +kernel
theorem dX9_spread_3 : decode cX9_spread 3 = .ok (.istore_n 3, 1) := by decide +kernel
theorem dX9_spread_4 : decode cX9_spread 4 = .ok (.iload_n 3, 1) := by decide +kernel
theorem dX9_spread_5 : decode cX9_spread 5 = .ok (.aload_n 0, 1) := by decide +kernel
theorem dX9_spread_6 : decode cX9_spread 6 = .ok (.getfield 7, 3) := by decide +kernel
theorem dX9_spread_9 : decode cX9_spread 9 = .ok (.iconst 5, 1) := by decide +kernel
theorem dX9_spread_10 : decode cX9_spread 10 = .ok (.iaload, 1) := by decide +kernel
theorem dX9_spread_11 : decode cX9_spread 11 = .ok (.if_icmp .ge 45, 3) := by decide +kernel
theorem dX9_spread_14 : decode cX9_spread 14 = .ok (.iload_n 1, 1) := by decide +kernel
theorem dX9_spread_15 : decode cX9_spread 15 = .ok (.aload_n 0, 1) := by decide +kernel
theorem dX9_spread_16 : decode cX9_spread 16 = .ok (.getfield 7, 3) := by decide +kernel
theorem dX9_spread_19 : decode cX9_spread 19 = .ok (.bipush 92, 2) := by decide +kernel
theorem dX9_spread_21 : decode cX9_spread 21 = .ok (.iconst 2, 1) := by decide +kernel
theorem dX9_spread_22 : decode cX9_spread 22 = .ok (.iload_n 3, 1) := by decide +kernel
theorem dX9_spread_23 : decode cX9_spread 23 = .ok (.imul, 1) := by decide +kernel
theorem dX9_spread_24 : decode cX9_spread 24 = .ok (.iadd, 1) := by decide +kernel
theorem dX9_spread_25 : decode cX9_spread 25 = .ok (.iaload, 1) := by decide +kernel
theorem dX9_spread_26 : decode cX9_spread 26 = .ok (.invokestatic 80, 3) := by decide +kernel
theorem dX9_spread_29 : decode cX9_spread 29 = .ok (.ifCond .eq 21, 3) := by decide +kernel
theorem dX9_spread_32 : decode cX9_spread 32 = .ok (.iload_n 2, 1) := by decide +kernel
theorem dX9_spread_33 : decode cX9_spread 33 = .ok (.iconst 1, 1) := by decide +kernel
theorem dX9_spread_34 : decode cX9_spread 34 = .ok (.aload_n 0, 1) := by decide +kernel
theorem dX9_spread_35 : decode cX9_spread 35 = .ok (.getfield 7, 3) := by decide +kernel
theorem dX9_spread_38 : decode cX9_spread 38 = .ok (.bipush 92, 2) := by decide +kernel
theorem dX9_spread_40 : decode cX9_spread 40 = .ok (.iconst 2, 1) := by decide +kernel
theorem dX9_spread_41 : decode cX9_spread 41 = .ok (.iload_n 3, 1) := by decide +kernel
theorem dX9_spread_42 : decode cX9_spread 42 = .ok (.imul, 1) := by decide +kernel
theorem dX9_spread_43 : decode cX9_spread 43 = .ok (.iadd, 1) := by decide +kernel
theorem dX9_spread_44 : decode cX9_spread 44 = .ok (.iconst 1, 1) := by decide +kernel
theorem dX9_spread_45 : decode cX9_spread 45 = .ok (.iadd, 1) := by decide +kernel
theorem dX9_spread_46 : decode cX9_spread 46 = .ok (.iaload, 1) := by decide +kernel
theorem dX9_spread_47 : decode cX9_spread 47 = .ok (.ishl, 1) := by decide +kernel
theorem dX9_spread_48 : decode cX9_spread 48 = .ok (.ior, 1) := by decide +kernel
theorem dX9_spread_49 : decode cX9_spread 49 = .ok (.istore_n 2, 1) := by decide +kernel
theorem dX9_spread_50 : decode cX9_spread 50 = .ok (.iinc 3 1, 3) := by decide +kernel
theorem dX9_spread_53 : decode cX9_spread 53 = .ok (.goto (-49), 3) := by decide +kernel
theorem dX9_spread_56 : decode cX9_spread 56 = .ok (.iload_n 2, 1) := by decide +kernel
theorem dX9_spread_57 : decode cX9_spread 57 = .ok (.ireturn, 1) := by decide +kernel
def lX9_spread_4 (F : Nat)  (t : Nat) (a1 : Int32) : Nat → mS → Int32 → Int32 → Option Int32
  | 0, _, _, _ => none
  | n + 1, S0, v2, v3 => ck (inb (5 : Int32) 2308) (if (S0.1 (t + 1) (5 : Int32).toNatClampNeg) ≤ v3 then (some v2) else (ck (inb ((92 : Int32) + ((2 : Int32) * v3)) 2308) (if (f_X9_has S0 a1 (S0.1 (t + 1) ((92 : Int32) + ((2 : Int32) * v3)).toNatClampNeg)) = true then (ck (inb (((92 : Int32) + ((2 : Int32) * v3)) + (1 : Int32)) 2308) (lX9_spread_4 F  t a1 n S0 (v2 ||| ((1 : Int32) <<< ((S0.1 (t + 1) (((92 : Int32) + ((2 : Int32) * v3)) + (1 : Int32)).toNatClampNeg) &&& 31))) (v3 + 1))) else (lX9_spread_4 F  t a1 n S0 v2 (v3 + 1)))))
set_option maxHeartbeats 4000000 in
set_option maxRecDepth 100000 in
theorem gX9_spread_4 {x : mX} {F : Nat} {t : Nat} {a1 : Int32} {S0 : mS}   {R : Int32} (ht : kd0 t = 9)  : ∀ (n : Nat) (v2 : Int32) (v3 : Int32), lX9_spread_4 F  t a1 n S0 v2 v3 = some R → mG x μX9_spread 2 0 0 (mQe S0 (some (.int R))) 0 0 E0 S0 4 [(0, .ref (t)), (1, .int (a1)), (2, .int (v2)), (3, .int (v3))] [] := by
  intro n
  induction n with
  | zero =>
    intro v2 v3 h
    cases h
  | succ n ih =>
    intro v2 v3 h
    unfold lX9_spread_4 at h
    refine mG.iload_n 3 dX9_spread_4 rfl ?_
    refine mG.aload_n 0 dX9_spread_5 rfl ?_
    refine mG.get (v := .ref (t + 1)) dX9_spread_6 mfX9_7 ht (lr9_a ht) ?_
    refine mG.iconst (v := 5) dX9_spread_9 rfl ?_
    obtain ⟨b1, h⟩ := ckp h
    refine mG.iald dX9_spread_10 (lk9_a ht) (ll9_a ht) (inbp b1) ?_
    refine mG.icmp_ge 56 dX9_spread_11 (by decide) (fun c5 => ?_) (fun c5 => ?_)
    · replace h := itp c5 h
      refine mG.iload_n 2 dX9_spread_56 rfl ?_
      obtain rfl := Option.some.inj h
      exact mG.iret dX9_spread_57 rfl ⟨rfl, rfl, rfl⟩
    · replace h := itn c5 h
      refine mG.iload_n 1 dX9_spread_14 rfl ?_
      refine mG.aload_n 0 dX9_spread_15 rfl ?_
      refine mG.get (v := .ref (t + 1)) dX9_spread_16 mfX9_7 ht (lr9_a ht) ?_
      refine mG.bipush (v := 92) dX9_spread_19 (by decide) ?_
      refine mG.iconst (v := 2) dX9_spread_21 rfl ?_
      refine mG.iload_n 3 dX9_spread_22 rfl ?_
      refine mG.imul dX9_spread_23 ?_
      refine mG.iadd dX9_spread_24 ?_
      obtain ⟨b2, h⟩ := ckp h
      refine mG.iald dX9_spread_25 (lk9_a ht) (ll9_a ht) (inbp b2) ?_
      refine mG.callS0 (as := [.int (a1), .int (S0.1 (t + 1) ((92 : Int32) + ((2 : Int32) * v3)).toNatClampNeg)]) (st := []) (S2 := S0) (r := some (.int (bI (f_X9_has S0 a1 (S0.1 (t + 1) ((92 : Int32) + ((2 : Int32) * v3)).toNatClampNeg))))) dX9_spread_26 mbX9_has wk22_12 wk22_11 rfl rfl (by decide) (Nat.le_of_ble_eq_true rfl) (c_X9_has  rfl) ?_
      refine mG.ifz_eq (b := f_X9_has S0 a1 (S0.1 (t + 1) ((92 : Int32) + ((2 : Int32) * v3)).toNatClampNeg)) 50 dX9_spread_29 (by decide) (fun c4 => ?_) (fun c4 => ?_)
      · replace h := itn c4 h
        refine mG.iinc 3 (u := v3 + 1) (lv2 := [(3, .int (v3 + 1)), (0, .ref (t)), (1, .int (a1)), (2, .int (v2))]) dX9_spread_50 rfl rfl (by decide) rfl ?_
        refine mG.goto 4 dX9_spread_53 (by decide) ?_
        refine mG.sub (lv2 := [(0, .ref (t)), (1, .int (a1)), (2, .int (v2)), (3, .int (v3 + 1))]) [1, 2, 3, 0] rfl ?_
        exact ih  v2 (v3 + 1)  h
      · replace h := itp c4 h
        refine mG.iload_n 2 dX9_spread_32 rfl ?_
        refine mG.iconst (v := 1) dX9_spread_33 rfl ?_
        refine mG.aload_n 0 dX9_spread_34 rfl ?_
        refine mG.get (v := .ref (t + 1)) dX9_spread_35 mfX9_7 ht (lr9_a ht) ?_
        refine mG.bipush (v := 92) dX9_spread_38 (by decide) ?_
        refine mG.iconst (v := 2) dX9_spread_40 rfl ?_
        refine mG.iload_n 3 dX9_spread_41 rfl ?_
        refine mG.imul dX9_spread_42 ?_
        refine mG.iadd dX9_spread_43 ?_
        refine mG.iconst (v := 1) dX9_spread_44 rfl ?_
        refine mG.iadd dX9_spread_45 ?_
        obtain ⟨b3, h⟩ := ckp h
        refine mG.iald dX9_spread_46 (lk9_a ht) (ll9_a ht) (inbp b3) ?_
        refine mG.ishl dX9_spread_47 ?_
        refine mG.ior dX9_spread_48 ?_
        refine mG.istore_n (lv2 := [(2, .int (v2 ||| ((1 : Int32) <<< ((S0.1 (t + 1) (((92 : Int32) + ((2 : Int32) * v3)) + (1 : Int32)).toNatClampNeg) &&& 31)))), (0, .ref (t)), (1, .int (a1)), (3, .int (v3))]) dX9_spread_49 rfl (by decide) rfl ?_
        refine mG.iinc 3 (u := v3 + 1) (lv2 := [(3, .int (v3 + 1)), (2, .int (v2 ||| ((1 : Int32) <<< ((S0.1 (t + 1) (((92 : Int32) + ((2 : Int32) * v3)) + (1 : Int32)).toNatClampNeg) &&& 31)))), (0, .ref (t)), (1, .int (a1))]) dX9_spread_50 rfl rfl (by decide) rfl ?_
        refine mG.goto 4 dX9_spread_53 (by decide) ?_
        refine mG.sub (lv2 := [(0, .ref (t)), (1, .int (a1)), (2, .int (v2 ||| ((1 : Int32) <<< ((S0.1 (t + 1) (((92 : Int32) + ((2 : Int32) * v3)) + (1 : Int32)).toNatClampNeg) &&& 31)))), (3, .int (v3 + 1))]) [2, 3, 1, 0] rfl ?_
        exact ih  (v2 ||| ((1 : Int32) <<< ((S0.1 (t + 1) (((92 : Int32) + ((2 : Int32) * v3)) + (1 : Int32)).toNatClampNeg) &&& 31))) (v3 + 1)  h
def f_X9_spread (F : Nat) (S0 : mS) (t : Nat) (a1 : Int32) : Option Int32 := lX9_spread_4 F  t a1 F S0 a1 (0 : Int32)
set_option maxHeartbeats 4000000 in
set_option maxRecDepth 100000 in
theorem c_X9_spread {F : Nat} {S0 : mS} {t : Nat} {a1 : Int32} {R : Int32} (ht : kd0 t = 9) (h : f_X9_spread F S0 t a1 = some R) : mCt μX9_spread 2 0 0 E0 S0 [.ref (t), .int (a1)] (mQe S0 (some (.int R))) := by
  unfold f_X9_spread at h
  refine mCt.of (by decide) (Nat.le_of_ble_eq_true rfl) ?_
  intro x
  refine mG.iload_n 1 dX9_spread_0 rfl ?_
  refine mG.istore_n (lv2 := [(2, .int (a1)), (0, .ref (t)), (1, .int (a1))]) dX9_spread_1 rfl (by decide) rfl ?_
  refine mG.iconst (v := 0) dX9_spread_2 rfl ?_
  refine mG.istore_n (lv2 := [(3, .int 0), (2, .int (a1)), (0, .ref (t)), (1, .int (a1))]) dX9_spread_3 rfl (by decide) rfl ?_
  refine mG.sub (lv2 := [(0, .ref (t)), (1, .int (a1)), (2, .int (a1)), (3, .int 0)]) [2, 3, 1, 0] rfl ?_
  exact gX9_spread_4 ht  F  a1 (0 : Int32)  h
theorem dX9_knows_0 : decode cX9_knows 0 = .ok (.aload_n 0, 1) := by decide +kernel
theorem dX9_knows_1 : decode cX9_knows 1 = .ok (.iload_n 1, 1) := by decide +kernel
theorem dX9_knows_2 : decode cX9_knows 2 = .ok (.invokevirtual 69, 3) := by decide +kernel
theorem dX9_knows_5 : decode cX9_knows 5 = .ok (.ifCond .eq 11, 3) := by decide +kernel
theorem dX9_knows_8 : decode cX9_knows 8 = .ok (.aload_n 0, 1) := by decide +kernel
theorem dX9_knows_9 : decode cX9_knows 9 = .ok (.iload_n 2, 1) := by decide +kernel
theorem dX9_knows_10 : decode cX9_knows 10 = .ok (.invokevirtual 69, 3) := by decide +kernel
theorem dX9_knows_13 : decode cX9_knows 13 = .ok (.ifCond .ne 5, 3) := by decide +kernel
theorem dX9_knows_16 : decode cX9_knows 16 = .ok (.iconst (-1), 1) := by decide +kernel
theorem dX9_knows_17 : decode cX9_knows 17 = .ok (.ireturn, 1) := by decide +kernel
theorem dX9_knows_18 : decode cX9_knows 18 = .ok (.iconst 1, 1) := by decide +kernel
theorem dX9_knows_19 : decode cX9_knows 19 = .ok (.iload_n 2, 1) := by decide +kernel
theorem dX9_knows_20 : decode cX9_knows 20 = .ok (.ishl, 1) := by decide +kernel
theorem dX9_knows_21 : decode cX9_knows 21 = .ok (.istore_n 3, 1) := by decide +kernel
theorem dX9_knows_22 : decode cX9_knows 22 = .ok (.iconst 0, 1) := by decide +kernel
theorem dX9_knows_23 : decode cX9_knows 23 = .ok (.istore 4, 2) := by decide +kernel
theorem dX9_knows_25 : decode cX9_knows 25 = .ok (.iload 4, 2) := by decide +kernel
theorem dX9_knows_27 : decode cX9_knows 27 = .ok (.bipush 8, 2) := by decide +kernel
theorem dX9_knows_29 : decode cX9_knows 29 = .ok (.if_icmp .ge 26, 3) := by decide +kernel
theorem dX9_knows_32 : decode cX9_knows 32 = .ok (.iload_n 3, 1) := by decide +kernel
theorem dX9_knows_33 : decode cX9_knows 33 = .ok (.iload_n 1, 1) := by decide +kernel
theorem dX9_knows_34 : decode cX9_knows 34 = .ok (.invokestatic 80, 3) := by decide +kernel
theorem dX9_knows_37 : decode cX9_knows 37 = .ok (.ifCond .eq 6, 3) := by decide +kernel
theorem dX9_knows_40 : decode cX9_knows 40 = .ok (.iload 4, 2) := by decide +kernel
theorem dX9_knows_42 : decode cX9_knows 42 = .ok (.ireturn, 1) := by decide +kernel
theorem dX9_knows_43 : decode cX9_knows 43 = .ok (.aload_n 0, 1) := by decide +kernel
theorem dX9_knows_44 : decode cX9_knows 44 = .ok (.iload_n 3, 1) := by decide +kernel
theorem dX9_knows_45 : decode cX9_knows 45 = .ok (.invokevirtual 470, 3) := by decide +kernel
theorem dX9_knows_48 : decode cX9_knows 48 = .ok (.istore_n 3, 1) := by decide +kernel
theorem dX9_knows_49 : decode cX9_knows 49 = .ok (.iinc 4 1, 3) := by decide +kernel
theorem dX9_knows_52 : decode cX9_knows 52 = .ok (.goto (-27), 3) := by decide +kernel
theorem dX9_knows_55 : decode cX9_knows 55 = .ok (.iconst (-1), 1) := by decide +kernel
theorem dX9_knows_56 : decode cX9_knows 56 = .ok (.ireturn, 1) := by decide +kernel
def lX9_knows_25 (F : Nat)  (t : Nat) (a1 : Int32) (a2 : Int32) : Nat → mS → Int32 → Int32 → Option Int32
  | 0, _, _, _ => none
  | n + 1, S0, v3, v4 => if (8 : Int32) ≤ v4 then (some (-1 : Int32)) else (if (f_X9_has S0 v3 a1) = true then (some v4) else (bd (f_X9_spread F S0 t v3) fun q1 => lX9_knows_25 F  t a1 a2 n S0 q1 (v4 + 1)))
set_option maxHeartbeats 4000000 in
set_option maxRecDepth 100000 in
theorem gX9_knows_25 {x : mX} {F : Nat} {t : Nat} {a1 : Int32} {a2 : Int32} {S0 : mS}   {R : Int32} (ht : kd0 t = 9)  : ∀ (n : Nat) (v3 : Int32) (v4 : Int32), lX9_knows_25 F  t a1 a2 n S0 v3 v4 = some R → mG x μX9_knows 3 0 0 (mQe S0 (some (.int R))) 0 0 E0 S0 25 [(0, .ref (t)), (1, .int (a1)), (3, .int (v3)), (4, .int (v4))] [] := by
  intro n
  induction n with
  | zero =>
    intro v3 v4 h
    cases h
  | succ n ih =>
    intro v3 v4 h
    unfold lX9_knows_25 at h
    refine mG.iload 3 dX9_knows_25 rfl ?_
    refine mG.bipush (v := 8) dX9_knows_27 (by decide) ?_
    refine mG.icmp_ge 55 dX9_knows_29 (by decide) (fun c3 => ?_) (fun c3 => ?_)
    · replace h := itp c3 h
      refine mG.iconst (v := (-1)) dX9_knows_55 rfl ?_
      obtain rfl := Option.some.inj h
      exact mG.iret dX9_knows_56 rfl ⟨rfl, rfl, rfl⟩
    · replace h := itn c3 h
      refine mG.iload_n 2 dX9_knows_32 rfl ?_
      refine mG.iload_n 1 dX9_knows_33 rfl ?_
      refine mG.callS0 (as := [.int (v3), .int (a1)]) (st := []) (S2 := S0) (r := some (.int (bI (f_X9_has S0 v3 a1)))) dX9_knows_34 mbX9_has wk22_12 wk22_11 rfl rfl (by decide) (Nat.le_of_ble_eq_true rfl) (c_X9_has  rfl) ?_
      refine mG.ifz_eq (b := f_X9_has S0 v3 a1) 43 dX9_knows_37 (by decide) (fun c2 => ?_) (fun c2 => ?_)
      · replace h := itn c2 h
        refine mG.aload_n 0 dX9_knows_43 rfl ?_
        refine mG.iload_n 2 dX9_knows_44 rfl ?_
        obtain ⟨q1, hq1, h⟩ := bdp h
        refine mG.callV0 (as := [.int (v3)]) (st := []) (S2 := S0) (r := some (.int (q1))) dX9_knows_45 mvX9_spread wk61_15 rfl ht rfl (by decide) (Nat.le_of_ble_eq_true rfl) (c_X9_spread ht hq1) ?_
        refine mG.istore_n (lv2 := [(3, .int (q1)), (0, .ref (t)), (1, .int (a1)), (4, .int (v4))]) dX9_knows_48 rfl (by decide) rfl ?_
        refine mG.iinc 3 (u := v4 + 1) (lv2 := [(4, .int (v4 + 1)), (3, .int (q1)), (0, .ref (t)), (1, .int (a1))]) dX9_knows_49 rfl rfl (by decide) rfl ?_
        refine mG.goto 25 dX9_knows_52 (by decide) ?_
        refine mG.sub (lv2 := [(0, .ref (t)), (1, .int (a1)), (3, .int (q1)), (4, .int (v4 + 1))]) [2, 3, 1, 0] rfl ?_
        exact ih  q1 (v4 + 1)  h
      · replace h := itp c2 h
        refine mG.iload 3 dX9_knows_40 rfl ?_
        obtain rfl := Option.some.inj h
        exact mG.iret dX9_knows_42 rfl ⟨rfl, rfl, rfl⟩
def f_X9_knows (F : Nat) (S0 : mS) (t : Nat) (a1 : Int32) (a2 : Int32) : Option Int32 := bd (f_X9_isHouse F S0 t a1) fun q1 => if q1 = true then (bd (f_X9_isHouse F S0 t a2) fun q2 => if q2 = true then (lX9_knows_25 F  t a1 a2 F S0 ((1 : Int32) <<< (a2 &&& 31)) (0 : Int32)) else (some (-1 : Int32))) else (some (-1 : Int32))
set_option maxHeartbeats 4000000 in
set_option maxRecDepth 100000 in
theorem c_X9_knows {F : Nat} {S0 : mS} {t : Nat} {a1 : Int32} {a2 : Int32} {R : Int32} (ht : kd0 t = 9) (h : f_X9_knows F S0 t a1 a2 = some R) : mCt μX9_knows 3 0 0 E0 S0 [.ref (t), .int (a1), .int (a2)] (mQe S0 (some (.int R))) := by
  unfold f_X9_knows at h
  refine mCt.of (by decide) (Nat.le_of_ble_eq_true rfl) ?_
  intro x
  refine mG.aload_n 0 dX9_knows_0 rfl ?_
  refine mG.iload_n 1 dX9_knows_1 rfl ?_
  obtain ⟨q1, hq1, h⟩ := bdp h
  refine mG.callV0 (as := [.int (a1)]) (st := []) (S2 := S0) (r := some (.int (bI (q1)))) dX9_knows_2 mvX9_isHouse wk33_0 rfl ht rfl (by decide) (Nat.le_of_ble_eq_true rfl) (c_X9_isHouse ht hq1) ?_
  refine mG.ifz_eq (b := q1) 16 dX9_knows_5 (by decide) (fun c4 => ?_) (fun c4 => ?_)
  · replace h := itn c4 h
    refine mG.iconst (v := (-1)) dX9_knows_16 rfl ?_
    obtain rfl := Option.some.inj h
    exact mG.iret dX9_knows_17 rfl ⟨rfl, rfl, rfl⟩
  · replace h := itp c4 h
    refine mG.aload_n 0 dX9_knows_8 rfl ?_
    refine mG.iload_n 2 dX9_knows_9 rfl ?_
    obtain ⟨q2, hq2, h⟩ := bdp h
    refine mG.callV0 (as := [.int (a2)]) (st := []) (S2 := S0) (r := some (.int (bI (q2)))) dX9_knows_10 mvX9_isHouse wk33_0 rfl ht rfl (by decide) (Nat.le_of_ble_eq_true rfl) (c_X9_isHouse ht hq2) ?_
    refine mG.ifz_ne (b := q2) 18 dX9_knows_13 (by decide) (fun c3 => ?_) (fun c3 => ?_)
    · replace h := itp c3 h
      refine mG.iconst (v := 1) dX9_knows_18 rfl ?_
      refine mG.iload_n 2 dX9_knows_19 rfl ?_
      refine mG.ishl dX9_knows_20 ?_
      refine mG.istore_n (lv2 := [(3, .int ((1 : Int32) <<< (a2 &&& 31))), (0, .ref (t)), (1, .int (a1)), (2, .int (a2))]) dX9_knows_21 rfl (by decide) rfl ?_
      refine mG.iconst (v := 0) dX9_knows_22 rfl ?_
      refine mG.istore (lv2 := [(4, .int 0), (3, .int ((1 : Int32) <<< (a2 &&& 31))), (0, .ref (t)), (1, .int (a1)), (2, .int (a2))]) dX9_knows_23 (by decide) rfl ?_
      refine mG.sub (lv2 := [(0, .ref (t)), (1, .int (a1)), (3, .int ((1 : Int32) <<< (a2 &&& 31))), (4, .int 0)]) [2, 3, 1, 0] rfl ?_
      exact gX9_knows_25 ht  F  ((1 : Int32) <<< (a2 &&& 31)) (0 : Int32)  h
    · replace h := itn c3 h
      refine mG.iconst (v := (-1)) dX9_knows_16 rfl ?_
      obtain rfl := Option.some.inj h
      exact mG.iret dX9_knows_17 rfl ⟨rfl, rfl, rfl⟩
theorem dX9_never_0 : decode cX9_never 0 = .ok (.aload_n 0, 1) := by decide +kernel
theorem dX9_never_1 : decode cX9_never 1 = .ok (.iload_n 1, 1) := by decide +kernel
theorem dX9_never_2 : decode cX9_never 2 = .ok (.invokevirtual 69, 3) := by decide +kernel
theorem dX9_never_5 : decode cX9_never 5 = .ok (.ifCond .ne 5, 3) := by decide +kernel
theorem dX9_never_8 : decode cX9_never 8 = .ok (.iconst (-1), 1) := by decide +kernel
theorem dX9_never_9 : decode cX9_never 9 = .ok (.ireturn, 1) := by decide +kernel
theorem dX9_never_10 : decode cX9_never 10 = .ok (.iconst 1, 1) := by decide +kernel
theorem dX9_never_11 : decode cX9_never 11 = .ok (.iload_n 1, 1) := by decide +kernel
theorem dX9_never_12 : decode cX9_never 12 = .ok (.ishl, 1) := by decide +kernel
theorem dX9_never_13 : decode cX9_never 13 = .ok (.istore_n 2, 1) := by decide +kernel
theorem dX9_never_14 : decode cX9_never 14 = .ok (.iconst 0, 1) := by decide +kernel
theorem dX9_never_15 : decode cX9_never 15 = .ok (.istore_n 3, 1) := by decide +kernel
theorem dX9_never_16 : decode cX9_never 16 = .ok (.iload_n 3, 1) := by decide +kernel
theorem dX9_never_17 : decode cX9_never 17 = .ok (.bipush 8, 2) := by decide +kernel
theorem dX9_never_19 : decode cX9_never 19 = .ok (.if_icmp .ge 15, 3) := by decide +kernel
theorem dX9_never_22 : decode cX9_never 22 = .ok (.aload_n 0, 1) := by decide +kernel
theorem dX9_never_23 : decode cX9_never 23 = .ok (.iload_n 2, 1) := by decide +kernel
theorem dX9_never_24 : decode cX9_never 24 = .ok (.invokevirtual 470, 3) := by decide +kernel
theorem dX9_never_27 : decode cX9_never 27 = .ok (.istore_n 2, 1) := by decide +kernel
theorem dX9_never_28 : decode cX9_never 28 = .ok (.iinc 3 1, 3) := by decide +kernel
theorem dX9_never_31 : decode cX9_never 31 = .ok (.goto (-15), 3) := by decide +kernel
theorem dX9_never_34 : decode cX9_never 34 = .ok (.iconst 1, 1) := by decide +kernel
theorem dX9_never_35 : decode cX9_never 35 = .ok (.aload_n 0, 1) := by decide +kernel
theorem dX9_never_36 : decode cX9_never 36 = .ok (.getfield 7, 3) := by decide +kernel
theorem dX9_never_39 : decode cX9_never 39 = .ok (.iconst 0, 1) := by decide +kernel
theorem dX9_never_40 : decode cX9_never 40 = .ok (.iaload, 1) := by decide +kernel
theorem dX9_never_41 : decode cX9_never 41 = .ok (.ishl, 1) := by decide +kernel
theorem dX9_never_42 : decode cX9_never 42 = .ok (.iconst 1, 1) := by decide +kernel
theorem dX9_never_43 : decode cX9_never 43 = .ok (.isub, 1) := by decide +kernel
theorem dX9_never_44 : decode cX9_never 44 = .ok (.iload_n 2, 1) := by decide +kernel
theorem dX9_never_45 : decode cX9_never 45 = .ok (.iconst (-1), 1) := by decide +kernel
theorem dX9_never_46 : decode cX9_never 46 = .ok (.ixor, 1) := by decide +kernel
theorem dX9_never_47 : decode cX9_never 47 = .ok (.iand, 1) := by decide +kernel
theorem dX9_never_48 : decode cX9_never 48 = .ok (.ireturn, 1) := by decide +kernel
def lX9_never_16 (F : Nat)  (t : Nat) (a1 : Int32) : Nat → mS → Int32 → Int32 → Option Int32
  | 0, _, _, _ => none
  | n + 1, S0, v2, v3 => if (8 : Int32) ≤ v3 then (ck (inb (0 : Int32) 2308) (some ((((1 : Int32) <<< ((S0.1 (t + 1) (0 : Int32).toNatClampNeg) &&& 31)) - (1 : Int32)) &&& (v2 ^^^ (-1 : Int32))))) else (bd (f_X9_spread F S0 t v2) fun q2 => lX9_never_16 F  t a1 n S0 q2 (v3 + 1))
set_option maxHeartbeats 4000000 in
set_option maxRecDepth 100000 in
theorem gX9_never_16 {x : mX} {F : Nat} {t : Nat} {a1 : Int32} {S0 : mS}   {R : Int32} (ht : kd0 t = 9)  : ∀ (n : Nat) (v2 : Int32) (v3 : Int32), lX9_never_16 F  t a1 n S0 v2 v3 = some R → mG x μX9_never 3 0 0 (mQe S0 (some (.int R))) 0 0 E0 S0 16 [(0, .ref (t)), (2, .int (v2)), (3, .int (v3))] [] := by
  intro n
  induction n with
  | zero =>
    intro v2 v3 h
    cases h
  | succ n ih =>
    intro v2 v3 h
    unfold lX9_never_16 at h
    refine mG.iload_n 2 dX9_never_16 rfl ?_
    refine mG.bipush (v := 8) dX9_never_17 (by decide) ?_
    refine mG.icmp_ge 34 dX9_never_19 (by decide) (fun c3 => ?_) (fun c3 => ?_)
    · replace h := itp c3 h
      refine mG.iconst (v := 1) dX9_never_34 rfl ?_
      refine mG.aload_n 0 dX9_never_35 rfl ?_
      refine mG.get (v := .ref (t + 1)) dX9_never_36 mfX9_7 ht (lr9_a ht) ?_
      refine mG.iconst (v := 0) dX9_never_39 rfl ?_
      obtain ⟨b1, h⟩ := ckp h
      refine mG.iald dX9_never_40 (lk9_a ht) (ll9_a ht) (inbp b1) ?_
      refine mG.ishl dX9_never_41 ?_
      refine mG.iconst (v := 1) dX9_never_42 rfl ?_
      refine mG.isub dX9_never_43 ?_
      refine mG.iload_n 1 dX9_never_44 rfl ?_
      refine mG.iconst (v := (-1)) dX9_never_45 rfl ?_
      refine mG.ixor dX9_never_46 ?_
      refine mG.iand dX9_never_47 ?_
      obtain rfl := Option.some.inj h
      exact mG.iret dX9_never_48 rfl ⟨rfl, rfl, rfl⟩
    · replace h := itn c3 h
      refine mG.aload_n 0 dX9_never_22 rfl ?_
      refine mG.iload_n 1 dX9_never_23 rfl ?_
      obtain ⟨q2, hq2, h⟩ := bdp h
      refine mG.callV0 (as := [.int (v2)]) (st := []) (S2 := S0) (r := some (.int (q2))) dX9_never_24 mvX9_spread wk61_15 rfl ht rfl (by decide) (Nat.le_of_ble_eq_true rfl) (c_X9_spread ht hq2) ?_
      refine mG.istore_n (lv2 := [(2, .int (q2)), (0, .ref (t)), (3, .int (v3))]) dX9_never_27 rfl (by decide) rfl ?_
      refine mG.iinc 2 (u := v3 + 1) (lv2 := [(3, .int (v3 + 1)), (2, .int (q2)), (0, .ref (t))]) dX9_never_28 rfl rfl (by decide) rfl ?_
      refine mG.goto 16 dX9_never_31 (by decide) ?_
      refine mG.sub (lv2 := [(0, .ref (t)), (2, .int (q2)), (3, .int (v3 + 1))]) [2, 1, 0] rfl ?_
      exact ih  q2 (v3 + 1)  h
def f_X9_never (F : Nat) (S0 : mS) (t : Nat) (a1 : Int32) : Option Int32 := bd (f_X9_isHouse F S0 t a1) fun q1 => if q1 = true then (lX9_never_16 F  t a1 F S0 ((1 : Int32) <<< (a1 &&& 31)) (0 : Int32)) else (some (-1 : Int32))
set_option maxHeartbeats 4000000 in
set_option maxRecDepth 100000 in
theorem c_X9_never {F : Nat} {S0 : mS} {t : Nat} {a1 : Int32} {R : Int32} (ht : kd0 t = 9) (h : f_X9_never F S0 t a1 = some R) : mCt μX9_never 3 0 0 E0 S0 [.ref (t), .int (a1)] (mQe S0 (some (.int R))) := by
  unfold f_X9_never at h
  refine mCt.of (by decide) (Nat.le_of_ble_eq_true rfl) ?_
  intro x
  refine mG.aload_n 0 dX9_never_0 rfl ?_
  refine mG.iload_n 1 dX9_never_1 rfl ?_
  obtain ⟨q1, hq1, h⟩ := bdp h
  refine mG.callV0 (as := [.int (a1)]) (st := []) (S2 := S0) (r := some (.int (bI (q1)))) dX9_never_2 mvX9_isHouse wk33_0 rfl ht rfl (by decide) (Nat.le_of_ble_eq_true rfl) (c_X9_isHouse ht hq1) ?_
  refine mG.ifz_ne (b := q1) 10 dX9_never_5 (by decide) (fun c2 => ?_) (fun c2 => ?_)
  · replace h := itp c2 h
    refine mG.iconst (v := 1) dX9_never_10 rfl ?_
    refine mG.iload_n 1 dX9_never_11 rfl ?_
    refine mG.ishl dX9_never_12 ?_
    refine mG.istore_n (lv2 := [(2, .int ((1 : Int32) <<< (a1 &&& 31))), (0, .ref (t)), (1, .int (a1))]) dX9_never_13 rfl (by decide) rfl ?_
    refine mG.iconst (v := 0) dX9_never_14 rfl ?_
    refine mG.istore_n (lv2 := [(3, .int 0), (2, .int ((1 : Int32) <<< (a1 &&& 31))), (0, .ref (t)), (1, .int (a1))]) dX9_never_15 rfl (by decide) rfl ?_
    refine mG.sub (lv2 := [(0, .ref (t)), (2, .int ((1 : Int32) <<< (a1 &&& 31))), (3, .int 0)]) [2, 1, 0] rfl ?_
    exact gX9_never_16 ht  F  ((1 : Int32) <<< (a1 &&& 31)) (0 : Int32)  h
  · replace h := itn c2 h
    refine mG.iconst (v := (-1)) dX9_never_8 rfl ?_
    obtain rfl := Option.some.inj h
    exact mG.iret dX9_never_9 rfl ⟨rfl, rfl, rfl⟩
theorem dX9_earnedOn_0 : decode cX9_earnedOn 0 = .ok (.aload_n 0, 1) := by decide +kernel
theorem dX9_earnedOn_1 : decode cX9_earnedOn 1 = .ok (.getfield 7, 3) := by decide +kernel
theorem dX9_earnedOn_4 : decode cX9_earnedOn 4 = .ok (.bipush 8, 2) := by decide +kernel
theorem dX9_earnedOn_6 : decode cX9_earnedOn 6 = .ok (.iaload, 1) := by decide +kernel
theorem dX9_earnedOn_7 : decode cX9_earnedOn 7 = .ok (.iload_n 1, 1) := by decide +kernel
theorem dX9_earnedOn_8 : decode cX9_earnedOn 8 = .ok (.aload_n 0, 1) := by decide +kernel
theorem dX9_earnedOn_9 : decode cX9_earnedOn 9 = .ok (.invokevirtual 320, 3) := by decide +kernel
theorem dX9_earnedOn_12 : decode cX9_earnedOn 12 = .ok (.isub, 1) := by decide +kernel
theorem dX9_earnedOn_13 : decode cX9_earnedOn 13 = .ok (.bipush 20, 2) := by decide +kernel
theorem dX9_earnedOn_15 : decode cX9_earnedOn 15 = .ok (.iadd, 1) := by decide +kernel
theorem dX9_earnedOn_16 : decode cX9_earnedOn 16 = .ok (.bipush 20, 2) := by decide +kernel
theorem dX9_earnedOn_18 : decode cX9_earnedOn 18 = .ok (.irem, 1) := by decide +kernel
theorem dX9_earnedOn_19 : decode cX9_earnedOn 19 = .ok (.iadd, 1) := by decide +kernel
theorem dX9_earnedOn_20 : decode cX9_earnedOn 20 = .ok (.istore_n 2, 1) := by decide +kernel
theorem dX9_earnedOn_21 : decode cX9_earnedOn 21 = .ok (.iconst 0, 1) := by decide +kernel
theorem dX9_earnedOn_22 : decode cX9_earnedOn 22 = .ok (.istore_n 3, 1) := by decide +kernel
theorem dX9_earnedOn_23 : decode cX9_earnedOn 23 = .ok (.iconst 0, 1) := by decide +kernel
theorem dX9_earnedOn_24 : decode cX9_earnedOn 24 = .ok (.istore 4, 2) := by decide +kernel
theorem dX9_earnedOn_26 : decode cX9_earnedOn 26 = .ok (.iload 4, 2) := by decide +kernel
theorem dX9_earnedOn_28 : decode cX9_earnedOn 28 = .ok (.aload_n 0, 1) := by decide +kernel
theorem dX9_earnedOn_29 : decode cX9_earnedOn 29 = .ok (.getfield 7, 3) := by decide +kernel
theorem dX9_earnedOn_32 : decode cX9_earnedOn 32 = .ok (.iconst 0, 1) := by decide +kernel
theorem dX9_earnedOn_33 : decode cX9_earnedOn 33 = .ok (.iaload, 1) := by decide +kernel
theorem dX9_earnedOn_34 : decode cX9_earnedOn 34 = .ok (.if_icmp .ge 33, 3) := by decide +kernel
theorem dX9_earnedOn_37 : decode cX9_earnedOn 37 = .ok (.iload_n 3, 1) := by decide +kernel
theorem dX9_earnedOn_38 : decode cX9_earnedOn 38 = .ok (.aload_n 0, 1) := by decide +kernel
theorem dX9_earnedOn_39 : decode cX9_earnedOn 39 = .ok (.iload 4, 2) := by decide +kernel
theorem dX9_earnedOn_41 : decode cX9_earnedOn 41 = .ok (.iload_n 1, 1) := by decide +kernel
theorem dX9_earnedOn_42 : decode cX9_earnedOn 42 = .ok (.invokevirtual 302, 3) := by decide +kernel
theorem dX9_earnedOn_45 : decode cX9_earnedOn 45 = .ok (.ifCond .eq 13, 3) := by decide +kernel
theorem dX9_earnedOn_48 : decode cX9_earnedOn 48 = .ok (.aload_n 0, 1) := by decide +kernel
theorem dX9_earnedOn_49 : decode cX9_earnedOn 49 = .ok (.iload 4, 2) := by decide +kernel
theorem dX9_earnedOn_51 : decode cX9_earnedOn 51 = .ok (.iload_n 2, 1) := by decide +kernel
theorem dX9_earnedOn_52 : decode cX9_earnedOn 52 = .ok (.invokevirtual 326, 3) := by decide +kernel
theorem dX9_earnedOn_55 : decode cX9_earnedOn 55 = .ok (.goto 4, 3) := by decide +kernel
theorem dX9_earnedOn_58 : decode cX9_earnedOn 58 = .ok (.iconst 0, 1) := by decide +kernel
theorem dX9_earnedOn_59 : decode cX9_earnedOn 59 = .ok (.iadd, 1) := by decide +kernel
theorem dX9_earnedOn_60 : decode cX9_earnedOn 60 = .ok (.istore_n 3, 1) := by decide +kernel
theorem dX9_earnedOn_61 : decode cX9_earnedOn 61 = .ok (.iinc 4 1, 3) := by decide +kernel
theorem dX9_earnedOn_64 : decode cX9_earnedOn 64 = .ok (.goto (-38), 3) := by decide +kernel
theorem dX9_earnedOn_67 : decode cX9_earnedOn 67 = .ok (.iload_n 3, 1) := by decide +kernel
theorem dX9_earnedOn_68 : decode cX9_earnedOn 68 = .ok (.ireturn, 1) := by decide +kernel
def lX9_earnedOn_26 (F : Nat)  (t : Nat) (a1 : Int32) : Nat → mS → Int32 → Int32 → Int32 → Option (mS × Int32)
  | 0, _, _, _, _ => none
  | n + 1, S, v2, v3, v4 => ck (inb (0 : Int32) 2308) (if (S.1 (t + 1) (0 : Int32).toNatClampNeg) ≤ v4 then (some (S, v3)) else (bd (f_X9_isOpen F S t v4 a1) fun q2 => if q2 = true then (bd (f_X9_earnsOn F S t v4 v2) fun q3 => lX9_earnedOn_26 F  t a1 n q3.1 v2 (v3 + q3.2) (v4 + 1)) else (lX9_earnedOn_26 F  t a1 n S v2 (v3 + (0 : Int32)) (v4 + 1))))
set_option maxHeartbeats 4000000 in
set_option maxRecDepth 100000 in
theorem gX9_earnedOn_26 {x : mX} {F : Nat} {t : Nat} {a1 : Int32}   {R : mS × Int32} (ht : kd0 t = 9)  : ∀ (n : Nat) (S : mS) (v2 : Int32) (v3 : Int32) (v4 : Int32), lX9_earnedOn_26 F  t a1 n S v2 v3 v4 = some R → mG x μX9_earnedOn 8 0 0 (mQe R.1 (some (.int R.2))) 0 0 E0 S 26 [(0, .ref (t)), (1, .int (a1)), (2, .int (v2)), (3, .int (v3)), (4, .int (v4))] [] := by
  intro n
  induction n with
  | zero =>
    intro S v2 v3 v4 h
    cases h
  | succ n ih =>
    intro S v2 v3 v4 h
    unfold lX9_earnedOn_26 at h
    refine mG.iload 4 dX9_earnedOn_26 rfl ?_
    refine mG.aload_n 0 dX9_earnedOn_28 rfl ?_
    refine mG.get (v := .ref (t + 1)) dX9_earnedOn_29 mfX9_7 ht (lr9_a ht) ?_
    refine mG.iconst (v := 0) dX9_earnedOn_32 rfl ?_
    obtain ⟨b1, h⟩ := ckp h
    refine mG.iald dX9_earnedOn_33 (lk9_a ht) (ll9_a ht) (inbp b1) ?_
    refine mG.icmp_ge 67 dX9_earnedOn_34 (by decide) (fun c5 => ?_) (fun c5 => ?_)
    · replace h := itp c5 h
      refine mG.iload_n 3 dX9_earnedOn_67 rfl ?_
      obtain rfl := Option.some.inj h
      exact mG.iret dX9_earnedOn_68 rfl ⟨rfl, rfl, rfl⟩
    · replace h := itn c5 h
      refine mG.iload_n 3 dX9_earnedOn_37 rfl ?_
      refine mG.aload_n 0 dX9_earnedOn_38 rfl ?_
      refine mG.iload 4 dX9_earnedOn_39 rfl ?_
      refine mG.iload_n 1 dX9_earnedOn_41 rfl ?_
      obtain ⟨q2, hq2, h⟩ := bdp h
      refine mG.callV0 (as := [.int (v4), .int (a1)]) (st := [.int (v3)]) (S2 := S) (r := some (.int (bI (q2)))) dX9_earnedOn_42 mvX9_isOpen wk34_15 rfl ht rfl (by decide) (Nat.le_of_ble_eq_true rfl) (c_X9_isOpen ht hq2) ?_
      refine mG.ifz_eq (b := q2) 58 dX9_earnedOn_45 (by decide) (fun c4 => ?_) (fun c4 => ?_)
      · replace h := itn c4 h
        refine mG.iconst (v := 0) dX9_earnedOn_58 rfl ?_
        refine mG.iadd dX9_earnedOn_59 ?_
        refine mG.istore_n (lv2 := [(3, .int (v3 + (0 : Int32))), (0, .ref (t)), (1, .int (a1)), (2, .int (v2)), (4, .int (v4))]) dX9_earnedOn_60 rfl (by decide) rfl ?_
        refine mG.iinc 4 (u := v4 + 1) (lv2 := [(4, .int (v4 + 1)), (3, .int (v3 + (0 : Int32))), (0, .ref (t)), (1, .int (a1)), (2, .int (v2))]) dX9_earnedOn_61 rfl rfl (by decide) rfl ?_
        refine mG.goto 26 dX9_earnedOn_64 (by decide) ?_
        refine mG.sub (lv2 := [(0, .ref (t)), (1, .int (a1)), (2, .int (v2)), (3, .int (v3 + (0 : Int32))), (4, .int (v4 + 1))]) [2, 3, 4, 1, 0] rfl ?_
        exact ih S v2 (v3 + (0 : Int32)) (v4 + 1)  h
      · replace h := itp c4 h
        refine mG.aload_n 0 dX9_earnedOn_48 rfl ?_
        refine mG.iload 4 dX9_earnedOn_49 rfl ?_
        refine mG.iload_n 2 dX9_earnedOn_51 rfl ?_
        obtain ⟨q3, hq3, h⟩ := bdp h
        refine mG.callV0 (as := [.int (v4), .int (v2)]) (st := [.int (v3)]) (S2 := q3.1) (r := some (.int (q3.2))) dX9_earnedOn_52 mvX9_earnsOn wk41_9 rfl ht rfl (by decide) (Nat.le_of_ble_eq_true rfl) (c_X9_earnsOn ht hq3) ?_
        refine mG.goto 59 dX9_earnedOn_55 (by decide) ?_
        refine mG.iadd dX9_earnedOn_59 ?_
        refine mG.istore_n (lv2 := [(3, .int (v3 + q3.2)), (0, .ref (t)), (1, .int (a1)), (2, .int (v2)), (4, .int (v4))]) dX9_earnedOn_60 rfl (by decide) rfl ?_
        refine mG.iinc 4 (u := v4 + 1) (lv2 := [(4, .int (v4 + 1)), (3, .int (v3 + q3.2)), (0, .ref (t)), (1, .int (a1)), (2, .int (v2))]) dX9_earnedOn_61 rfl rfl (by decide) rfl ?_
        refine mG.goto 26 dX9_earnedOn_64 (by decide) ?_
        refine mG.sub (lv2 := [(0, .ref (t)), (1, .int (a1)), (2, .int (v2)), (3, .int (v3 + q3.2)), (4, .int (v4 + 1))]) [2, 3, 4, 1, 0] rfl ?_
        exact ih q3.1 v2 (v3 + q3.2) (v4 + 1)  h
def f_X9_earnedOn (F : Nat) (S : mS) (t : Nat) (a1 : Int32) : Option (mS × Int32) := ck (inb (8 : Int32) 2308) (bd (f_X9_date F S t) fun q2 => lX9_earnedOn_26 F  t a1 F S ((S.1 (t + 1) (8 : Int32).toNatClampNeg) + (((a1 - q2) + (20 : Int32)) - ((a1 - q2) + (20 : Int32)) / (20 : Int32) * (20 : Int32))) (0 : Int32) (0 : Int32))
set_option maxHeartbeats 4000000 in
set_option maxRecDepth 100000 in
theorem c_X9_earnedOn {F : Nat} {S : mS} {t : Nat} {a1 : Int32} {R : mS × Int32} (ht : kd0 t = 9) (h : f_X9_earnedOn F S t a1 = some R) : mCt μX9_earnedOn 8 0 0 E0 S [.ref (t), .int (a1)] (mQe R.1 (some (.int R.2))) := by
  unfold f_X9_earnedOn at h
  refine mCt.of (by decide) (Nat.le_of_ble_eq_true rfl) ?_
  intro x
  refine mG.aload_n 0 dX9_earnedOn_0 rfl ?_
  refine mG.get (v := .ref (t + 1)) dX9_earnedOn_1 mfX9_7 ht (lr9_a ht) ?_
  refine mG.bipush (v := 8) dX9_earnedOn_4 (by decide) ?_
  obtain ⟨b1, h⟩ := ckp h
  refine mG.iald dX9_earnedOn_6 (lk9_a ht) (ll9_a ht) (inbp b1) ?_
  refine mG.iload_n 1 dX9_earnedOn_7 rfl ?_
  refine mG.aload_n 0 dX9_earnedOn_8 rfl ?_
  obtain ⟨q2, hq2, h⟩ := bdp h
  refine mG.callV0 (as := []) (st := [.int (a1), .int (S.1 (t + 1) (8 : Int32).toNatClampNeg)]) (S2 := S) (r := some (.int (q2))) dX9_earnedOn_9 mvX9_date wk33_12 rfl ht rfl (by decide) (Nat.le_of_ble_eq_true rfl) (c_X9_date ht hq2) ?_
  refine mG.isub dX9_earnedOn_12 ?_
  refine mG.bipush (v := 20) dX9_earnedOn_13 (by decide) ?_
  refine mG.iadd dX9_earnedOn_15 ?_
  refine mG.bipush (v := 20) dX9_earnedOn_16 (by decide) ?_
  refine mG.irem dX9_earnedOn_18 (by decide) ?_
  refine mG.iadd dX9_earnedOn_19 ?_
  refine mG.istore_n (lv2 := [(2, .int ((S.1 (t + 1) (8 : Int32).toNatClampNeg) + (((a1 - q2) + (20 : Int32)) - ((a1 - q2) + (20 : Int32)) / (20 : Int32) * (20 : Int32)))), (0, .ref (t)), (1, .int (a1))]) dX9_earnedOn_20 rfl (by decide) rfl ?_
  refine mG.iconst (v := 0) dX9_earnedOn_21 rfl ?_
  refine mG.istore_n (lv2 := [(3, .int 0), (2, .int ((S.1 (t + 1) (8 : Int32).toNatClampNeg) + (((a1 - q2) + (20 : Int32)) - ((a1 - q2) + (20 : Int32)) / (20 : Int32) * (20 : Int32)))), (0, .ref (t)), (1, .int (a1))]) dX9_earnedOn_22 rfl (by decide) rfl ?_
  refine mG.iconst (v := 0) dX9_earnedOn_23 rfl ?_
  refine mG.istore (lv2 := [(4, .int 0), (3, .int 0), (2, .int ((S.1 (t + 1) (8 : Int32).toNatClampNeg) + (((a1 - q2) + (20 : Int32)) - ((a1 - q2) + (20 : Int32)) / (20 : Int32) * (20 : Int32)))), (0, .ref (t)), (1, .int (a1))]) dX9_earnedOn_24 (by decide) rfl ?_
  refine mG.sub (lv2 := [(0, .ref (t)), (1, .int (a1)), (2, .int ((S.1 (t + 1) (8 : Int32).toNatClampNeg) + (((a1 - q2) + (20 : Int32)) - ((a1 - q2) + (20 : Int32)) / (20 : Int32) * (20 : Int32)))), (3, .int 0), (4, .int 0)]) [3, 4, 2, 1, 0] rfl ?_
  exact gX9_earnedOn_26 ht  F S ((S.1 (t + 1) (8 : Int32).toNatClampNeg) + (((a1 - q2) + (20 : Int32)) - ((a1 - q2) + (20 : Int32)) / (20 : Int32) * (20 : Int32))) (0 : Int32) (0 : Int32)  h
theorem dX9_richest_0 : decode cX9_richest 0 = .ok (.iconst 0, 1) := by decide +kernel
theorem dX9_richest_1 : decode cX9_richest 1 = .ok (.istore_n 2, 1) := by decide +kernel
theorem dX9_richest_2 : decode cX9_richest 2 = .ok (.iconst 1, 1) := by decide +kernel
theorem dX9_richest_3 : decode cX9_richest 3 = .ok (.istore_n 3, 1) := by decide +kernel
theorem dX9_richest_4 : decode cX9_richest 4 = .ok (.iload_n 3, 1) := by decide +kernel
theorem dX9_richest_5 : decode cX9_richest 5 = .ok (.bipush 20, 2) := by decide +kernel
theorem dX9_richest_7 : decode cX9_richest 7 = .ok (.if_icmp .ge 24, 3) := by decide +kernel
theorem dX9_richest_10 : decode cX9_richest 10 = .ok (.aload_n 0, 1) := by decide +kernel
theorem dX9_richest_11 : decode cX9_richest 11 = .ok (.iload_n 3, 1) := by decide +kernel
theorem dX9_richest_12 : decode cX9_richest 12 = .ok (.invokevirtual 473, 3) := by decide +kernel
theorem dX9_richest_15 : decode cX9_richest 15 = .ok (.aload_n 0, 1) := by decide +kernel
theorem dX9_richest_16 : decode cX9_richest 16 = .ok (.iload_n 2, 1) := by decide +kernel
theorem dX9_richest_17 : decode cX9_richest 17 = .ok (.invokevirtual 473, 3) := by decide +kernel
theorem dX9_richest_20 : decode cX9_richest 20 = .ok (.if_icmp .le 5, 3) := by decide +kernel
theorem dX9_richest_23 : decode cX9_richest 23 = .ok (.iload_n 3, 1) := by decide +kernel
theorem dX9_richest_24 : decode cX9_richest 24 = .ok (.istore_n 2, 1) := by decide +kernel
theorem dX9_richest_25 : decode cX9_richest 25 = .ok (.iinc 3 1, 3) := by decide +kernel
theorem dX9_richest_28 : decode cX9_richest 28 = .ok (.goto (-24), 3) := by decide +kernel
theorem dX9_richest_31 : decode cX9_richest 31 = .ok (.iload_n 1, 1) := by decide +kernel
theorem dX9_richest_32 : decode cX9_richest 32 = .ok (.ifCond .eq 11, 3) := by decide +kernel
theorem dX9_richest_35 : decode cX9_richest 35 = .ok (.aload_n 0, 1) := by decide +kernel
theorem dX9_richest_36 : decode cX9_richest 36 = .ok (.iload_n 2, 1) := by decide +kernel
theorem dX9_richest_37 : decode cX9_richest 37 = .ok (.invokevirtual 473, 3) := by decide +kernel
theorem dX9_richest_40 : decode cX9_richest 40 = .ok (.goto 4, 3) := by decide +kernel
theorem dX9_richest_43 : decode cX9_richest 43 = .ok (.iload_n 2, 1) := by decide +kernel
theorem dX9_richest_44 : decode cX9_richest 44 = .ok (.ireturn, 1) := by decide +kernel
def lX9_richest_4 (F : Nat)  (t : Nat) (a1 : Int32) : Nat → mS → Int32 → Int32 → Option (mS × Int32)
  | 0, _, _, _ => none
  | n + 1, S, v2, v3 => if (20 : Int32) ≤ v3 then (if a1 = 0 then (some (S, v2)) else (bd (f_X9_earnedOn F S t v2) fun q1 => some (q1.1, q1.2))) else (bd (f_X9_earnedOn F S t v3) fun q3 => bd (f_X9_earnedOn F q3.1 t v2) fun q4 => if q3.2 ≤ q4.2 then (lX9_richest_4 F  t a1 n q4.1 v2 (v3 + 1)) else (lX9_richest_4 F  t a1 n q4.1 v3 (v3 + 1)))
set_option maxHeartbeats 4000000 in
set_option maxRecDepth 100000 in
theorem gX9_richest_4 {x : mX} {F : Nat} {t : Nat} {a1 : Int32}   {R : mS × Int32} (ht : kd0 t = 9)  : ∀ (n : Nat) (S : mS) (v2 : Int32) (v3 : Int32), lX9_richest_4 F  t a1 n S v2 v3 = some R → mG x μX9_richest 9 0 0 (mQe R.1 (some (.int R.2))) 0 0 E0 S 4 [(0, .ref (t)), (1, .int (a1)), (2, .int (v2)), (3, .int (v3))] [] := by
  intro n
  induction n with
  | zero =>
    intro S v2 v3 h
    cases h
  | succ n ih =>
    intro S v2 v3 h
    unfold lX9_richest_4 at h
    refine mG.iload_n 3 dX9_richest_4 rfl ?_
    refine mG.bipush (v := 20) dX9_richest_5 (by decide) ?_
    refine mG.icmp_ge 31 dX9_richest_7 (by decide) (fun c6 => ?_) (fun c6 => ?_)
    · replace h := itp c6 h
      refine mG.iload_n 1 dX9_richest_31 rfl ?_
      refine mG.if_eq 43 dX9_richest_32 (by decide) (fun c2 => ?_) (fun c2 => ?_)
      · replace h := itp c2 h
        refine mG.iload_n 2 dX9_richest_43 rfl ?_
        obtain rfl := Option.some.inj h
        exact mG.iret dX9_richest_44 rfl ⟨rfl, rfl, rfl⟩
      · replace h := itn c2 h
        refine mG.aload_n 0 dX9_richest_35 rfl ?_
        refine mG.iload_n 2 dX9_richest_36 rfl ?_
        obtain ⟨q1, hq1, h⟩ := bdp h
        refine mG.callV0 (as := [.int (v2)]) (st := []) (S2 := q1.1) (r := some (.int (q1.2))) dX9_richest_37 mvX9_earnedOn wk62_16 rfl ht rfl (by decide) (Nat.le_of_ble_eq_true rfl) (c_X9_earnedOn ht hq1) ?_
        refine mG.goto 44 dX9_richest_40 (by decide) ?_
        obtain rfl := Option.some.inj h
        exact mG.iret dX9_richest_44 rfl ⟨rfl, rfl, rfl⟩
    · replace h := itn c6 h
      refine mG.aload_n 0 dX9_richest_10 rfl ?_
      refine mG.iload_n 3 dX9_richest_11 rfl ?_
      obtain ⟨q3, hq3, h⟩ := bdp h
      refine mG.callV0 (as := [.int (v3)]) (st := []) (S2 := q3.1) (r := some (.int (q3.2))) dX9_richest_12 mvX9_earnedOn wk62_16 rfl ht rfl (by decide) (Nat.le_of_ble_eq_true rfl) (c_X9_earnedOn ht hq3) ?_
      refine mG.aload_n 0 dX9_richest_15 rfl ?_
      refine mG.iload_n 2 dX9_richest_16 rfl ?_
      obtain ⟨q4, hq4, h⟩ := bdp h
      refine mG.callV0 (as := [.int (v2)]) (st := [.int (q3.2)]) (S2 := q4.1) (r := some (.int (q4.2))) dX9_richest_17 mvX9_earnedOn wk62_16 rfl ht rfl (by decide) (Nat.le_of_ble_eq_true rfl) (c_X9_earnedOn ht hq4) ?_
      refine mG.icmp_le 25 dX9_richest_20 (by decide) (fun c5 => ?_) (fun c5 => ?_)
      · replace h := itp c5 h
        refine mG.iinc 3 (u := v3 + 1) (lv2 := [(3, .int (v3 + 1)), (0, .ref (t)), (1, .int (a1)), (2, .int (v2))]) dX9_richest_25 rfl rfl (by decide) rfl ?_
        refine mG.goto 4 dX9_richest_28 (by decide) ?_
        refine mG.sub (lv2 := [(0, .ref (t)), (1, .int (a1)), (2, .int (v2)), (3, .int (v3 + 1))]) [1, 2, 3, 0] rfl ?_
        exact ih q4.1 v2 (v3 + 1)  h
      · replace h := itn c5 h
        refine mG.iload_n 3 dX9_richest_23 rfl ?_
        refine mG.istore_n (lv2 := [(2, .int (v3)), (0, .ref (t)), (1, .int (a1)), (3, .int (v3))]) dX9_richest_24 rfl (by decide) rfl ?_
        refine mG.iinc 3 (u := v3 + 1) (lv2 := [(3, .int (v3 + 1)), (2, .int (v3)), (0, .ref (t)), (1, .int (a1))]) dX9_richest_25 rfl rfl (by decide) rfl ?_
        refine mG.goto 4 dX9_richest_28 (by decide) ?_
        refine mG.sub (lv2 := [(0, .ref (t)), (1, .int (a1)), (2, .int (v3)), (3, .int (v3 + 1))]) [2, 3, 1, 0] rfl ?_
        exact ih q4.1 v3 (v3 + 1)  h
def f_X9_richest (F : Nat) (S : mS) (t : Nat) (a1 : Int32) : Option (mS × Int32) := lX9_richest_4 F  t a1 F S (0 : Int32) (1 : Int32)
set_option maxHeartbeats 4000000 in
set_option maxRecDepth 100000 in
theorem c_X9_richest {F : Nat} {S : mS} {t : Nat} {a1 : Int32} {R : mS × Int32} (ht : kd0 t = 9) (h : f_X9_richest F S t a1 = some R) : mCt μX9_richest 9 0 0 E0 S [.ref (t), .int (a1)] (mQe R.1 (some (.int R.2))) := by
  unfold f_X9_richest at h
  refine mCt.of (by decide) (Nat.le_of_ble_eq_true rfl) ?_
  intro x
  refine mG.iconst (v := 0) dX9_richest_0 rfl ?_
  refine mG.istore_n (lv2 := [(2, .int 0), (0, .ref (t)), (1, .int (a1))]) dX9_richest_1 rfl (by decide) rfl ?_
  refine mG.iconst (v := 1) dX9_richest_2 rfl ?_
  refine mG.istore_n (lv2 := [(3, .int 1), (2, .int 0), (0, .ref (t)), (1, .int (a1))]) dX9_richest_3 rfl (by decide) rfl ?_
  refine mG.sub (lv2 := [(0, .ref (t)), (1, .int (a1)), (2, .int 0), (3, .int 1)]) [2, 3, 1, 0] rfl ?_
  exact gX9_richest_4 ht  F S (0 : Int32) (1 : Int32)  h
theorem dX9_later_0 : decode cX9_later 0 = .ok (.iconst 0, 1) := by decide +kernel
theorem dX9_later_1 : decode cX9_later 1 = .ok (.istore_n 2, 1) := by decide +kernel
theorem dX9_later_2 : decode cX9_later 2 = .ok (.iconst 0, 1) := by decide +kernel
theorem dX9_later_3 : decode cX9_later 3 = .ok (.istore_n 3, 1) := by decide +kernel
theorem dX9_later_4 : decode cX9_later 4 = .ok (.iload_n 3, 1) := by decide +kernel
theorem dX9_later_5 : decode cX9_later 5 = .ok (.bipush 20, 2) := by decide +kernel
theorem dX9_later_7 : decode cX9_later 7 = .ok (.if_icmp .ge 32, 3) := by decide +kernel
theorem dX9_later_10 : decode cX9_later 10 = .ok (.iload_n 2, 1) := by decide +kernel
theorem dX9_later_11 : decode cX9_later 11 = .ok (.iload_n 0, 1) := by decide +kernel
theorem dX9_later_12 : decode cX9_later 12 = .ok (.iload_n 3, 1) := by decide +kernel
theorem dX9_later_13 : decode cX9_later 13 = .ok (.invokestatic 80, 3) := by decide +kernel
theorem dX9_later_16 : decode cX9_later 16 = .ok (.ifCond .eq 14, 3) := by decide +kernel
theorem dX9_later_19 : decode cX9_later 19 = .ok (.iconst 1, 1) := by decide +kernel
theorem dX9_later_20 : decode cX9_later 20 = .ok (.iload_n 3, 1) := by decide +kernel
theorem dX9_later_21 : decode cX9_later 21 = .ok (.iload_n 1, 1) := by decide +kernel
theorem dX9_later_22 : decode cX9_later 22 = .ok (.iadd, 1) := by decide +kernel
theorem dX9_later_23 : decode cX9_later 23 = .ok (.bipush 20, 2) := by decide +kernel
theorem dX9_later_25 : decode cX9_later 25 = .ok (.irem, 1) := by decide +kernel
theorem dX9_later_26 : decode cX9_later 26 = .ok (.ishl, 1) := by decide +kernel
theorem dX9_later_27 : decode cX9_later 27 = .ok (.goto 4, 3) := by decide +kernel
theorem dX9_later_30 : decode cX9_later 30 = .ok (.iconst 0, 1) := by decide +kernel
theorem dX9_later_31 : decode cX9_later 31 = .ok (.ior, 1) := by decide +kernel
theorem dX9_later_32 : decode cX9_later 32 = .ok (.istore_n 2, 1) := by decide +kernel
theorem dX9_later_33 : decode cX9_later 33 = .ok (.iinc 3 1, 3) := by decide +kernel
theorem dX9_later_36 : decode cX9_later 36 = .ok (.goto (-32), 3) := by decide +kernel
theorem dX9_later_39 : decode cX9_later 39 = .ok (.iload_n 2, 1) := by decide +kernel
theorem dX9_later_40 : decode cX9_later 40 = .ok (.ireturn, 1) := by decide +kernel
def lX9_later_4 (F : Nat)  (a1 : Int32) (a2 : Int32) : Nat → mS → Int32 → Int32 → Option Int32
  | 0, _, _, _ => none
  | n + 1, S0, v2, v3 => if (20 : Int32) ≤ v3 then (some v2) else (if (f_X9_has S0 a1 v3) = true then (lX9_later_4 F  a1 a2 n S0 (v2 ||| ((1 : Int32) <<< (((v3 + a2) - (v3 + a2) / (20 : Int32) * (20 : Int32)) &&& 31))) (v3 + 1)) else (lX9_later_4 F  a1 a2 n S0 (v2 ||| (0 : Int32)) (v3 + 1)))
set_option maxHeartbeats 4000000 in
set_option maxRecDepth 100000 in
theorem gX9_later_4 {x : mX} {F : Nat} {a1 : Int32} {a2 : Int32} {S0 : mS}   {R : Int32}   : ∀ (n : Nat) (v2 : Int32) (v3 : Int32), lX9_later_4 F  a1 a2 n S0 v2 v3 = some R → mG x μX9_later 2 0 0 (mQe S0 (some (.int R))) 0 0 E0 S0 4 [(0, .int (a1)), (1, .int (a2)), (2, .int (v2)), (3, .int (v3))] [] := by
  intro n
  induction n with
  | zero =>
    intro v2 v3 h
    cases h
  | succ n ih =>
    intro v2 v3 h
    unfold lX9_later_4 at h
    refine mG.iload_n 3 dX9_later_4 rfl ?_
    refine mG.bipush (v := 20) dX9_later_5 (by decide) ?_
    refine mG.icmp_ge 39 dX9_later_7 (by decide) (fun c2 => ?_) (fun c2 => ?_)
    · replace h := itp c2 h
      refine mG.iload_n 2 dX9_later_39 rfl ?_
      obtain rfl := Option.some.inj h
      exact mG.iret dX9_later_40 rfl ⟨rfl, rfl, rfl⟩
    · replace h := itn c2 h
      refine mG.iload_n 2 dX9_later_10 rfl ?_
      refine mG.iload_n 0 dX9_later_11 rfl ?_
      refine mG.iload_n 3 dX9_later_12 rfl ?_
      refine mG.callS0 (as := [.int (a1), .int (v3)]) (st := [.int (v2)]) (S2 := S0) (r := some (.int (bI (f_X9_has S0 a1 v3)))) dX9_later_13 mbX9_has wk22_12 wk22_11 rfl rfl (by decide) (Nat.le_of_ble_eq_true rfl) (c_X9_has  rfl) ?_
      refine mG.ifz_eq (b := f_X9_has S0 a1 v3) 30 dX9_later_16 (by decide) (fun c1 => ?_) (fun c1 => ?_)
      · replace h := itn c1 h
        refine mG.iconst (v := 0) dX9_later_30 rfl ?_
        refine mG.ior dX9_later_31 ?_
        refine mG.istore_n (lv2 := [(2, .int (v2 ||| (0 : Int32))), (0, .int (a1)), (1, .int (a2)), (3, .int (v3))]) dX9_later_32 rfl (by decide) rfl ?_
        refine mG.iinc 3 (u := v3 + 1) (lv2 := [(3, .int (v3 + 1)), (2, .int (v2 ||| (0 : Int32))), (0, .int (a1)), (1, .int (a2))]) dX9_later_33 rfl rfl (by decide) rfl ?_
        refine mG.goto 4 dX9_later_36 (by decide) ?_
        refine mG.sub (lv2 := [(0, .int (a1)), (1, .int (a2)), (2, .int (v2 ||| (0 : Int32))), (3, .int (v3 + 1))]) [2, 3, 1, 0] rfl ?_
        exact ih  (v2 ||| (0 : Int32)) (v3 + 1)  h
      · replace h := itp c1 h
        refine mG.iconst (v := 1) dX9_later_19 rfl ?_
        refine mG.iload_n 3 dX9_later_20 rfl ?_
        refine mG.iload_n 1 dX9_later_21 rfl ?_
        refine mG.iadd dX9_later_22 ?_
        refine mG.bipush (v := 20) dX9_later_23 (by decide) ?_
        refine mG.irem dX9_later_25 (by decide) ?_
        refine mG.ishl dX9_later_26 ?_
        refine mG.goto 31 dX9_later_27 (by decide) ?_
        refine mG.ior dX9_later_31 ?_
        refine mG.istore_n (lv2 := [(2, .int (v2 ||| ((1 : Int32) <<< (((v3 + a2) - (v3 + a2) / (20 : Int32) * (20 : Int32)) &&& 31)))), (0, .int (a1)), (1, .int (a2)), (3, .int (v3))]) dX9_later_32 rfl (by decide) rfl ?_
        refine mG.iinc 3 (u := v3 + 1) (lv2 := [(3, .int (v3 + 1)), (2, .int (v2 ||| ((1 : Int32) <<< (((v3 + a2) - (v3 + a2) / (20 : Int32) * (20 : Int32)) &&& 31)))), (0, .int (a1)), (1, .int (a2))]) dX9_later_33 rfl rfl (by decide) rfl ?_
        refine mG.goto 4 dX9_later_36 (by decide) ?_
        refine mG.sub (lv2 := [(0, .int (a1)), (1, .int (a2)), (2, .int (v2 ||| ((1 : Int32) <<< (((v3 + a2) - (v3 + a2) / (20 : Int32) * (20 : Int32)) &&& 31)))), (3, .int (v3 + 1))]) [2, 3, 1, 0] rfl ?_
        exact ih  (v2 ||| ((1 : Int32) <<< (((v3 + a2) - (v3 + a2) / (20 : Int32) * (20 : Int32)) &&& 31))) (v3 + 1)  h
def f_X9_later (F : Nat) (S0 : mS) (a1 : Int32) (a2 : Int32) : Option Int32 := lX9_later_4 F  a1 a2 F S0 (0 : Int32) (0 : Int32)
set_option maxHeartbeats 4000000 in
set_option maxRecDepth 100000 in
theorem c_X9_later {F : Nat} {S0 : mS} {a1 : Int32} {a2 : Int32} {R : Int32}  (h : f_X9_later F S0 a1 a2 = some R) : mCt μX9_later 2 0 0 E0 S0 [.int (a1), .int (a2)] (mQe S0 (some (.int R))) := by
  unfold f_X9_later at h
  refine mCt.of (by decide) (Nat.le_of_ble_eq_true rfl) ?_
  intro x
  refine mG.iconst (v := 0) dX9_later_0 rfl ?_
  refine mG.istore_n (lv2 := [(2, .int 0), (0, .int (a1)), (1, .int (a2))]) dX9_later_1 rfl (by decide) rfl ?_
  refine mG.iconst (v := 0) dX9_later_2 rfl ?_
  refine mG.istore_n (lv2 := [(3, .int 0), (2, .int 0), (0, .int (a1)), (1, .int (a2))]) dX9_later_3 rfl (by decide) rfl ?_
  refine mG.sub (lv2 := [(0, .int (a1)), (1, .int (a2)), (2, .int 0), (3, .int 0)]) [2, 3, 1, 0] rfl ?_
  exact gX9_later_4   F  (0 : Int32) (0 : Int32)  h
theorem dX9_leap_0 : decode cX9_leap 0 = .ok (.aload_n 0, 1) := by decide +kernel
theorem dX9_leap_1 : decode cX9_leap 1 = .ok (.iload_n 1, 1) := by decide +kernel
theorem dX9_leap_2 : decode cX9_leap 2 = .ok (.invokevirtual 69, 3) := by decide +kernel
theorem dX9_leap_5 : decode cX9_leap 5 = .ok (.ifCond .eq 11, 3) := by decide +kernel
theorem dX9_leap_8 : decode cX9_leap 8 = .ok (.aload_n 0, 1) := by decide +kernel
theorem dX9_leap_9 : decode cX9_leap 9 = .ok (.iload_n 2, 1) := by decide +kernel
theorem dX9_leap_10 : decode cX9_leap 10 = .ok (.invokevirtual 69, 3) := by decide +kernel
theorem dX9_leap_13 : decode cX9_leap 13 = .ok (.ifCond .ne 5, 3) := by decide +kernel
theorem dX9_leap_16 : decode cX9_leap 16 = .ok (.iconst (-1), 1) := by decide +kernel
theorem dX9_leap_17 : decode cX9_leap 17 = .ok (.ireturn, 1) := by decide +kernel
theorem dX9_leap_18 : decode cX9_leap 18 = .ok (.iconst 0, 1) := by decide +kernel
theorem dX9_leap_19 : decode cX9_leap 19 = .ok (.istore_n 3, 1) := by decide +kernel
theorem dX9_leap_20 : decode cX9_leap 20 = .ok (.iload_n 3, 1) := by decide +kernel
theorem dX9_leap_21 : decode cX9_leap 21 = .ok (.bipush 20, 2) := by decide +kernel
theorem dX9_leap_23 : decode cX9_leap 23 = .ok (.if_icmp .gt 30, 3) := by decide +kernel
theorem dX9_leap_26 : decode cX9_leap 26 = .ok (.aload_n 0, 1) := by decide +kernel
theorem dX9_leap_27 : decode cX9_leap 27 = .ok (.iload_n 1, 1) := by decide +kernel
theorem dX9_leap_28 : decode cX9_leap 28 = .ok (.iconst 0, 1) := by decide +kernel
theorem dX9_leap_29 : decode cX9_leap 29 = .ok (.invokevirtual 73, 3) := by decide +kernel
theorem dX9_leap_32 : decode cX9_leap 32 = .ok (.iload_n 3, 1) := by decide +kernel
theorem dX9_leap_33 : decode cX9_leap 33 = .ok (.invokestatic 476, 3) := by decide +kernel
theorem dX9_leap_36 : decode cX9_leap 36 = .ok (.aload_n 0, 1) := by decide +kernel
theorem dX9_leap_37 : decode cX9_leap 37 = .ok (.iload_n 2, 1) := by decide +kernel
theorem dX9_leap_38 : decode cX9_leap 38 = .ok (.iconst 0, 1) := by decide +kernel
theorem dX9_leap_39 : decode cX9_leap 39 = .ok (.invokevirtual 73, 3) := by decide +kernel
theorem dX9_leap_42 : decode cX9_leap 42 = .ok (.if_icmp .ne 5, 3) := by decide +kernel
theorem dX9_leap_45 : decode cX9_leap 45 = .ok (.iload_n 3, 1) := by decide +kernel
theorem dX9_leap_46 : decode cX9_leap 46 = .ok (.ireturn, 1) := by decide +kernel
theorem dX9_leap_47 : decode cX9_leap 47 = .ok (.iinc 3 1, 3) := by decide +kernel
theorem dX9_leap_50 : decode cX9_leap 50 = .ok (.goto (-30), 3) := by decide +kernel
theorem dX9_leap_53 : decode cX9_leap 53 = .ok (.iconst (-1), 1) := by decide +kernel
theorem dX9_leap_54 : decode cX9_leap 54 = .ok (.ireturn, 1) := by decide +kernel
def lX9_leap_20 (F : Nat)  (t : Nat) (a1 : Int32) (a2 : Int32) : Nat → mS → Int32 → Option Int32
  | 0, _, _ => none
  | n + 1, S0, v3 => if (20 : Int32) < v3 then (some (-1 : Int32)) else (bd (f_X9_get F S0 t a1 (0 : Int32)) fun q1 => bd (f_X9_later F S0 q1 v3) fun q2 => bd (f_X9_get F S0 t a2 (0 : Int32)) fun q3 => if q2 = q3 then (some v3) else (lX9_leap_20 F  t a1 a2 n S0 (v3 + 1)))
set_option maxHeartbeats 4000000 in
set_option maxRecDepth 100000 in
theorem gX9_leap_20 {x : mX} {F : Nat} {t : Nat} {a1 : Int32} {a2 : Int32} {S0 : mS}   {R : Int32} (ht : kd0 t = 9)  : ∀ (n : Nat) (v3 : Int32), lX9_leap_20 F  t a1 a2 n S0 v3 = some R → mG x μX9_leap 3 0 0 (mQe S0 (some (.int R))) 0 0 E0 S0 20 [(0, .ref (t)), (1, .int (a1)), (2, .int (a2)), (3, .int (v3))] [] := by
  intro n
  induction n with
  | zero =>
    intro v3 h
    cases h
  | succ n ih =>
    intro v3 h
    unfold lX9_leap_20 at h
    refine mG.iload_n 3 dX9_leap_20 rfl ?_
    refine mG.bipush (v := 20) dX9_leap_21 (by decide) ?_
    refine mG.icmp_gt 53 dX9_leap_23 (by decide) (fun c5 => ?_) (fun c5 => ?_)
    · replace h := itp c5 h
      refine mG.iconst (v := (-1)) dX9_leap_53 rfl ?_
      obtain rfl := Option.some.inj h
      exact mG.iret dX9_leap_54 rfl ⟨rfl, rfl, rfl⟩
    · replace h := itn c5 h
      refine mG.aload_n 0 dX9_leap_26 rfl ?_
      refine mG.iload_n 1 dX9_leap_27 rfl ?_
      refine mG.iconst (v := 0) dX9_leap_28 rfl ?_
      obtain ⟨q1, hq1, h⟩ := bdp h
      refine mG.callV0 (as := [.int (a1), .int 0]) (st := []) (S2 := S0) (r := some (.int (q1))) dX9_leap_29 mvX9_get wk7_23 rfl ht rfl (by decide) (Nat.le_of_ble_eq_true rfl) (c_X9_get ht hq1) ?_
      refine mG.iload_n 3 dX9_leap_32 rfl ?_
      obtain ⟨q2, hq2, h⟩ := bdp h
      refine mG.callS0 (as := [.int (q1), .int (v3)]) (st := []) (S2 := S0) (r := some (.int (q2))) dX9_leap_33 mbX9_later wk64_19 wk64_18 rfl rfl (by decide) (Nat.le_of_ble_eq_true rfl) (c_X9_later  hq2) ?_
      refine mG.aload_n 0 dX9_leap_36 rfl ?_
      refine mG.iload_n 2 dX9_leap_37 rfl ?_
      refine mG.iconst (v := 0) dX9_leap_38 rfl ?_
      obtain ⟨q3, hq3, h⟩ := bdp h
      refine mG.callV0 (as := [.int (a2), .int 0]) (st := [.int (q2)]) (S2 := S0) (r := some (.int (q3))) dX9_leap_39 mvX9_get wk7_23 rfl ht rfl (by decide) (Nat.le_of_ble_eq_true rfl) (c_X9_get ht hq3) ?_
      refine mG.icmp_ne 47 dX9_leap_42 (by decide) (fun c4 => ?_) (fun c4 => ?_)
      · replace h := itn c4 h
        refine mG.iinc 3 (u := v3 + 1) (lv2 := [(3, .int (v3 + 1)), (0, .ref (t)), (1, .int (a1)), (2, .int (a2))]) dX9_leap_47 rfl rfl (by decide) rfl ?_
        refine mG.goto 20 dX9_leap_50 (by decide) ?_
        refine mG.sub (lv2 := [(0, .ref (t)), (1, .int (a1)), (2, .int (a2)), (3, .int (v3 + 1))]) [1, 2, 3, 0] rfl ?_
        exact ih  (v3 + 1)  h
      · replace h := itp c4 h
        refine mG.iload_n 3 dX9_leap_45 rfl ?_
        obtain rfl := Option.some.inj h
        exact mG.iret dX9_leap_46 rfl ⟨rfl, rfl, rfl⟩
def f_X9_leap (F : Nat) (S0 : mS) (t : Nat) (a1 : Int32) (a2 : Int32) : Option Int32 := bd (f_X9_isHouse F S0 t a1) fun q1 => if q1 = true then (bd (f_X9_isHouse F S0 t a2) fun q2 => if q2 = true then (lX9_leap_20 F  t a1 a2 F S0 (0 : Int32)) else (some (-1 : Int32))) else (some (-1 : Int32))
set_option maxHeartbeats 4000000 in
set_option maxRecDepth 100000 in
theorem c_X9_leap {F : Nat} {S0 : mS} {t : Nat} {a1 : Int32} {a2 : Int32} {R : Int32} (ht : kd0 t = 9) (h : f_X9_leap F S0 t a1 a2 = some R) : mCt μX9_leap 3 0 0 E0 S0 [.ref (t), .int (a1), .int (a2)] (mQe S0 (some (.int R))) := by
  unfold f_X9_leap at h
  refine mCt.of (by decide) (Nat.le_of_ble_eq_true rfl) ?_
  intro x
  refine mG.aload_n 0 dX9_leap_0 rfl ?_
  refine mG.iload_n 1 dX9_leap_1 rfl ?_
  obtain ⟨q1, hq1, h⟩ := bdp h
  refine mG.callV0 (as := [.int (a1)]) (st := []) (S2 := S0) (r := some (.int (bI (q1)))) dX9_leap_2 mvX9_isHouse wk33_0 rfl ht rfl (by decide) (Nat.le_of_ble_eq_true rfl) (c_X9_isHouse ht hq1) ?_
  refine mG.ifz_eq (b := q1) 16 dX9_leap_5 (by decide) (fun c4 => ?_) (fun c4 => ?_)
  · replace h := itn c4 h
    refine mG.iconst (v := (-1)) dX9_leap_16 rfl ?_
    obtain rfl := Option.some.inj h
    exact mG.iret dX9_leap_17 rfl ⟨rfl, rfl, rfl⟩
  · replace h := itp c4 h
    refine mG.aload_n 0 dX9_leap_8 rfl ?_
    refine mG.iload_n 2 dX9_leap_9 rfl ?_
    obtain ⟨q2, hq2, h⟩ := bdp h
    refine mG.callV0 (as := [.int (a2)]) (st := []) (S2 := S0) (r := some (.int (bI (q2)))) dX9_leap_10 mvX9_isHouse wk33_0 rfl ht rfl (by decide) (Nat.le_of_ble_eq_true rfl) (c_X9_isHouse ht hq2) ?_
    refine mG.ifz_ne (b := q2) 18 dX9_leap_13 (by decide) (fun c3 => ?_) (fun c3 => ?_)
    · replace h := itp c3 h
      refine mG.iconst (v := 0) dX9_leap_18 rfl ?_
      refine mG.istore_n (lv2 := [(3, .int 0), (0, .ref (t)), (1, .int (a1)), (2, .int (a2))]) dX9_leap_19 rfl (by decide) rfl ?_
      refine mG.sub (lv2 := [(0, .ref (t)), (1, .int (a1)), (2, .int (a2)), (3, .int 0)]) [1, 2, 3, 0] rfl ?_
      exact gX9_leap_20 ht  F  (0 : Int32)  h
    · replace h := itn c3 h
      refine mG.iconst (v := (-1)) dX9_leap_16 rfl ?_
      obtain rfl := Option.some.inj h
      exact mG.iret dX9_leap_17 rfl ⟨rfl, rfl, rfl⟩
theorem dX9_image_0 : decode cX9_image 0 = .ok (.aload_n 0, 1) := by decide +kernel
theorem dX9_image_1 : decode cX9_image 1 = .ok (.getfield 7, 3) := by decide +kernel
theorem dX9_image_4 : decode cX9_image 4 = .ok (.aload_n 0, 1) := by decide +kernel
theorem dX9_image_5 : decode cX9_image 5 = .ok (.getfield 13, 3) := by decide +kernel
theorem dX9_image_8 : decode cX9_image 8 = .ok (.invokestatic 61, 3) := by decide +kernel
theorem dX9_image_11 : decode cX9_image 11 = .ok (.aload_n 0, 1) := by decide +kernel
theorem dX9_image_12 : decode cX9_image 12 = .ok (.getfield 7, 3) := by decide +kernel
theorem dX9_image_15 : decode cX9_image 15 = .ok (.bipush 8, 2) := by decide +kernel
theorem dX9_image_17 : decode cX9_image 17 = .ok (.iaload, 1) := by decide +kernel
theorem dX9_image_18 : decode cX9_image 18 = .ok (.ireturn, 1) := by decide +kernel
def f_X9_image (F : Nat) (S : mS) (t : Nat) : Option (mS × Int32) := bd (f_X9_copy F S (t + 1) (t + 2)) fun q1 => ck (inb (8 : Int32) 2308) (some (q1, q1.1 (t + 1) (8 : Int32).toNatClampNeg))
set_option maxHeartbeats 4000000 in
set_option maxRecDepth 100000 in
theorem c_X9_image {F : Nat} {S : mS} {t : Nat} {R : mS × Int32} (ht : kd0 t = 9) (h : f_X9_image F S t = some R) : mCt μX9_image 2 0 0 E0 S [.ref (t)] (mQe R.1 (some (.int R.2))) := by
  unfold f_X9_image at h
  refine mCt.of (by decide) (Nat.le_of_ble_eq_true rfl) ?_
  intro x
  refine mG.aload_n 0 dX9_image_0 rfl ?_
  refine mG.get (v := .ref (t + 1)) dX9_image_1 mfX9_7 ht (lr9_a ht) ?_
  refine mG.aload_n 0 dX9_image_4 rfl ?_
  refine mG.get (v := .ref (t + 2)) dX9_image_5 mfX9_13 ht (lr9_image ht) ?_
  obtain ⟨q1, hq1, h⟩ := bdp h
  refine mG.callS0 (as := [.ref (t + 1), .ref (t + 2)]) (st := []) (S2 := q1) (r := none) dX9_image_8 mbX9_copy wk6_5 wk6_4 rfl rfl (by decide) (Nat.le_of_ble_eq_true rfl) (c_X9_copy (lk9_a ht) (ll9_a ht) (lk9_image ht) (ll9_image ht) hq1) ?_
  refine mG.aload_n 0 dX9_image_11 rfl ?_
  refine mG.get (v := .ref (t + 1)) dX9_image_12 mfX9_7 ht (lr9_a ht) ?_
  refine mG.bipush (v := 8) dX9_image_15 (by decide) ?_
  obtain ⟨b2, h⟩ := ckp h
  refine mG.iald dX9_image_17 (lk9_a ht) (ll9_a ht) (inbp b2) ?_
  obtain rfl := Option.some.inj h
  exact mG.iret dX9_image_18 rfl ⟨rfl, rfl, rfl⟩
theorem dX9_back_0 : decode cX9_back 0 = .ok (.aload_n 0, 1) := by decide +kernel
theorem dX9_back_1 : decode cX9_back 1 = .ok (.getfield 13, 3) := by decide +kernel
theorem dX9_back_4 : decode cX9_back 4 = .ok (.aload_n 0, 1) := by decide +kernel
theorem dX9_back_5 : decode cX9_back 5 = .ok (.getfield 7, 3) := by decide +kernel
theorem dX9_back_8 : decode cX9_back 8 = .ok (.invokestatic 61, 3) := by decide +kernel
theorem dX9_back_11 : decode cX9_back 11 = .ok (.aload_n 0, 1) := by decide +kernel
theorem dX9_back_12 : decode cX9_back 12 = .ok (.getfield 7, 3) := by decide +kernel
theorem dX9_back_15 : decode cX9_back 15 = .ok (.bipush 8, 2) := by decide +kernel
theorem dX9_back_17 : decode cX9_back 17 = .ok (.iaload, 1) := by decide +kernel
theorem dX9_back_18 : decode cX9_back 18 = .ok (.ireturn, 1) := by decide +kernel
def f_X9_back (F : Nat) (S : mS) (t : Nat) : Option (mS × Int32) := bd (f_X9_copy F S (t + 2) (t + 1)) fun q1 => ck (inb (8 : Int32) 2308) (some (q1, q1.1 (t + 1) (8 : Int32).toNatClampNeg))
set_option maxHeartbeats 4000000 in
set_option maxRecDepth 100000 in
theorem c_X9_back {F : Nat} {S : mS} {t : Nat} {R : mS × Int32} (ht : kd0 t = 9) (h : f_X9_back F S t = some R) : mCt μX9_back 2 0 0 E0 S [.ref (t)] (mQe R.1 (some (.int R.2))) := by
  unfold f_X9_back at h
  refine mCt.of (by decide) (Nat.le_of_ble_eq_true rfl) ?_
  intro x
  refine mG.aload_n 0 dX9_back_0 rfl ?_
  refine mG.get (v := .ref (t + 2)) dX9_back_1 mfX9_13 ht (lr9_image ht) ?_
  refine mG.aload_n 0 dX9_back_4 rfl ?_
  refine mG.get (v := .ref (t + 1)) dX9_back_5 mfX9_7 ht (lr9_a ht) ?_
  obtain ⟨q1, hq1, h⟩ := bdp h
  refine mG.callS0 (as := [.ref (t + 2), .ref (t + 1)]) (st := []) (S2 := q1) (r := none) dX9_back_8 mbX9_copy wk6_5 wk6_4 rfl rfl (by decide) (Nat.le_of_ble_eq_true rfl) (c_X9_copy (lk9_image ht) (ll9_image ht) (lk9_a ht) (ll9_a ht) hq1) ?_
  refine mG.aload_n 0 dX9_back_11 rfl ?_
  refine mG.get (v := .ref (t + 1)) dX9_back_12 mfX9_7 ht (lr9_a ht) ?_
  refine mG.bipush (v := 8) dX9_back_15 (by decide) ?_
  obtain ⟨b2, h⟩ := ckp h
  refine mG.iald dX9_back_17 (lk9_a ht) (ll9_a ht) (inbp b2) ?_
  obtain rfl := Option.some.inj h
  exact mG.iret dX9_back_18 rfl ⟨rfl, rfl, rfl⟩
theorem dX9_about_0 : decode cX9_about 0 = .ok (.iload_n 1, 1) := by decide +kernel
theorem dX9_about_1 : decode cX9_about 1 = .ok (.iconst 0, 1) := by decide +kernel
theorem dX9_about_2 : decode cX9_about 2 = .ok (.iconst 5, 1) := by decide +kernel
theorem dX9_about_3 : decode cX9_about 3 = .ok (.invokestatic 65, 3) := by decide +kernel
theorem dX9_about_6 : decode cX9_about 6 = .ok (.ifCond .eq 12, 3) := by decide +kernel
theorem dX9_about_9 : decode cX9_about 9 = .ok (.aload_n 0, 1) := by decide +kernel
theorem dX9_about_10 : decode cX9_about 10 = .ok (.getfield 7, 3) := by decide +kernel
theorem dX9_about_13 : decode cX9_about 13 = .ok (.iload_n 1, 1) := by decide +kernel
theorem dX9_about_14 : decode cX9_about 14 = .ok (.iaload, 1) := by decide +kernel
theorem dX9_about_15 : decode cX9_about 15 = .ok (.goto 18, 3) := by decide +kernel
theorem dX9_about_18 : decode cX9_about 18 = .ok (.iload_n 1, 1) := by decide +kernel
theorem dX9_about_19 : decode cX9_about 19 = .ok (.bipush 6, 2) := by decide +kernel
theorem dX9_about_21 : decode cX9_about 21 = .ok (.if_icmp .ne 10, 3) := by decide +kernel
theorem dX9_about_24 : decode cX9_about 24 = .ok (.aload_n 0, 1) := by decide +kernel
theorem dX9_about_25 : decode cX9_about 25 = .ok (.getfield 92, 3) := by decide +kernel
theorem dX9_about_28 : decode cX9_about 28 = .ok (.goto 5, 3) := by decide +kernel
theorem dX9_about_31 : decode cX9_about 31 = .ok (.bipush (-2), 2) := by decide +kernel
theorem dX9_about_33 : decode cX9_about 33 = .ok (.ireturn, 1) := by decide +kernel
def f_X9_about (F : Nat) (S0 : mS) (t : Nat) (a1 : Int32) : Option Int32 := if (f_X9_isIn S0 a1 (0 : Int32) (5 : Int32)) = true then (ck (inb a1 2308) (some (S0.1 (t + 1) a1.toNatClampNeg))) else (if a1 = (6 : Int32) then (some (S0.1 t 4)) else (some (-2 : Int32)))
set_option maxHeartbeats 4000000 in
set_option maxRecDepth 100000 in
theorem c_X9_about {F : Nat} {S0 : mS} {t : Nat} {a1 : Int32} {R : Int32} (ht : kd0 t = 9) (h : f_X9_about F S0 t a1 = some R) : mCt μX9_about 2 0 0 E0 S0 [.ref (t), .int (a1)] (mQe S0 (some (.int R))) := by
  unfold f_X9_about at h
  refine mCt.of (by decide) (Nat.le_of_ble_eq_true rfl) ?_
  intro x
  refine mG.iload_n 1 dX9_about_0 rfl ?_
  refine mG.iconst (v := 0) dX9_about_1 rfl ?_
  refine mG.iconst (v := 5) dX9_about_2 rfl ?_
  refine mG.callS0 (as := [.int (a1), .int 0, .int 5]) (st := []) (S2 := S0) (r := some (.int (bI (f_X9_isIn S0 a1 (0 : Int32) (5 : Int32))))) dX9_about_3 mbX9_isIn wk7_13 wk7_12 rfl rfl (by decide) (Nat.le_of_ble_eq_true rfl) (c_X9_isIn  rfl) ?_
  refine mG.ifz_eq (b := f_X9_isIn S0 a1 (0 : Int32) (5 : Int32)) 18 dX9_about_6 (by decide) (fun c3 => ?_) (fun c3 => ?_)
  · replace h := itn c3 h
    refine mG.iload_n 1 dX9_about_18 rfl ?_
    refine mG.bipush (v := 6) dX9_about_19 (by decide) ?_
    refine mG.icmp_ne 31 dX9_about_21 (by decide) (fun c1 => ?_) (fun c1 => ?_)
    · replace h := itn c1 h
      refine mG.bipush (v := (-2)) dX9_about_31 (by decide) ?_
      obtain rfl := Option.some.inj h
      exact mG.iret dX9_about_33 rfl ⟨rfl, rfl, rfl⟩
    · replace h := itp c1 h
      refine mG.aload_n 0 dX9_about_24 rfl ?_
      refine mG.get (v := .int (S0.1 t 4)) dX9_about_25 mfX9_92 ht rfl ?_
      refine mG.goto 33 dX9_about_28 (by decide) ?_
      obtain rfl := Option.some.inj h
      exact mG.iret dX9_about_33 rfl ⟨rfl, rfl, rfl⟩
  · replace h := itp c3 h
    refine mG.aload_n 0 dX9_about_9 rfl ?_
    refine mG.get (v := .ref (t + 1)) dX9_about_10 mfX9_7 ht (lr9_a ht) ?_
    refine mG.iload_n 1 dX9_about_13 rfl ?_
    obtain ⟨b2, h⟩ := ckp h
    refine mG.iald dX9_about_14 (lk9_a ht) (ll9_a ht) (inbp b2) ?_
    refine mG.goto 33 dX9_about_15 (by decide) ?_
    obtain rfl := Option.some.inj h
    exact mG.iret dX9_about_33 rfl ⟨rfl, rfl, rfl⟩
