theorem dX8_house_0 : decode cX8_house 0 = .ok (.iload_n 1, 1) := by decide +kernel
theorem dX8_house_1 : decode cX8_house 1 = .ok (.invokestatic 76, 3) := by decide +kernel
theorem dX8_house_4 : decode cX8_house 4 = .ok (.ifCond .eq 17, 3) := by decide +kernel
theorem dX8_house_7 : decode cX8_house 7 = .ok (.iload_n 2, 1) := by decide +kernel
theorem dX8_house_8 : decode cX8_house 8 = .ok (.invokestatic 76, 3) := by decide +kernel
theorem dX8_house_11 : decode cX8_house 11 = .ok (.ifCond .eq 10, 3) := by decide +kernel
theorem dX8_house_14 : decode cX8_house 14 = .ok (.iload_n 3, 1) := by decide +kernel
theorem dX8_house_15 : decode cX8_house 15 = .ok (.invokestatic 76, 3) := by decide +kernel
theorem dX8_house_18 : decode cX8_house 18 = .ok (.ifCond .ne 5, 3) := by decide +kernel
theorem dX8_house_21 : decode cX8_house 21 = .ok (.iconst (-1), 1) := by decide +kernel
theorem dX8_house_22 : decode cX8_house 22 = .ok (.ireturn, 1) := by decide +kernel
theorem dX8_house_23 : decode cX8_house 23 = .ok (.iload_n 1, 1) := by decide +kernel
theorem dX8_house_24 : decode cX8_house 24 = .ok (.iload_n 2, 1) := by decide +kernel
theorem dX8_house_25 : decode cX8_house 25 = .ok (.invokestatic 80, 3) := by decide +kernel
theorem dX8_house_28 : decode cX8_house 28 = .ok (.ifCond .ne 19, 3) := by decide +kernel
theorem dX8_house_31 : decode cX8_house 31 = .ok (.iload_n 1, 1) := by decide +kernel
theorem dX8_house_32 : decode cX8_house 32 = .ok (.iload_n 3, 1) := by decide +kernel
theorem dX8_house_33 : decode cX8_house 33 = .ok (.invokestatic 80, 3) := by decide +kernel
theorem dX8_house_36 : decode cX8_house 36 = .ok (.ifCond .ne 11, 3) := by decide +kernel
theorem dX8_house_39 : decode cX8_house 39 = .ok (.iload_n 2, 1) := by decide +kernel
theorem dX8_house_40 : decode cX8_house 40 = .ok (.iload_n 3, 1) := by decide +kernel
theorem dX8_house_41 : decode cX8_house 41 = .ok (.invokestatic 80, 3) := by decide +kernel
theorem dX8_house_44 : decode cX8_house 44 = .ok (.ifCond .eq 5, 3) := by decide +kernel
theorem dX8_house_47 : decode cX8_house 47 = .ok (.iconst (-1), 1) := by decide +kernel
theorem dX8_house_48 : decode cX8_house 48 = .ok (.ireturn, 1) := by decide +kernel
theorem dX8_house_49 : decode cX8_house 49 = .ok (.iload 4, 2) := by decide +kernel
theorem dX8_house_51 : decode cX8_house 51 = .ok (.iconst 0, 1) := by decide +kernel
theorem dX8_house_52 : decode cX8_house 52 = .ok (.sipush 9999, 3) := by decide +kernel
theorem dX8_house_55 : decode cX8_house 55 = .ok (.invokestatic 84, 3) := by decide +kernel
theorem dX8_house_58 : decode cX8_house 58 = .ok (.ifCond .eq 14, 3) := by decide +kernel
theorem dX8_house_61 : decode cX8_house 61 = .ok (.iload 5, 2) := by decide +kernel
theorem dX8_house_63 : decode cX8_house 63 = .ok (.iconst 0, 1) := by decide +kernel
theorem dX8_house_64 : decode cX8_house 64 = .ok (.bipush 99, 2) := by decide +kernel
theorem dX8_house_66 : decode cX8_house 66 = .ok (.invokestatic 84, 3) := by decide +kernel
theorem dX8_house_69 : decode cX8_house 69 = .ok (.ifCond .ne 5, 3) := by decide +kernel
theorem dX8_house_72 : decode cX8_house 72 = .ok (.iconst (-1), 1) := by decide +kernel
theorem dX8_house_73 : decode cX8_house 73 = .ok (.ireturn, 1) := by decide +kernel
theorem dX8_house_74 : decode cX8_house 74 = .ok (.aload_n 0, 1) := by decide +kernel
theorem dX8_house_75 : decode cX8_house 75 = .ok (.getfield 41, 3) := by decide +kernel
theorem dX8_house_78 : decode cX8_house 78 = .ok (.getfield 88, 3) := by decide +kernel
theorem dX8_house_81 : decode cX8_house 81 = .ok (.iload_n 1, 1) := by decide +kernel
theorem dX8_house_82 : decode cX8_house 82 = .ok (.invokestatic 91, 3) := by decide +kernel
theorem dX8_house_85 : decode cX8_house 85 = .ok (.iload_n 2, 1) := by decide +kernel
theorem dX8_house_86 : decode cX8_house 86 = .ok (.invokestatic 91, 3) := by decide +kernel
theorem dX8_house_89 : decode cX8_house 89 = .ok (.ior, 1) := by decide +kernel
theorem dX8_house_90 : decode cX8_house 90 = .ok (.iload_n 3, 1) := by decide +kernel
theorem dX8_house_91 : decode cX8_house 91 = .ok (.invokestatic 91, 3) := by decide +kernel
theorem dX8_house_94 : decode cX8_house 94 = .ok (.ior, 1) := by decide +kernel
theorem dX8_house_95 : decode cX8_house 95 = .ok (.iload 4, 2) := by decide +kernel
theorem dX8_house_97 : decode cX8_house 97 = .ok (.iload 5, 2) := by decide +kernel
theorem dX8_house_99 : decode cX8_house 99 = .ok (.invokevirtual 95, 3) := by decide +kernel
theorem dX8_house_102 : decode cX8_house 102 = .ok (.ireturn, 1) := by decide +kernel
def f_X8_house (F : Nat) (S : mS) (t : Nat) (a1 : Int32) (a2 : Int32) (a3 : Int32) (a4 : Int32) (a5 : Int32) : Option (mS × Int32) := if (f_X8_isDateOrNone S a1) = true then (if (f_X8_isDateOrNone S a2) = true then (if (f_X8_isDateOrNone S a3) = true then (if (f_X8_isSameDate S a1 a2) = true then (some (S, (-1 : Int32))) else (if (f_X8_isSameDate S a1 a3) = true then (some (S, (-1 : Int32))) else (if (f_X8_isSameDate S a2 a3) = true then (some (S, (-1 : Int32))) else (if (f_X8_isWithin S a4 (0 : Int32) (9999 : Int32)) = true then (if (f_X8_isWithin S a5 (0 : Int32) (99 : Int32)) = true then (bd (f_X6_settle F S (t + 40 + 1) (((f_X8_bitOf S a1) ||| (f_X8_bitOf S a2)) ||| (f_X8_bitOf S a3)) a4 a5) fun q1 => some (q1.1, q1.2)) else (some (S, (-1 : Int32)))) else (some (S, (-1 : Int32))))))) else (some (S, (-1 : Int32)))) else (some (S, (-1 : Int32)))) else (some (S, (-1 : Int32)))
set_option maxHeartbeats 4000000 in
set_option maxRecDepth 100000 in
theorem c_X8_house {F : Nat} {S : mS} {t : Nat} {a1 : Int32} {a2 : Int32} {a3 : Int32} {a4 : Int32} {a5 : Int32} {R : mS × Int32} (ht : kd0 t = 8) (h : f_X8_house F S t a1 a2 a3 a4 a5 = some R) : mCt μX8_house 4 0 0 E0 S [.ref (t), .int (a1), .int (a2), .int (a3), .int (a4), .int (a5)] (mQe R.1 (some (.int R.2))) := by
  unfold f_X8_house at h
  refine mCt.of (by decide) (Nat.le_of_ble_eq_true rfl) ?_
  intro x
  refine mG.iload_n 1 dX8_house_0 rfl ?_
  refine mG.callS0 (as := [.int (a1)]) (st := []) (S2 := S) (r := some (.int (bI (f_X8_isDateOrNone S a1)))) dX8_house_1 mbX8_isDateOrNone wk6_13 wk6_12 rfl rfl (by decide) (Nat.le_of_ble_eq_true rfl) (c_X8_isDateOrNone  rfl) ?_
  refine mG.ifz_eq (b := f_X8_isDateOrNone S a1) 21 dX8_house_4 (by decide) (fun c9 => ?_) (fun c9 => ?_)
  · replace h := itn c9 h
    refine mG.iconst (v := (-1)) dX8_house_21 rfl ?_
    obtain rfl := Option.some.inj h
    exact mG.iret dX8_house_22 rfl ⟨rfl, rfl, rfl⟩
  · replace h := itp c9 h
    refine mG.iload_n 2 dX8_house_7 rfl ?_
    refine mG.callS0 (as := [.int (a2)]) (st := []) (S2 := S) (r := some (.int (bI (f_X8_isDateOrNone S a2)))) dX8_house_8 mbX8_isDateOrNone wk6_13 wk6_12 rfl rfl (by decide) (Nat.le_of_ble_eq_true rfl) (c_X8_isDateOrNone  rfl) ?_
    refine mG.ifz_eq (b := f_X8_isDateOrNone S a2) 21 dX8_house_11 (by decide) (fun c8 => ?_) (fun c8 => ?_)
    · replace h := itn c8 h
      refine mG.iconst (v := (-1)) dX8_house_21 rfl ?_
      obtain rfl := Option.some.inj h
      exact mG.iret dX8_house_22 rfl ⟨rfl, rfl, rfl⟩
    · replace h := itp c8 h
      refine mG.iload_n 3 dX8_house_14 rfl ?_
      refine mG.callS0 (as := [.int (a3)]) (st := []) (S2 := S) (r := some (.int (bI (f_X8_isDateOrNone S a3)))) dX8_house_15 mbX8_isDateOrNone wk6_13 wk6_12 rfl rfl (by decide) (Nat.le_of_ble_eq_true rfl) (c_X8_isDateOrNone  rfl) ?_
      refine mG.ifz_ne (b := f_X8_isDateOrNone S a3) 23 dX8_house_18 (by decide) (fun c7 => ?_) (fun c7 => ?_)
      · replace h := itp c7 h
        refine mG.iload_n 1 dX8_house_23 rfl ?_
        refine mG.iload_n 2 dX8_house_24 rfl ?_
        refine mG.callS0 (as := [.int (a1), .int (a2)]) (st := []) (S2 := S) (r := some (.int (bI (f_X8_isSameDate S a1 a2)))) dX8_house_25 mbX8_isSameDate wk6_22 wk6_21 rfl rfl (by decide) (Nat.le_of_ble_eq_true rfl) (c_X8_isSameDate  rfl) ?_
        refine mG.ifz_ne (b := f_X8_isSameDate S a1 a2) 47 dX8_house_28 (by decide) (fun c6 => ?_) (fun c6 => ?_)
        · replace h := itp c6 h
          refine mG.iconst (v := (-1)) dX8_house_47 rfl ?_
          obtain rfl := Option.some.inj h
          exact mG.iret dX8_house_48 rfl ⟨rfl, rfl, rfl⟩
        · replace h := itn c6 h
          refine mG.iload_n 1 dX8_house_31 rfl ?_
          refine mG.iload_n 3 dX8_house_32 rfl ?_
          refine mG.callS0 (as := [.int (a1), .int (a3)]) (st := []) (S2 := S) (r := some (.int (bI (f_X8_isSameDate S a1 a3)))) dX8_house_33 mbX8_isSameDate wk6_22 wk6_21 rfl rfl (by decide) (Nat.le_of_ble_eq_true rfl) (c_X8_isSameDate  rfl) ?_
          refine mG.ifz_ne (b := f_X8_isSameDate S a1 a3) 47 dX8_house_36 (by decide) (fun c5 => ?_) (fun c5 => ?_)
          · replace h := itp c5 h
            refine mG.iconst (v := (-1)) dX8_house_47 rfl ?_
            obtain rfl := Option.some.inj h
            exact mG.iret dX8_house_48 rfl ⟨rfl, rfl, rfl⟩
          · replace h := itn c5 h
            refine mG.iload_n 2 dX8_house_39 rfl ?_
            refine mG.iload_n 3 dX8_house_40 rfl ?_
            refine mG.callS0 (as := [.int (a2), .int (a3)]) (st := []) (S2 := S) (r := some (.int (bI (f_X8_isSameDate S a2 a3)))) dX8_house_41 mbX8_isSameDate wk6_22 wk6_21 rfl rfl (by decide) (Nat.le_of_ble_eq_true rfl) (c_X8_isSameDate  rfl) ?_
            refine mG.ifz_eq (b := f_X8_isSameDate S a2 a3) 49 dX8_house_44 (by decide) (fun c4 => ?_) (fun c4 => ?_)
            · replace h := itn c4 h
              refine mG.iload 4 dX8_house_49 rfl ?_
              refine mG.iconst (v := 0) dX8_house_51 rfl ?_
              refine mG.sipush (v := 9999) dX8_house_52 (by decide) ?_
              refine mG.callS0 (as := [.int (a4), .int 0, .int 9999]) (st := []) (S2 := S) (r := some (.int (bI (f_X8_isWithin S a4 (0 : Int32) (9999 : Int32))))) dX8_house_55 mbX8_isWithin wk6_19 wk6_18 rfl rfl (by decide) (Nat.le_of_ble_eq_true rfl) (c_X8_isWithin  rfl) ?_
              refine mG.ifz_eq (b := f_X8_isWithin S a4 (0 : Int32) (9999 : Int32)) 72 dX8_house_58 (by decide) (fun c3 => ?_) (fun c3 => ?_)
              · replace h := itn c3 h
                refine mG.iconst (v := (-1)) dX8_house_72 rfl ?_
                obtain rfl := Option.some.inj h
                exact mG.iret dX8_house_73 rfl ⟨rfl, rfl, rfl⟩
              · replace h := itp c3 h
                refine mG.iload 5 dX8_house_61 rfl ?_
                refine mG.iconst (v := 0) dX8_house_63 rfl ?_
                refine mG.bipush (v := 99) dX8_house_64 (by decide) ?_
                refine mG.callS0 (as := [.int (a5), .int 0, .int 99]) (st := []) (S2 := S) (r := some (.int (bI (f_X8_isWithin S a5 (0 : Int32) (99 : Int32))))) dX8_house_66 mbX8_isWithin wk6_19 wk6_18 rfl rfl (by decide) (Nat.le_of_ble_eq_true rfl) (c_X8_isWithin  rfl) ?_
                refine mG.ifz_ne (b := f_X8_isWithin S a5 (0 : Int32) (99 : Int32)) 74 dX8_house_69 (by decide) (fun c2 => ?_) (fun c2 => ?_)
                · replace h := itp c2 h
                  refine mG.aload_n 0 dX8_house_74 rfl ?_
                  refine mG.get (v := .ref (t + 40)) dX8_house_75 mfX8_41 ht (lr8_now ht) ?_
                  refine mG.get (v := .ref (t + 40 + 1)) dX8_house_78 mfX8_88 (lk8_now ht) (lr7_town (lk8_now ht)) ?_
                  refine mG.iload_n 1 dX8_house_81 rfl ?_
                  refine mG.callS0 (as := [.int (a1)]) (st := [.ref (t + 40 + 1)]) (S2 := S) (r := some (.int (f_X8_bitOf S a1))) dX8_house_82 mbX8_bitOf wk7_1 wk7_0 rfl rfl (by decide) (Nat.le_of_ble_eq_true rfl) (c_X8_bitOf  rfl) ?_
                  refine mG.iload_n 2 dX8_house_85 rfl ?_
                  refine mG.callS0 (as := [.int (a2)]) (st := [.int (f_X8_bitOf S a1), .ref (t + 40 + 1)]) (S2 := S) (r := some (.int (f_X8_bitOf S a2))) dX8_house_86 mbX8_bitOf wk7_1 wk7_0 rfl rfl (by decide) (Nat.le_of_ble_eq_true rfl) (c_X8_bitOf  rfl) ?_
                  refine mG.ior dX8_house_89 ?_
                  refine mG.iload_n 3 dX8_house_90 rfl ?_
                  refine mG.callS0 (as := [.int (a3)]) (st := [.int ((f_X8_bitOf S a1) ||| (f_X8_bitOf S a2)), .ref (t + 40 + 1)]) (S2 := S) (r := some (.int (f_X8_bitOf S a3))) dX8_house_91 mbX8_bitOf wk7_1 wk7_0 rfl rfl (by decide) (Nat.le_of_ble_eq_true rfl) (c_X8_bitOf  rfl) ?_
                  refine mG.ior dX8_house_94 ?_
                  refine mG.iload 4 dX8_house_95 rfl ?_
                  refine mG.iload 5 dX8_house_97 rfl ?_
                  obtain ⟨q1, hq1, h⟩ := bdp h
                  refine mG.callV0 (as := [.int (((f_X8_bitOf S a1) ||| (f_X8_bitOf S a2)) ||| (f_X8_bitOf S a3)), .int (a4), .int (a5)]) (st := []) (S2 := q1.1) (r := some (.int (q1.2))) dX8_house_99 mvX6_settle wk7_3 rfl (lk7_town (lk8_now ht)) rfl (by decide) (Nat.le_of_ble_eq_true rfl) (c_X6_settle (lk7_town (lk8_now ht)) hq1) ?_
                  obtain rfl := Option.some.inj h
                  exact mG.iret dX8_house_102 rfl ⟨rfl, rfl, rfl⟩
                · replace h := itn c2 h
                  refine mG.iconst (v := (-1)) dX8_house_72 rfl ?_
                  obtain rfl := Option.some.inj h
                  exact mG.iret dX8_house_73 rfl ⟨rfl, rfl, rfl⟩
            · replace h := itp c4 h
              refine mG.iconst (v := (-1)) dX8_house_47 rfl ?_
              obtain rfl := Option.some.inj h
              exact mG.iret dX8_house_48 rfl ⟨rfl, rfl, rfl⟩
      · replace h := itn c7 h
        refine mG.iconst (v := (-1)) dX8_house_21 rfl ?_
        obtain rfl := Option.some.inj h
        exact mG.iret dX8_house_22 rfl ⟨rfl, rfl, rfl⟩
theorem dX8_appendBytes_0 : decode cX8_appendBytes 0 = .ok (.bipush 24, 2) := by decide +kernel
theorem dX8_appendBytes_2 : decode cX8_appendBytes 2 = .ok (.istore_n 2, 1) := by decide +kernel
theorem dX8_appendBytes_3 : decode cX8_appendBytes 3 = .ok (.iload_n 2, 1) := by decide +kernel
theorem dX8_appendBytes_4 : decode cX8_appendBytes 4 = .ok (.ifCond .lt 45, 3) := by decide +kernel
theorem dX8_appendBytes_7 : decode cX8_appendBytes 7 = .ok (.aload_n 0, 1) := by decide +kernel
theorem dX8_appendBytes_8 : decode cX8_appendBytes 8 = .ok (.getfield 99, 3) := by decide +kernel
theorem dX8_appendBytes_11 : decode cX8_appendBytes 11 = .ok (.sipush 300, 3) := by decide +kernel
theorem dX8_appendBytes_14 : decode cX8_appendBytes 14 = .ok (.if_icmp .ge 35, 3) := by decide +kernel
theorem dX8_appendBytes_17 : decode cX8_appendBytes 17 = .ok (.aload_n 0, 1) := by decide +kernel
theorem dX8_appendBytes_18 : decode cX8_appendBytes 18 = .ok (.getfield 9, 3) := by decide +kernel
theorem dX8_appendBytes_21 : decode cX8_appendBytes 21 = .ok (.aload_n 0, 1) := by decide +kernel
theorem dX8_appendBytes_22 : decode cX8_appendBytes 22 = .ok (.getfield 99, 3) := by decide +kernel
theorem dX8_appendBytes_25 : decode cX8_appendBytes 25 = .ok (.iload_n 1, 1) := by decide +kernel
theorem dX8_appendBytes_26 : decode cX8_appendBytes 26 = .ok (.iload_n 2, 1) := by decide +kernel
theorem dX8_appendBytes_27 : decode cX8_appendBytes 27 = .ok (.ishr, 1) := by decide +kernel
theorem dX8_appendBytes_28 : decode cX8_appendBytes 28 = .ok (.sipush 255, 3) := by decide +kernel
theorem dX8_appendBytes_31 : decode cX8_appendBytes 31 = .ok (.iand, 1) := by decide +kernel
theorem dX8_appendBytes_32 : decode cX8_appendBytes 32 = .ok (.iastore, 1) := by decide +kernel
theorem dX8_appendBytes_33 : decode cX8_appendBytes 33 = .ok (.aload_n 0, 1) := by decide +kernel
theorem dX8_appendBytes_34 : decode cX8_appendBytes 34 = .ok (.dup, 1) := by decide +kernel
theorem dX8_appendBytes_35 : decode cX8_appendBytes 35 = .ok (.getfield 99, 3) := by decide +kernel
theorem dX8_appendBytes_38 : decode cX8_appendBytes 38 = .ok (.iconst 1, 1) := by decide +kernel
theorem dX8_appendBytes_39 : decode cX8_appendBytes 39 = .ok (.iadd, 1) := by decide +kernel
theorem dX8_appendBytes_40 : decode cX8_appendBytes 40 = .ok (.putfield 99, 3) := by decide +kernel
theorem dX8_appendBytes_43 : decode cX8_appendBytes 43 = .ok (.iinc 2 (-8), 3) := by decide +kernel
theorem dX8_appendBytes_46 : decode cX8_appendBytes 46 = .ok (.goto (-43), 3) := by decide +kernel
theorem dX8_appendBytes_49 : decode cX8_appendBytes 49 = .ok (.return_, 1) := by decide +kernel
def lX8_appendBytes_3 (F : Nat)  (t : Nat) (a1 : Int32) : Nat → mS → Int32 → Option mS
  | 0, _, _ => none
  | n + 1, S, v2 => if v2 < 0 then (some S) else (if (300 : Int32) ≤ (S.1 t 1) then (some S) else (ck (inb (S.1 t 1) 300) (stp (sI S (t + 1) (S.1 t 1).toNatClampNeg ((a1 >>> (v2 &&& 31)) &&& (255 : Int32))) fun S2 => stp (sI S2 t 1 ((S2.1 t 1) + (1 : Int32))) fun S3 => lX8_appendBytes_3 F  t a1 n S3 (v2 + (-8)))))
set_option maxHeartbeats 4000000 in
set_option maxRecDepth 100000 in
theorem gX8_appendBytes_3 {x : mX} {F : Nat} {t : Nat} {a1 : Int32}   {R : mS} (ht : kd0 t = 8)  : ∀ (n : Nat) (S : mS) (v2 : Int32), lX8_appendBytes_3 F  t a1 n S v2 = some R → mG x μX8_appendBytes 1 0 0 (mQe R none) 0 0 E0 S 3 [(0, .ref (t)), (1, .int (a1)), (2, .int (v2))] [] := by
  intro n
  induction n with
  | zero =>
    intro S v2 h
    cases h
  | succ n ih =>
    intro S v2 h
    unfold lX8_appendBytes_3 at h
    refine mG.iload_n 2 dX8_appendBytes_3 rfl ?_
    refine mG.if_lt 49 dX8_appendBytes_4 (by decide) (fun c5 => ?_) (fun c5 => ?_)
    · replace h := itp c5 h
      obtain rfl := Option.some.inj h
      exact mG.vret dX8_appendBytes_49 rfl ⟨rfl, rfl, rfl⟩
    · replace h := itn c5 h
      refine mG.aload_n 0 dX8_appendBytes_7 rfl ?_
      refine mG.get (v := .int (S.1 t 1)) dX8_appendBytes_8 mfX8_99 ht rfl ?_
      refine mG.sipush (v := 300) dX8_appendBytes_11 (by decide) ?_
      refine mG.icmp_ge 49 dX8_appendBytes_14 (by decide) (fun c4 => ?_) (fun c4 => ?_)
      · replace h := itp c4 h
        obtain rfl := Option.some.inj h
        exact mG.vret dX8_appendBytes_49 rfl ⟨rfl, rfl, rfl⟩
      · replace h := itn c4 h
        refine mG.aload_n 0 dX8_appendBytes_17 rfl ?_
        refine mG.get (v := .ref (t + 1)) dX8_appendBytes_18 mfX8_9 ht (lr8_tape ht) ?_
        refine mG.aload_n 0 dX8_appendBytes_21 rfl ?_
        refine mG.get (v := .int (S.1 t 1)) dX8_appendBytes_22 mfX8_99 ht rfl ?_
        refine mG.iload_n 1 dX8_appendBytes_25 rfl ?_
        refine mG.iload_n 2 dX8_appendBytes_26 rfl ?_
        refine mG.ishr dX8_appendBytes_27 ?_
        refine mG.sipush (v := 255) dX8_appendBytes_28 (by decide) ?_
        refine mG.iand dX8_appendBytes_31 ?_
        obtain ⟨b1, h⟩ := ckp h
        obtain ⟨S2, hS2, h⟩ := stpp h
        refine mG.iast dX8_appendBytes_32 (lk8_tape ht) (ll8_tape ht) (inbp b1) hS2 ?_
        refine mG.aload_n 0 dX8_appendBytes_33 rfl ?_
        refine mG.dup dX8_appendBytes_34 rfl ?_
        refine mG.get (v := .int (S2.1 t 1)) dX8_appendBytes_35 mfX8_99 ht rfl ?_
        refine mG.iconst (v := 1) dX8_appendBytes_38 rfl ?_
        refine mG.iadd dX8_appendBytes_39 ?_
        obtain ⟨S3, hS3, h⟩ := stpp h
        refine mG.putI dX8_appendBytes_40 mfX8_99 rfl (Or.inl rfl) ht hS3 ?_
        refine mG.iinc 2 (u := v2 + (-8)) (lv2 := [(2, .int (v2 + (-8))), (0, .ref (t)), (1, .int (a1))]) dX8_appendBytes_43 rfl rfl (by decide) rfl ?_
        refine mG.goto 3 dX8_appendBytes_46 (by decide) ?_
        refine mG.sub (lv2 := [(0, .ref (t)), (1, .int (a1)), (2, .int (v2 + (-8)))]) [1, 2, 0] rfl ?_
        exact ih S3 (v2 + (-8))  h
def f_X8_appendBytes (F : Nat) (S : mS) (t : Nat) (a1 : Int32) : Option mS := lX8_appendBytes_3 F  t a1 F S (24 : Int32)
set_option maxHeartbeats 4000000 in
set_option maxRecDepth 100000 in
theorem c_X8_appendBytes {F : Nat} {S : mS} {t : Nat} {a1 : Int32} {R : mS} (ht : kd0 t = 8) (h : f_X8_appendBytes F S t a1 = some R) : mCt μX8_appendBytes 1 0 0 E0 S [.ref (t), .int (a1)] (mQe R none) := by
  unfold f_X8_appendBytes at h
  refine mCt.of (by decide) (Nat.le_of_ble_eq_true rfl) ?_
  intro x
  refine mG.bipush (v := 24) dX8_appendBytes_0 (by decide) ?_
  refine mG.istore_n (lv2 := [(2, .int 24), (0, .ref (t)), (1, .int (a1))]) dX8_appendBytes_2 rfl (by decide) rfl ?_
  refine mG.sub (lv2 := [(0, .ref (t)), (1, .int (a1)), (2, .int 24)]) [1, 2, 0] rfl ?_
  exact gX8_appendBytes_3 ht  F S (24 : Int32)  h
theorem dX8_feed_0 : decode cX8_feed 0 = .ok (.aload_n 0, 1) := by decide +kernel
theorem dX8_feed_1 : decode cX8_feed 1 = .ok (.getfield 99, 3) := by decide +kernel
theorem dX8_feed_4 : decode cX8_feed 4 = .ok (.sipush 280, 3) := by decide +kernel
theorem dX8_feed_7 : decode cX8_feed 7 = .ok (.if_icmp .le 5, 3) := by decide +kernel
theorem dX8_feed_10 : decode cX8_feed 10 = .ok (.iconst (-1), 1) := by decide +kernel
theorem dX8_feed_11 : decode cX8_feed 11 = .ok (.ireturn, 1) := by decide +kernel
theorem dX8_feed_12 : decode cX8_feed 12 = .ok (.aload_n 0, 1) := by decide +kernel
theorem dX8_feed_13 : decode cX8_feed 13 = .ok (.iload_n 1, 1) := by decide +kernel
theorem dX8_feed_14 : decode cX8_feed 14 = .ok (.invokevirtual 103, 3) := by decide +kernel
theorem dX8_feed_17 : decode cX8_feed 17 = .ok (.aload_n 0, 1) := by decide +kernel
theorem dX8_feed_18 : decode cX8_feed 18 = .ok (.iload_n 2, 1) := by decide +kernel
theorem dX8_feed_19 : decode cX8_feed 19 = .ok (.invokevirtual 103, 3) := by decide +kernel
theorem dX8_feed_22 : decode cX8_feed 22 = .ok (.aload_n 0, 1) := by decide +kernel
theorem dX8_feed_23 : decode cX8_feed 23 = .ok (.iload_n 3, 1) := by decide +kernel
theorem dX8_feed_24 : decode cX8_feed 24 = .ok (.invokevirtual 103, 3) := by decide +kernel
theorem dX8_feed_27 : decode cX8_feed 27 = .ok (.aload_n 0, 1) := by decide +kernel
theorem dX8_feed_28 : decode cX8_feed 28 = .ok (.iload 4, 2) := by decide +kernel
theorem dX8_feed_30 : decode cX8_feed 30 = .ok (.invokevirtual 103, 3) := by decide +kernel
theorem dX8_feed_33 : decode cX8_feed 33 = .ok (.aload_n 0, 1) := by decide +kernel
theorem dX8_feed_34 : decode cX8_feed 34 = .ok (.iload 5, 2) := by decide +kernel
theorem dX8_feed_36 : decode cX8_feed 36 = .ok (.invokevirtual 103, 3) := by decide +kernel
theorem dX8_feed_39 : decode cX8_feed 39 = .ok (.aload_n 0, 1) := by decide +kernel
theorem dX8_feed_40 : decode cX8_feed 40 = .ok (.getfield 99, 3) := by decide +kernel
theorem dX8_feed_43 : decode cX8_feed 43 = .ok (.ireturn, 1) := by decide +kernel
def f_X8_feed (F : Nat) (S : mS) (t : Nat) (a1 : Int32) (a2 : Int32) (a3 : Int32) (a4 : Int32) (a5 : Int32) : Option (mS × Int32) := if (S.1 t 1) ≤ (280 : Int32) then (bd (f_X8_appendBytes F S t a1) fun q1 => bd (f_X8_appendBytes F q1 t a2) fun q2 => bd (f_X8_appendBytes F q2 t a3) fun q3 => bd (f_X8_appendBytes F q3 t a4) fun q4 => bd (f_X8_appendBytes F q4 t a5) fun q5 => some (q5, q5.1 t 1)) else (some (S, (-1 : Int32)))
set_option maxHeartbeats 4000000 in
set_option maxRecDepth 100000 in
theorem c_X8_feed {F : Nat} {S : mS} {t : Nat} {a1 : Int32} {a2 : Int32} {a3 : Int32} {a4 : Int32} {a5 : Int32} {R : mS × Int32} (ht : kd0 t = 8) (h : f_X8_feed F S t a1 a2 a3 a4 a5 = some R) : mCt μX8_feed 2 0 0 E0 S [.ref (t), .int (a1), .int (a2), .int (a3), .int (a4), .int (a5)] (mQe R.1 (some (.int R.2))) := by
  unfold f_X8_feed at h
  refine mCt.of (by decide) (Nat.le_of_ble_eq_true rfl) ?_
  intro x
  refine mG.aload_n 0 dX8_feed_0 rfl ?_
  refine mG.get (v := .int (S.1 t 1)) dX8_feed_1 mfX8_99 ht rfl ?_
  refine mG.sipush (v := 280) dX8_feed_4 (by decide) ?_
  refine mG.icmp_le 12 dX8_feed_7 (by decide) (fun c6 => ?_) (fun c6 => ?_)
  · replace h := itp c6 h
    refine mG.aload_n 0 dX8_feed_12 rfl ?_
    refine mG.iload_n 1 dX8_feed_13 rfl ?_
    obtain ⟨q1, hq1, h⟩ := bdp h
    refine mG.callV0 (as := [.int (a1)]) (st := []) (S2 := q1) (r := none) dX8_feed_14 mvX8_appendBytes wk8_8 rfl ht rfl (by decide) (Nat.le_of_ble_eq_true rfl) (c_X8_appendBytes ht hq1) ?_
    refine mG.aload_n 0 dX8_feed_17 rfl ?_
    refine mG.iload_n 2 dX8_feed_18 rfl ?_
    obtain ⟨q2, hq2, h⟩ := bdp h
    refine mG.callV0 (as := [.int (a2)]) (st := []) (S2 := q2) (r := none) dX8_feed_19 mvX8_appendBytes wk8_8 rfl ht rfl (by decide) (Nat.le_of_ble_eq_true rfl) (c_X8_appendBytes ht hq2) ?_
    refine mG.aload_n 0 dX8_feed_22 rfl ?_
    refine mG.iload_n 3 dX8_feed_23 rfl ?_
    obtain ⟨q3, hq3, h⟩ := bdp h
    refine mG.callV0 (as := [.int (a3)]) (st := []) (S2 := q3) (r := none) dX8_feed_24 mvX8_appendBytes wk8_8 rfl ht rfl (by decide) (Nat.le_of_ble_eq_true rfl) (c_X8_appendBytes ht hq3) ?_
    refine mG.aload_n 0 dX8_feed_27 rfl ?_
    refine mG.iload 4 dX8_feed_28 rfl ?_
    obtain ⟨q4, hq4, h⟩ := bdp h
    refine mG.callV0 (as := [.int (a4)]) (st := []) (S2 := q4) (r := none) dX8_feed_30 mvX8_appendBytes wk8_8 rfl ht rfl (by decide) (Nat.le_of_ble_eq_true rfl) (c_X8_appendBytes ht hq4) ?_
    refine mG.aload_n 0 dX8_feed_33 rfl ?_
    refine mG.iload 5 dX8_feed_34 rfl ?_
    obtain ⟨q5, hq5, h⟩ := bdp h
    refine mG.callV0 (as := [.int (a5)]) (st := []) (S2 := q5) (r := none) dX8_feed_36 mvX8_appendBytes wk8_8 rfl ht rfl (by decide) (Nat.le_of_ble_eq_true rfl) (c_X8_appendBytes ht hq5) ?_
    refine mG.aload_n 0 dX8_feed_39 rfl ?_
    refine mG.get (v := .int (q5.1 t 1)) dX8_feed_40 mfX8_99 ht rfl ?_
    obtain rfl := Option.some.inj h
    exact mG.iret dX8_feed_43 rfl ⟨rfl, rfl, rfl⟩
  · replace h := itn c6 h
    refine mG.iconst (v := (-1)) dX8_feed_10 rfl ?_
    obtain rfl := Option.some.inj h
    exact mG.iret dX8_feed_11 rfl ⟨rfl, rfl, rfl⟩
theorem dX8_end_0 : decode cX8_end 0 = .ok (.iload_n 1, 1) := by decide +kernel
theorem dX8_end_1 : decode cX8_end 1 = .ok (.iconst 0, 1) := by decide +kernel
theorem dX8_end_2 : decode cX8_end 2 = .ok (.aload_n 0, 1) := by decide +kernel
theorem dX8_end_3 : decode cX8_end 3 = .ok (.getfield 99, 3) := by decide +kernel
theorem dX8_end_6 : decode cX8_end 6 = .ok (.invokestatic 84, 3) := by decide +kernel
theorem dX8_end_9 : decode cX8_end 9 = .ok (.ifCond .ne 5, 3) := by decide +kernel
theorem dX8_end_12 : decode cX8_end 12 = .ok (.iconst (-1), 1) := by decide +kernel
theorem dX8_end_13 : decode cX8_end 13 = .ok (.ireturn, 1) := by decide +kernel
theorem dX8_end_14 : decode cX8_end 14 = .ok (.aload_n 0, 1) := by decide +kernel
theorem dX8_end_15 : decode cX8_end 15 = .ok (.iload_n 1, 1) := by decide +kernel
theorem dX8_end_16 : decode cX8_end 16 = .ok (.putfield 99, 3) := by decide +kernel
theorem dX8_end_19 : decode cX8_end 19 = .ok (.iload_n 1, 1) := by decide +kernel
theorem dX8_end_20 : decode cX8_end 20 = .ok (.ireturn, 1) := by decide +kernel
def f_X8_end (F : Nat) (S : mS) (t : Nat) (a1 : Int32) : Option (mS × Int32) := if (f_X8_isWithin S a1 (0 : Int32) (S.1 t 1)) = true then (stp (sI S t 1 a1) fun S1 => some (S1, a1)) else (some (S, (-1 : Int32)))
set_option maxHeartbeats 4000000 in
set_option maxRecDepth 100000 in
theorem c_X8_end {F : Nat} {S : mS} {t : Nat} {a1 : Int32} {R : mS × Int32} (ht : kd0 t = 8) (h : f_X8_end F S t a1 = some R) : mCt μX8_end 2 0 0 E0 S [.ref (t), .int (a1)] (mQe R.1 (some (.int R.2))) := by
  unfold f_X8_end at h
  refine mCt.of (by decide) (Nat.le_of_ble_eq_true rfl) ?_
  intro x
  refine mG.iload_n 1 dX8_end_0 rfl ?_
  refine mG.iconst (v := 0) dX8_end_1 rfl ?_
  refine mG.aload_n 0 dX8_end_2 rfl ?_
  refine mG.get (v := .int (S.1 t 1)) dX8_end_3 mfX8_99 ht rfl ?_
  refine mG.callS0 (as := [.int (a1), .int 0, .int (S.1 t 1)]) (st := []) (S2 := S) (r := some (.int (bI (f_X8_isWithin S a1 (0 : Int32) (S.1 t 1))))) dX8_end_6 mbX8_isWithin wk6_19 wk6_18 rfl rfl (by decide) (Nat.le_of_ble_eq_true rfl) (c_X8_isWithin  rfl) ?_
  refine mG.ifz_ne (b := f_X8_isWithin S a1 (0 : Int32) (S.1 t 1)) 14 dX8_end_9 (by decide) (fun c2 => ?_) (fun c2 => ?_)
  · replace h := itp c2 h
    refine mG.aload_n 0 dX8_end_14 rfl ?_
    refine mG.iload_n 1 dX8_end_15 rfl ?_
    obtain ⟨S1, hS1, h⟩ := stpp h
    refine mG.putI dX8_end_16 mfX8_99 rfl (Or.inl rfl) ht hS1 ?_
    refine mG.iload_n 1 dX8_end_19 rfl ?_
    obtain rfl := Option.some.inj h
    exact mG.iret dX8_end_20 rfl ⟨rfl, rfl, rfl⟩
  · replace h := itn c2 h
    refine mG.iconst (v := (-1)) dX8_end_12 rfl ?_
    obtain rfl := Option.some.inj h
    exact mG.iret dX8_end_13 rfl ⟨rfl, rfl, rfl⟩
theorem dX8_text_0 : decode cX8_text 0 = .ok (.aload_n 0, 1) := by decide +kernel
theorem dX8_text_1 : decode cX8_text 1 = .ok (.getfield 41, 3) := by decide +kernel
theorem dX8_text_4 : decode cX8_text 4 = .ok (.getfield 107, 3) := by decide +kernel
theorem dX8_text_7 : decode cX8_text 7 = .ok (.iconst 4, 1) := by decide +kernel
theorem dX8_text_8 : decode cX8_text 8 = .ok (.if_icmp .lt 5, 3) := by decide +kernel
theorem dX8_text_11 : decode cX8_text 11 = .ok (.iconst (-1), 1) := by decide +kernel
theorem dX8_text_12 : decode cX8_text 12 = .ok (.ireturn, 1) := by decide +kernel
theorem dX8_text_13 : decode cX8_text 13 = .ok (.aload_n 0, 1) := by decide +kernel
theorem dX8_text_14 : decode cX8_text 14 = .ok (.getfield 16, 3) := by decide +kernel
theorem dX8_text_17 : decode cX8_text 17 = .ok (.aload_n 0, 1) := by decide +kernel
theorem dX8_text_18 : decode cX8_text 18 = .ok (.getfield 9, 3) := by decide +kernel
theorem dX8_text_21 : decode cX8_text 21 = .ok (.aload_n 0, 1) := by decide +kernel
theorem dX8_text_22 : decode cX8_text 22 = .ok (.getfield 99, 3) := by decide +kernel
theorem dX8_text_25 : decode cX8_text 25 = .ok (.invokevirtual 109, 3) := by decide +kernel
theorem dX8_text_28 : decode cX8_text 28 = .ok (.aload_n 0, 1) := by decide +kernel
theorem dX8_text_29 : decode cX8_text 29 = .ok (.iconst 1, 1) := by decide +kernel
theorem dX8_text_30 : decode cX8_text 30 = .ok (.putfield 113, 3) := by decide +kernel
theorem dX8_text_33 : decode cX8_text 33 = .ok (.aload_n 0, 1) := by decide +kernel
theorem dX8_text_34 : decode cX8_text 34 = .ok (.iconst 0, 1) := by decide +kernel
theorem dX8_text_35 : decode cX8_text 35 = .ok (.putfield 99, 3) := by decide +kernel
theorem dX8_text_38 : decode cX8_text 38 = .ok (.aload_n 0, 1) := by decide +kernel
theorem dX8_text_39 : decode cX8_text 39 = .ok (.getfield 16, 3) := by decide +kernel
theorem dX8_text_42 : decode cX8_text 42 = .ok (.getfield 117, 3) := by decide +kernel
theorem dX8_text_45 : decode cX8_text 45 = .ok (.ifCond .eq 5, 3) := by decide +kernel
theorem dX8_text_48 : decode cX8_text 48 = .ok (.iconst (-1), 1) := by decide +kernel
theorem dX8_text_49 : decode cX8_text 49 = .ok (.ireturn, 1) := by decide +kernel
theorem dX8_text_50 : decode cX8_text 50 = .ok (.aload_n 0, 1) := by decide +kernel
theorem dX8_text_51 : decode cX8_text 51 = .ok (.getfield 22, 3) := by decide +kernel
theorem dX8_text_54 : decode cX8_text 54 = .ok (.aload_n 0, 1) := by decide +kernel
theorem dX8_text_55 : decode cX8_text 55 = .ok (.getfield 41, 3) := by decide +kernel
theorem dX8_text_58 : decode cX8_text 58 = .ok (.getfield 107, 3) := by decide +kernel
theorem dX8_text_61 : decode cX8_text 61 = .ok (.aaload, 1) := by decide +kernel
theorem dX8_text_62 : decode cX8_text 62 = .ok (.aload_n 0, 1) := by decide +kernel
theorem dX8_text_63 : decode cX8_text 63 = .ok (.getfield 16, 3) := by decide +kernel
theorem dX8_text_66 : decode cX8_text 66 = .ok (.getfield 120, 3) := by decide +kernel
theorem dX8_text_69 : decode cX8_text 69 = .ok (.invokevirtual 123, 3) := by decide +kernel
theorem dX8_text_72 : decode cX8_text 72 = .ok (.aload_n 0, 1) := by decide +kernel
theorem dX8_text_73 : decode cX8_text 73 = .ok (.getfield 41, 3) := by decide +kernel
theorem dX8_text_76 : decode cX8_text 76 = .ok (.dup, 1) := by decide +kernel
theorem dX8_text_77 : decode cX8_text 77 = .ok (.getfield 107, 3) := by decide +kernel
theorem dX8_text_80 : decode cX8_text 80 = .ok (.iconst 1, 1) := by decide +kernel
theorem dX8_text_81 : decode cX8_text 81 = .ok (.iadd, 1) := by decide +kernel
theorem dX8_text_82 : decode cX8_text 82 = .ok (.putfield 107, 3) := by decide +kernel
theorem dX8_text_85 : decode cX8_text 85 = .ok (.aload_n 0, 1) := by decide +kernel
theorem dX8_text_86 : decode cX8_text 86 = .ok (.getfield 41, 3) := by decide +kernel
theorem dX8_text_89 : decode cX8_text 89 = .ok (.getfield 107, 3) := by decide +kernel
theorem dX8_text_92 : decode cX8_text 92 = .ok (.iconst 1, 1) := by decide +kernel
theorem dX8_text_93 : decode cX8_text 93 = .ok (.isub, 1) := by decide +kernel
theorem dX8_text_94 : decode cX8_text 94 = .ok (.ireturn, 1) := by decide +kernel
def f_X8_text (F : Nat) (S : mS) (t : Nat) : Option (mS × Int32) := if (S.1 (t + 40) 4) < (4 : Int32) then (bd (f_X4_read F S (t + 2) (t + 1) (S.1 t 1)) fun q1 => stp (sI q1 t 2 (1 : Int32)) fun S2 => stp (sI S2 t 1 (0 : Int32)) fun S3 => if (S3.1 (t + 2) 1) = 0 then (ck (inb (S3.1 (t + 40) 4) 4) (bd (f_X5_copyFrom F S3 (t + 11 + 1 + 5 * (S3.1 (t + 40) 4).toNatClampNeg) (t + 2 + 1)) fun q5 => stp (sI q5 (t + 40) 4 ((q5.1 (t + 40) 4) + (1 : Int32))) fun S6 => some (S6, (S6.1 (t + 40) 4) - (1 : Int32)))) else (some (S3, (-1 : Int32)))) else (some (S, (-1 : Int32)))
set_option maxHeartbeats 4000000 in
set_option maxRecDepth 100000 in
theorem c_X8_text {F : Nat} {S : mS} {t : Nat} {R : mS × Int32} (ht : kd0 t = 8) (h : f_X8_text F S t = some R) : mCt μX8_text 77 0 0 E0 S [.ref (t)] (mQe R.1 (some (.int R.2))) := by
  unfold f_X8_text at h
  refine mCt.of (by decide) (Nat.le_of_ble_eq_true rfl) ?_
  intro x
  refine mG.aload_n 0 dX8_text_0 rfl ?_
  refine mG.get (v := .ref (t + 40)) dX8_text_1 mfX8_41 ht (lr8_now ht) ?_
  refine mG.get (v := .int (S.1 (t + 40) 4)) dX8_text_4 mfX8_107 (lk8_now ht) rfl ?_
  refine mG.iconst (v := 4) dX8_text_7 rfl ?_
  refine mG.icmp_lt 13 dX8_text_8 (by decide) (fun c8 => ?_) (fun c8 => ?_)
  · replace h := itp c8 h
    refine mG.aload_n 0 dX8_text_13 rfl ?_
    refine mG.get (v := .ref (t + 2)) dX8_text_14 mfX8_16 ht (lr8_reader ht) ?_
    refine mG.aload_n 0 dX8_text_17 rfl ?_
    refine mG.get (v := .ref (t + 1)) dX8_text_18 mfX8_9 ht (lr8_tape ht) ?_
    refine mG.aload_n 0 dX8_text_21 rfl ?_
    refine mG.get (v := .int (S.1 t 1)) dX8_text_22 mfX8_99 ht rfl ?_
    obtain ⟨q1, hq1, h⟩ := bdp h
    refine mG.callV0 (as := [.ref (t + 1), .int (S.1 t 1)]) (st := []) (S2 := q1) (r := none) dX8_text_25 mvX4_read wk9_13 rfl (lk8_reader ht) rfl (by decide) (Nat.le_of_ble_eq_true rfl) (c_X4_read (lk8_reader ht) (lk8_tape ht) (ll8_tape ht) hq1) ?_
    refine mG.aload_n 0 dX8_text_28 rfl ?_
    refine mG.iconst (v := 1) dX8_text_29 rfl ?_
    obtain ⟨S2, hS2, h⟩ := stpp h
    refine mG.putI dX8_text_30 mfX8_113 rfl (Or.inr ⟨rfl, Or.inr rfl⟩) ht hS2 ?_
    refine mG.aload_n 0 dX8_text_33 rfl ?_
    refine mG.iconst (v := 0) dX8_text_34 rfl ?_
    obtain ⟨S3, hS3, h⟩ := stpp h
    refine mG.putI dX8_text_35 mfX8_99 rfl (Or.inl rfl) ht hS3 ?_
    refine mG.aload_n 0 dX8_text_38 rfl ?_
    refine mG.get (v := .ref (t + 2)) dX8_text_39 mfX8_16 ht (lr8_reader ht) ?_
    refine mG.get (v := .int (S3.1 (t + 2) 1)) dX8_text_42 mfX8_117 (lk8_reader ht) rfl ?_
    refine mG.if_eq 50 dX8_text_45 (by decide) (fun c7 => ?_) (fun c7 => ?_)
    · replace h := itp c7 h
      refine mG.aload_n 0 dX8_text_50 rfl ?_
      refine mG.get (v := .ref (t + 11)) dX8_text_51 mfX8_22 ht (lr8_texts ht) ?_
      refine mG.aload_n 0 dX8_text_54 rfl ?_
      refine mG.get (v := .ref (t + 40)) dX8_text_55 mfX8_41 ht (lr8_now ht) ?_
      refine mG.get (v := .int (S3.1 (t + 40) 4)) dX8_text_58 mfX8_107 (lk8_now ht) rfl ?_
      obtain ⟨b4, h⟩ := ckp h
      refine mG.aald14 (u := t + 11 + 1 + 5 * (S3.1 (t + 40) 4).toNatClampNeg) dX8_text_61 (lk8_texts ht) (ll8_texts ht) (inbp b4) (la14 (lk8_texts ht) _ (inbN (inbp b4))) ?_
      refine mG.aload_n 0 dX8_text_62 rfl ?_
      refine mG.get (v := .ref (t + 2)) dX8_text_63 mfX8_16 ht (lr8_reader ht) ?_
      refine mG.get (v := .ref (t + 2 + 1)) dX8_text_66 mfX8_120 (lk8_reader ht) (lr4_draft (lk8_reader ht)) ?_
      obtain ⟨q5, hq5, h⟩ := bdp h
      refine mG.callV0 (as := [.ref (t + 2 + 1)]) (st := []) (S2 := q5) (r := none) dX8_text_69 mvX5_copyFrom wk19_12 rfl (lay14 (lk8_texts ht) (inbN (inbp b4))) rfl (by decide) (Nat.le_of_ble_eq_true rfl) (c_X5_copyFrom (lay14 (lk8_texts ht) (inbN (inbp b4))) (lk4_draft (lk8_reader ht)) hq5) ?_
      refine mG.aload_n 0 dX8_text_72 rfl ?_
      refine mG.get (v := .ref (t + 40)) dX8_text_73 mfX8_41 ht (lr8_now ht) ?_
      refine mG.dup dX8_text_76 rfl ?_
      refine mG.get (v := .int (q5.1 (t + 40) 4)) dX8_text_77 mfX8_107 (lk8_now ht) rfl ?_
      refine mG.iconst (v := 1) dX8_text_80 rfl ?_
      refine mG.iadd dX8_text_81 ?_
      obtain ⟨S6, hS6, h⟩ := stpp h
      refine mG.putI dX8_text_82 mfX8_107 rfl (Or.inl rfl) (lk8_now ht) hS6 ?_
      refine mG.aload_n 0 dX8_text_85 rfl ?_
      refine mG.get (v := .ref (t + 40)) dX8_text_86 mfX8_41 ht (lr8_now ht) ?_
      refine mG.get (v := .int (S6.1 (t + 40) 4)) dX8_text_89 mfX8_107 (lk8_now ht) rfl ?_
      refine mG.iconst (v := 1) dX8_text_92 rfl ?_
      refine mG.isub dX8_text_93 ?_
      obtain rfl := Option.some.inj h
      exact mG.iret dX8_text_94 rfl ⟨rfl, rfl, rfl⟩
    · replace h := itn c7 h
      refine mG.iconst (v := (-1)) dX8_text_48 rfl ?_
      obtain rfl := Option.some.inj h
      exact mG.iret dX8_text_49 rfl ⟨rfl, rfl, rfl⟩
  · replace h := itn c8 h
    refine mG.iconst (v := (-1)) dX8_text_11 rfl ?_
    obtain rfl := Option.some.inj h
    exact mG.iret dX8_text_12 rfl ⟨rfl, rfl, rfl⟩
theorem dX8_fault_0 : decode cX8_fault 0 = .ok (.aload_n 0, 1) := by decide +kernel
theorem dX8_fault_1 : decode cX8_fault 1 = .ok (.getfield 113, 3) := by decide +kernel
theorem dX8_fault_4 : decode cX8_fault 4 = .ok (.ifCond .ne 5, 3) := by decide +kernel
theorem dX8_fault_7 : decode cX8_fault 7 = .ok (.iconst (-1), 1) := by decide +kernel
theorem dX8_fault_8 : decode cX8_fault 8 = .ok (.ireturn, 1) := by decide +kernel
theorem dX8_fault_9 : decode cX8_fault 9 = .ok (.iload_n 1, 1) := by decide +kernel
theorem dX8_fault_10 : decode cX8_fault 10 = .ok (.ifCond .ne 11, 3) := by decide +kernel
theorem dX8_fault_13 : decode cX8_fault 13 = .ok (.aload_n 0, 1) := by decide +kernel
theorem dX8_fault_14 : decode cX8_fault 14 = .ok (.getfield 16, 3) := by decide +kernel
theorem dX8_fault_17 : decode cX8_fault 17 = .ok (.getfield 117, 3) := by decide +kernel
theorem dX8_fault_20 : decode cX8_fault 20 = .ok (.ireturn, 1) := by decide +kernel
theorem dX8_fault_21 : decode cX8_fault 21 = .ok (.iload_n 1, 1) := by decide +kernel
theorem dX8_fault_22 : decode cX8_fault 22 = .ok (.iconst 1, 1) := by decide +kernel
theorem dX8_fault_23 : decode cX8_fault 23 = .ok (.if_icmp .ne 13, 3) := by decide +kernel
theorem dX8_fault_26 : decode cX8_fault 26 = .ok (.aload_n 0, 1) := by decide +kernel
theorem dX8_fault_27 : decode cX8_fault 27 = .ok (.getfield 16, 3) := by decide +kernel
theorem dX8_fault_30 : decode cX8_fault 30 = .ok (.getfield 127, 3) := by decide +kernel
theorem dX8_fault_33 : decode cX8_fault 33 = .ok (.goto 4, 3) := by decide +kernel
theorem dX8_fault_36 : decode cX8_fault 36 = .ok (.iconst (-1), 1) := by decide +kernel
theorem dX8_fault_37 : decode cX8_fault 37 = .ok (.ireturn, 1) := by decide +kernel
def f_X8_fault (S0 : mS) (t : Nat) (a1 : Int32) : Int32 := if (S0.1 t 2) = 0 then ((-1 : Int32)) else (if a1 = 0 then (S0.1 (t + 2) 1) else (if a1 = (1 : Int32) then (S0.1 (t + 2) 2) else ((-1 : Int32))))
set_option maxHeartbeats 4000000 in
set_option maxRecDepth 100000 in
theorem c_X8_fault {S0 : mS} {t : Nat} {a1 : Int32} {R : Int32} (ht : kd0 t = 8) (h : f_X8_fault S0 t a1 = R) : mCt μX8_fault 1 0 0 E0 S0 [.ref (t), .int (a1)] (mQe S0 (some (.int R))) := by
  unfold f_X8_fault at h
  refine mCt.of (by decide) (Nat.le_of_ble_eq_true rfl) ?_
  intro x
  refine mG.aload_n 0 dX8_fault_0 rfl ?_
  refine mG.get (v := .int (S0.1 t 2)) dX8_fault_1 mfX8_113 ht rfl ?_
  refine mG.if_ne 9 dX8_fault_4 (by decide) (fun c3 => ?_) (fun c3 => ?_)
  · replace h := itn c3 h
    refine mG.iload_n 1 dX8_fault_9 rfl ?_
    refine mG.if_ne 21 dX8_fault_10 (by decide) (fun c2 => ?_) (fun c2 => ?_)
    · replace h := itn c2 h
      refine mG.iload_n 1 dX8_fault_21 rfl ?_
      refine mG.iconst (v := 1) dX8_fault_22 rfl ?_
      refine mG.icmp_ne 36 dX8_fault_23 (by decide) (fun c1 => ?_) (fun c1 => ?_)
      · replace h := itn c1 h
        refine mG.iconst (v := (-1)) dX8_fault_36 rfl ?_
        subst h
        exact mG.iret dX8_fault_37 rfl ⟨rfl, rfl, rfl⟩
      · replace h := itp c1 h
        refine mG.aload_n 0 dX8_fault_26 rfl ?_
        refine mG.get (v := .ref (t + 2)) dX8_fault_27 mfX8_16 ht (lr8_reader ht) ?_
        refine mG.get (v := .int (S0.1 (t + 2) 2)) dX8_fault_30 mfX8_127 (lk8_reader ht) rfl ?_
        refine mG.goto 37 dX8_fault_33 (by decide) ?_
        subst h
        exact mG.iret dX8_fault_37 rfl ⟨rfl, rfl, rfl⟩
    · replace h := itp c2 h
      refine mG.aload_n 0 dX8_fault_13 rfl ?_
      refine mG.get (v := .ref (t + 2)) dX8_fault_14 mfX8_16 ht (lr8_reader ht) ?_
      refine mG.get (v := .int (S0.1 (t + 2) 1)) dX8_fault_17 mfX8_117 (lk8_reader ht) rfl ?_
      subst h
      exact mG.iret dX8_fault_20 rfl ⟨rfl, rfl, rfl⟩
  · replace h := itp c3 h
    refine mG.iconst (v := (-1)) dX8_fault_7 rfl ?_
    subst h
    exact mG.iret dX8_fault_8 rfl ⟨rfl, rfl, rfl⟩
theorem dX8_isText_0 : decode cX8_isText 0 = .ok (.iload_n 1, 1) := by decide +kernel
theorem dX8_isText_1 : decode cX8_isText 1 = .ok (.iconst 0, 1) := by decide +kernel
theorem dX8_isText_2 : decode cX8_isText 2 = .ok (.aload_n 0, 1) := by decide +kernel
theorem dX8_isText_3 : decode cX8_isText 3 = .ok (.getfield 41, 3) := by decide +kernel
theorem dX8_isText_6 : decode cX8_isText 6 = .ok (.getfield 107, 3) := by decide +kernel
theorem dX8_isText_9 : decode cX8_isText 9 = .ok (.iconst 1, 1) := by decide +kernel
theorem dX8_isText_10 : decode cX8_isText 10 = .ok (.isub, 1) := by decide +kernel
theorem dX8_isText_11 : decode cX8_isText 11 = .ok (.invokestatic 84, 3) := by decide +kernel
theorem dX8_isText_14 : decode cX8_isText 14 = .ok (.ifCond .eq 12, 3) := by decide +kernel
theorem dX8_isText_17 : decode cX8_isText 17 = .ok (.iload_n 1, 1) := by decide +kernel
theorem dX8_isText_18 : decode cX8_isText 18 = .ok (.iconst 4, 1) := by decide +kernel
theorem dX8_isText_19 : decode cX8_isText 19 = .ok (.if_icmp .ge 7, 3) := by decide +kernel
theorem dX8_isText_22 : decode cX8_isText 22 = .ok (.iconst 1, 1) := by decide +kernel
theorem dX8_isText_23 : decode cX8_isText 23 = .ok (.goto 4, 3) := by decide +kernel
theorem dX8_isText_26 : decode cX8_isText 26 = .ok (.iconst 0, 1) := by decide +kernel
theorem dX8_isText_27 : decode cX8_isText 27 = .ok (.ireturn, 1) := by decide +kernel
def f_X8_isText (S0 : mS) (t : Nat) (a1 : Int32) : Bool := if (f_X8_isWithin S0 a1 (0 : Int32) ((S0.1 (t + 40) 4) - (1 : Int32))) = true then (if (4 : Int32) ≤ a1 then (false) else (true)) else (false)
set_option maxHeartbeats 4000000 in
set_option maxRecDepth 100000 in
theorem c_X8_isText {S0 : mS} {t : Nat} {a1 : Int32} {R : Bool} (ht : kd0 t = 8) (h : f_X8_isText S0 t a1 = R) : mCt μX8_isText 2 0 0 E0 S0 [.ref (t), .int (a1)] (mQe S0 (some (.int (bI R)))) := by
  unfold f_X8_isText at h
  refine mCt.of (by decide) (Nat.le_of_ble_eq_true rfl) ?_
  intro x
  refine mG.iload_n 1 dX8_isText_0 rfl ?_
  refine mG.iconst (v := 0) dX8_isText_1 rfl ?_
  refine mG.aload_n 0 dX8_isText_2 rfl ?_
  refine mG.get (v := .ref (t + 40)) dX8_isText_3 mfX8_41 ht (lr8_now ht) ?_
  refine mG.get (v := .int (S0.1 (t + 40) 4)) dX8_isText_6 mfX8_107 (lk8_now ht) rfl ?_
  refine mG.iconst (v := 1) dX8_isText_9 rfl ?_
  refine mG.isub dX8_isText_10 ?_
  refine mG.callS0 (as := [.int (a1), .int 0, .int ((S0.1 (t + 40) 4) - (1 : Int32))]) (st := []) (S2 := S0) (r := some (.int (bI (f_X8_isWithin S0 a1 (0 : Int32) ((S0.1 (t + 40) 4) - (1 : Int32)))))) dX8_isText_11 mbX8_isWithin wk6_19 wk6_18 rfl rfl (by decide) (Nat.le_of_ble_eq_true rfl) (c_X8_isWithin  rfl) ?_
  refine mG.ifz_eq (b := f_X8_isWithin S0 a1 (0 : Int32) ((S0.1 (t + 40) 4) - (1 : Int32))) 26 dX8_isText_14 (by decide) (fun c2 => ?_) (fun c2 => ?_)
  · replace h := itn c2 h
    refine mG.iconst (v := 0) dX8_isText_26 rfl ?_
    subst h
    exact mG.zret (b := false) dX8_isText_27 rfl rfl ⟨rfl, rfl, rfl⟩
  · replace h := itp c2 h
    refine mG.iload_n 1 dX8_isText_17 rfl ?_
    refine mG.iconst (v := 4) dX8_isText_18 rfl ?_
    refine mG.icmp_ge 26 dX8_isText_19 (by decide) (fun c1 => ?_) (fun c1 => ?_)
    · replace h := itp c1 h
      refine mG.iconst (v := 0) dX8_isText_26 rfl ?_
      subst h
      exact mG.zret (b := false) dX8_isText_27 rfl rfl ⟨rfl, rfl, rfl⟩
    · replace h := itn c1 h
      refine mG.iconst (v := 1) dX8_isText_22 rfl ?_
      refine mG.goto 27 dX8_isText_23 (by decide) ?_
      subst h
      exact mG.zret (b := true) dX8_isText_27 rfl rfl ⟨rfl, rfl, rfl⟩
theorem dX8_by_0 : decode cX8_by 0 = .ok (.iload_n 1, 1) := by decide +kernel
theorem dX8_by_1 : decode cX8_by 1 = .ok (.iconst (-1), 1) := by decide +kernel
theorem dX8_by_2 : decode cX8_by 2 = .ok (.if_icmp .eq 13, 3) := by decide +kernel
theorem dX8_by_5 : decode cX8_by 5 = .ok (.aload_n 0, 1) := by decide +kernel
theorem dX8_by_6 : decode cX8_by 6 = .ok (.iload_n 1, 1) := by decide +kernel
theorem dX8_by_7 : decode cX8_by 7 = .ok (.invokevirtual 130, 3) := by decide +kernel
theorem dX8_by_10 : decode cX8_by 10 = .ok (.ifCond .ne 5, 3) := by decide +kernel
theorem dX8_by_13 : decode cX8_by 13 = .ok (.iconst 0, 1) := by decide +kernel
theorem dX8_by_14 : decode cX8_by 14 = .ok (.ireturn, 1) := by decide +kernel
theorem dX8_by_15 : decode cX8_by 15 = .ok (.aload_n 0, 1) := by decide +kernel
theorem dX8_by_16 : decode cX8_by 16 = .ok (.getfield 41, 3) := by decide +kernel
theorem dX8_by_19 : decode cX8_by 19 = .ok (.iload_n 1, 1) := by decide +kernel
theorem dX8_by_20 : decode cX8_by 20 = .ok (.putfield 133, 3) := by decide +kernel
theorem dX8_by_23 : decode cX8_by 23 = .ok (.iconst 1, 1) := by decide +kernel
theorem dX8_by_24 : decode cX8_by 24 = .ok (.ireturn, 1) := by decide +kernel
def f_X8_by (F : Nat) (S : mS) (t : Nat) (a1 : Int32) : Option (mS × Bool) := if a1 = (-1 : Int32) then (stp (sI S (t + 40) 5 a1) fun S1 => some (S1, true)) else (if (f_X8_isText S t a1) = true then (stp (sI S (t + 40) 5 a1) fun S2 => some (S2, true)) else (some (S, false)))
set_option maxHeartbeats 4000000 in
set_option maxRecDepth 100000 in
theorem c_X8_by {F : Nat} {S : mS} {t : Nat} {a1 : Int32} {R : mS × Bool} (ht : kd0 t = 8) (h : f_X8_by F S t a1 = some R) : mCt μX8_by 3 0 0 E0 S [.ref (t), .int (a1)] (mQe R.1 (some (.int (bI R.2)))) := by
  unfold f_X8_by at h
  refine mCt.of (by decide) (Nat.le_of_ble_eq_true rfl) ?_
  intro x
  refine mG.iload_n 1 dX8_by_0 rfl ?_
  refine mG.iconst (v := (-1)) dX8_by_1 rfl ?_
  refine mG.icmp_eq 15 dX8_by_2 (by decide) (fun c4 => ?_) (fun c4 => ?_)
  · replace h := itp c4 h
    refine mG.aload_n 0 dX8_by_15 rfl ?_
    refine mG.get (v := .ref (t + 40)) dX8_by_16 mfX8_41 ht (lr8_now ht) ?_
    refine mG.iload_n 1 dX8_by_19 rfl ?_
    obtain ⟨S1, hS1, h⟩ := stpp h
    refine mG.putI dX8_by_20 mfX8_133 rfl (Or.inl rfl) (lk8_now ht) hS1 ?_
    refine mG.iconst (v := 1) dX8_by_23 rfl ?_
    obtain rfl := Option.some.inj h
    exact mG.zret (b := true) dX8_by_24 rfl rfl ⟨rfl, rfl, rfl⟩
  · replace h := itn c4 h
    refine mG.aload_n 0 dX8_by_5 rfl ?_
    refine mG.iload_n 1 dX8_by_6 rfl ?_
    refine mG.callV0 (as := [.int (a1)]) (st := []) (S2 := S) (r := some (.int (bI (f_X8_isText S t a1)))) dX8_by_7 mvX8_isText wk26_19 rfl ht rfl (by decide) (Nat.le_of_ble_eq_true rfl) (c_X8_isText ht rfl) ?_
    refine mG.ifz_ne (b := f_X8_isText S t a1) 15 dX8_by_10 (by decide) (fun c3 => ?_) (fun c3 => ?_)
    · replace h := itp c3 h
      refine mG.aload_n 0 dX8_by_15 rfl ?_
      refine mG.get (v := .ref (t + 40)) dX8_by_16 mfX8_41 ht (lr8_now ht) ?_
      refine mG.iload_n 1 dX8_by_19 rfl ?_
      obtain ⟨S2, hS2, h⟩ := stpp h
      refine mG.putI dX8_by_20 mfX8_133 rfl (Or.inl rfl) (lk8_now ht) hS2 ?_
      refine mG.iconst (v := 1) dX8_by_23 rfl ?_
      obtain rfl := Option.some.inj h
      exact mG.zret (b := true) dX8_by_24 rfl rfl ⟨rfl, rfl, rfl⟩
    · replace h := itn c3 h
      refine mG.iconst (v := 0) dX8_by_13 rfl ?_
      obtain rfl := Option.some.inj h
      exact mG.zret (b := false) dX8_by_14 rfl rfl ⟨rfl, rfl, rfl⟩
theorem dX8_rule_0 : decode cX8_rule 0 = .ok (.aload_n 0, 1) := by decide +kernel
theorem dX8_rule_1 : decode cX8_rule 1 = .ok (.aload_n 0, 1) := by decide +kernel
theorem dX8_rule_2 : decode cX8_rule 2 = .ok (.getfield 41, 3) := by decide +kernel
theorem dX8_rule_5 : decode cX8_rule 5 = .ok (.getfield 133, 3) := by decide +kernel
theorem dX8_rule_8 : decode cX8_rule 8 = .ok (.invokevirtual 130, 3) := by decide +kernel
theorem dX8_rule_11 : decode cX8_rule 11 = .ok (.ifCond .eq 18, 3) := by decide +kernel
theorem dX8_rule_14 : decode cX8_rule 14 = .ok (.aload_n 0, 1) := by decide +kernel
theorem dX8_rule_15 : decode cX8_rule 15 = .ok (.getfield 22, 3) := by decide +kernel
theorem dX8_rule_18 : decode cX8_rule 18 = .ok (.aload_n 0, 1) := by decide +kernel
theorem dX8_rule_19 : decode cX8_rule 19 = .ok (.getfield 41, 3) := by decide +kernel
theorem dX8_rule_22 : decode cX8_rule 22 = .ok (.getfield 133, 3) := by decide +kernel
theorem dX8_rule_25 : decode cX8_rule 25 = .ok (.aaload, 1) := by decide +kernel
theorem dX8_rule_26 : decode cX8_rule 26 = .ok (.goto 7, 3) := by decide +kernel
theorem dX8_rule_29 : decode cX8_rule 29 = .ok (.aload_n 0, 1) := by decide +kernel
theorem dX8_rule_30 : decode cX8_rule 30 = .ok (.getfield 27, 3) := by decide +kernel
theorem dX8_rule_33 : decode cX8_rule 33 = .ok (.areturn, 1) := by decide +kernel
def f_X8_rule (F : Nat) (S0 : mS) (t : Nat) : Option Nat := if (f_X8_isText S0 t (S0.1 (t + 40) 5)) = true then (ck (inb (S0.1 (t + 40) 5) 4) (some (t + 11 + 1 + 5 * (S0.1 (t + 40) 5).toNatClampNeg))) else (some (t + 32))
set_option maxHeartbeats 4000000 in
set_option maxRecDepth 100000 in
theorem c_X8_rule {F : Nat} {S0 : mS} {t : Nat} {R : Nat} (ht : kd0 t = 8) (h : f_X8_rule F S0 t = some R) : mCt μX8_rule 3 0 0 E0 S0 [.ref (t)] (mQe S0 (some (.ref R))) := by
  unfold f_X8_rule at h
  refine mCt.of (by decide) (Nat.le_of_ble_eq_true rfl) ?_
  intro x
  refine mG.aload_n 0 dX8_rule_0 rfl ?_
  refine mG.aload_n 0 dX8_rule_1 rfl ?_
  refine mG.get (v := .ref (t + 40)) dX8_rule_2 mfX8_41 ht (lr8_now ht) ?_
  refine mG.get (v := .int (S0.1 (t + 40) 5)) dX8_rule_5 mfX8_133 (lk8_now ht) rfl ?_
  refine mG.callV0 (as := [.int (S0.1 (t + 40) 5)]) (st := []) (S2 := S0) (r := some (.int (bI (f_X8_isText S0 t (S0.1 (t + 40) 5))))) dX8_rule_8 mvX8_isText wk26_19 rfl ht rfl (by decide) (Nat.le_of_ble_eq_true rfl) (c_X8_isText ht rfl) ?_
  refine mG.ifz_eq (b := f_X8_isText S0 t (S0.1 (t + 40) 5)) 29 dX8_rule_11 (by decide) (fun c2 => ?_) (fun c2 => ?_)
  · replace h := itn c2 h
    refine mG.aload_n 0 dX8_rule_29 rfl ?_
    refine mG.get (v := .ref (t + 32)) dX8_rule_30 mfX8_27 ht (lr8_lawless ht) ?_
    obtain rfl := Option.some.inj h
    exact mG.aret dX8_rule_33 rfl ⟨rfl, rfl, rfl⟩
  · replace h := itp c2 h
    refine mG.aload_n 0 dX8_rule_14 rfl ?_
    refine mG.get (v := .ref (t + 11)) dX8_rule_15 mfX8_22 ht (lr8_texts ht) ?_
    refine mG.aload_n 0 dX8_rule_18 rfl ?_
    refine mG.get (v := .ref (t + 40)) dX8_rule_19 mfX8_41 ht (lr8_now ht) ?_
    refine mG.get (v := .int (S0.1 (t + 40) 5)) dX8_rule_22 mfX8_133 (lk8_now ht) rfl ?_
    obtain ⟨b1, h⟩ := ckp h
    refine mG.aald14 (u := t + 11 + 1 + 5 * (S0.1 (t + 40) 5).toNatClampNeg) dX8_rule_25 (lk8_texts ht) (ll8_texts ht) (inbp b1) (la14 (lk8_texts ht) _ (inbN (inbp b1))) ?_
    refine mG.goto 33 dX8_rule_26 (by decide) ?_
    obtain rfl := Option.some.inj h
    exact mG.aret dX8_rule_33 rfl ⟨rfl, rfl, rfl⟩
theorem rk_X8_rule {F : Nat} {S0 : mS} {t : Nat} {R : Nat} (ht : kd0 t = 8) (h : f_X8_rule F S0 t = some R) : kd0 R = 5 := by
  unfold f_X8_rule at h
  split at h
  · obtain ⟨b, h⟩ := ckp h
    obtain rfl := Option.some.inj h
    exact lay14 (lk8_texts ht) (inbN (inbp b))
  · obtain rfl := Option.some.inj h
    exact lk8_lawless ht
theorem dX8_knockAt_0 : decode cX8_knockAt 0 = .ok (.aload_n 0, 1) := by decide +kernel
theorem dX8_knockAt_1 : decode cX8_knockAt 1 = .ok (.getfield 41, 3) := by decide +kernel
theorem dX8_knockAt_4 : decode cX8_knockAt 4 = .ok (.getfield 88, 3) := by decide +kernel
theorem dX8_knockAt_7 : decode cX8_knockAt 7 = .ok (.astore_n 2, 1) := by decide +kernel
theorem dX8_knockAt_8 : decode cX8_knockAt 8 = .ok (.aload_n 2, 1) := by decide +kernel
theorem dX8_knockAt_9 : decode cX8_knockAt 9 = .ok (.iload_n 1, 1) := by decide +kernel
theorem dX8_knockAt_10 : decode cX8_knockAt 10 = .ok (.aload_n 2, 1) := by decide +kernel
theorem dX8_knockAt_11 : decode cX8_knockAt 11 = .ok (.invokevirtual 172, 3) := by decide +kernel
theorem dX8_knockAt_14 : decode cX8_knockAt 14 = .ok (.invokevirtual 210, 3) := by decide +kernel
theorem dX8_knockAt_17 : decode cX8_knockAt 17 = .ok (.istore_n 3, 1) := by decide +kernel
theorem dX8_knockAt_18 : decode cX8_knockAt 18 = .ok (.aload_n 2, 1) := by decide +kernel
theorem dX8_knockAt_19 : decode cX8_knockAt 19 = .ok (.iload_n 1, 1) := by decide +kernel
theorem dX8_knockAt_20 : decode cX8_knockAt 20 = .ok (.iload_n 3, 1) := by decide +kernel
theorem dX8_knockAt_21 : decode cX8_knockAt 21 = .ok (.invokevirtual 367, 3) := by decide +kernel
theorem dX8_knockAt_24 : decode cX8_knockAt 24 = .ok (.iload_n 3, 1) := by decide +kernel
theorem dX8_knockAt_25 : decode cX8_knockAt 25 = .ok (.ifCond .eq 11, 3) := by decide +kernel
theorem dX8_knockAt_28 : decode cX8_knockAt 28 = .ok (.aload_n 2, 1) := by decide +kernel
theorem dX8_knockAt_29 : decode cX8_knockAt 29 = .ok (.iload_n 1, 1) := by decide +kernel
theorem dX8_knockAt_30 : decode cX8_knockAt 30 = .ok (.iconst (-1), 1) := by decide +kernel
theorem dX8_knockAt_31 : decode cX8_knockAt 31 = .ok (.invokevirtual 371, 3) := by decide +kernel
theorem dX8_knockAt_34 : decode cX8_knockAt 34 = .ok (.iconst 1, 1) := by decide +kernel
theorem dX8_knockAt_35 : decode cX8_knockAt 35 = .ok (.ireturn, 1) := by decide +kernel
theorem dX8_knockAt_36 : decode cX8_knockAt 36 = .ok (.aload_n 0, 1) := by decide +kernel
theorem dX8_knockAt_37 : decode cX8_knockAt 37 = .ok (.getfield 34, 3) := by decide +kernel
theorem dX8_knockAt_40 : decode cX8_knockAt 40 = .ok (.aload_n 2, 1) := by decide +kernel
theorem dX8_knockAt_41 : decode cX8_knockAt 41 = .ok (.aload_n 2, 1) := by decide +kernel
theorem dX8_knockAt_42 : decode cX8_knockAt 42 = .ok (.getfield 166, 3) := by decide +kernel
theorem dX8_knockAt_45 : decode cX8_knockAt 45 = .ok (.invokevirtual 351, 3) := by decide +kernel
theorem dX8_knockAt_48 : decode cX8_knockAt 48 = .ok (.aload_n 0, 1) := by decide +kernel
theorem dX8_knockAt_49 : decode cX8_knockAt 49 = .ok (.getfield 34, 3) := by decide +kernel
theorem dX8_knockAt_52 : decode cX8_knockAt 52 = .ok (.aload_n 0, 1) := by decide +kernel
theorem dX8_knockAt_53 : decode cX8_knockAt 53 = .ok (.invokevirtual 236, 3) := by decide +kernel
theorem dX8_knockAt_56 : decode cX8_knockAt 56 = .ok (.aload_n 2, 1) := by decide +kernel
theorem dX8_knockAt_57 : decode cX8_knockAt 57 = .ok (.iload_n 1, 1) := by decide +kernel
theorem dX8_knockAt_58 : decode cX8_knockAt 58 = .ok (.invokevirtual 360, 3) := by decide +kernel
theorem dX8_knockAt_61 : decode cX8_knockAt 61 = .ok (.ifCond .eq 9, 3) := by decide +kernel
theorem dX8_knockAt_64 : decode cX8_knockAt 64 = .ok (.aload_n 2, 1) := by decide +kernel
theorem dX8_knockAt_65 : decode cX8_knockAt 65 = .ok (.iload_n 1, 1) := by decide +kernel
theorem dX8_knockAt_66 : decode cX8_knockAt 66 = .ok (.iconst 1, 1) := by decide +kernel
theorem dX8_knockAt_67 : decode cX8_knockAt 67 = .ok (.invokevirtual 371, 3) := by decide +kernel
theorem dX8_knockAt_70 : decode cX8_knockAt 70 = .ok (.iconst 0, 1) := by decide +kernel
theorem dX8_knockAt_71 : decode cX8_knockAt 71 = .ok (.ireturn, 1) := by decide +kernel
def f_X8_knockAt (F : Nat) (S : mS) (t : Nat) (a1 : Int32) : Option (mS × Int32) := bd (f_X6_isShut F S (t + 40 + 1) a1 (f_X6_date S (t + 40 + 1))) fun q1 => bd (f_X6_writeKnock F S (t + 40 + 1) a1 (bI (q1))) fun q2 => if q1 = true then (bd (f_X6_befriend F q2 (t + 40 + 1) a1 (-1 : Int32)) fun q8 => some (q8, (1 : Int32))) else (bd (f_X3_lookAt F q2 (t + 37) (t + 40 + 1) (q2.1 (t + 40 + 1) 7)) fun q3 => bd (f_X8_rule F q3 t) fun q4 => bd (f_X3_letsIn F q3 (t + 37) q4 (t + 40 + 1) a1) fun q5 => if q5.2 = true then (bd (f_X6_befriend F q5.1 (t + 40 + 1) a1 (1 : Int32)) fun q6 => some (q6, (0 : Int32))) else (some (q5.1, (0 : Int32))))
set_option maxHeartbeats 4000000 in
set_option maxRecDepth 100000 in
theorem c_X8_knockAt {F : Nat} {S : mS} {t : Nat} {a1 : Int32} {R : mS × Int32} (ht : kd0 t = 8) (h : f_X8_knockAt F S t a1 = some R) : mCt μX8_knockAt 5 0 0 E0 S [.ref (t), .int (a1)] (mQe R.1 (some (.int R.2))) := by
  unfold f_X8_knockAt at h
  refine mCt.of (by decide) (Nat.le_of_ble_eq_true rfl) ?_
  intro x
  refine mG.aload_n 0 dX8_knockAt_0 rfl ?_
  refine mG.get (v := .ref (t + 40)) dX8_knockAt_1 mfX8_41 ht (lr8_now ht) ?_
  refine mG.get (v := .ref (t + 40 + 1)) dX8_knockAt_4 mfX8_88 (lk8_now ht) (lr7_town (lk8_now ht)) ?_
  refine mG.astore_n (lv2 := [(2, .ref (t + 40 + 1)), (0, .ref (t)), (1, .int (a1))]) dX8_knockAt_7 rfl (by decide) rfl ?_
  refine mG.aload_n 0 dX8_knockAt_8 rfl ?_
  refine mG.iload_n 2 dX8_knockAt_9 rfl ?_
  refine mG.aload_n 0 dX8_knockAt_10 rfl ?_
  refine mG.callV0 (as := []) (st := [.int (a1), .ref (t + 40 + 1)]) (S2 := S) (r := some (.int (f_X6_date S (t + 40 + 1)))) dX8_knockAt_11 mvX6_date wk28_19 rfl (lk7_town (lk8_now ht)) rfl (by decide) (Nat.le_of_ble_eq_true rfl) (c_X6_date (lk7_town (lk8_now ht)) rfl) ?_
  obtain ⟨q1, hq1, h⟩ := bdp h
  refine mG.callV0 (as := [.int (a1), .int (f_X6_date S (t + 40 + 1))]) (st := []) (S2 := S) (r := some (.int (bI (q1)))) dX8_knockAt_14 mvX6_isShut wk28_23 rfl (lk7_town (lk8_now ht)) rfl (by decide) (Nat.le_of_ble_eq_true rfl) (c_X6_isShut (lk7_town (lk8_now ht)) hq1) ?_
  refine mG.istore_n (lv2 := [(3, .int (bI (q1))), (2, .ref (t + 40 + 1)), (0, .ref (t)), (1, .int (a1))]) dX8_knockAt_17 rfl (by decide) rfl ?_
  refine mG.aload_n 1 dX8_knockAt_18 rfl ?_
  refine mG.iload_n 3 dX8_knockAt_19 rfl ?_
  refine mG.iload_n 0 dX8_knockAt_20 rfl ?_
  obtain ⟨q2, hq2, h⟩ := bdp h
  refine mG.callV0 (as := [.int (a1), .int (bI (q1))]) (st := []) (S2 := q2) (r := none) dX8_knockAt_21 mvX6_writeKnock wk29_3 rfl (lk7_town (lk8_now ht)) rfl (by decide) (Nat.le_of_ble_eq_true rfl) (c_X6_writeKnock (lk7_town (lk8_now ht)) hq2) ?_
  refine mG.iload_n 0 dX8_knockAt_24 rfl ?_
  refine mG.ifz_eq (b := q1) 36 dX8_knockAt_25 (by decide) (fun c9 => ?_) (fun c9 => ?_)
  · replace h := itn c9 h
    refine mG.aload_n 2 dX8_knockAt_36 rfl ?_
    refine mG.get (v := .ref (t + 37)) dX8_knockAt_37 mfX8_34 ht (lr8_laws ht) ?_
    refine mG.aload_n 1 dX8_knockAt_40 rfl ?_
    refine mG.aload_n 1 dX8_knockAt_41 rfl ?_
    refine mG.get (v := .int (q2.1 (t + 40 + 1) 7)) dX8_knockAt_42 mfX8_166 (lk7_town (lk8_now ht)) rfl ?_
    obtain ⟨q3, hq3, h⟩ := bdp h
    refine mG.callV0 (as := [.ref (t + 40 + 1), .int (q2.1 (t + 40 + 1) 7)]) (st := []) (S2 := q3) (r := none) dX8_knockAt_45 mvX3_lookAt wk29_12 rfl (lk8_laws ht) rfl (by decide) (Nat.le_of_ble_eq_true rfl) (c_X3_lookAt (lk8_laws ht) (lk7_town (lk8_now ht)) hq3) ?_
    refine mG.aload_n 2 dX8_knockAt_48 rfl ?_
    refine mG.get (v := .ref (t + 37)) dX8_knockAt_49 mfX8_34 ht (lr8_laws ht) ?_
    refine mG.aload_n 2 dX8_knockAt_52 rfl ?_
    obtain ⟨q4, hq4, h⟩ := bdp h
    refine mG.callV0 (as := []) (st := [.ref (t + 37)]) (S2 := q3) (r := some (.ref (q4))) dX8_knockAt_53 mvX8_rule wk30_12 rfl ht rfl (by decide) (Nat.le_of_ble_eq_true rfl) (c_X8_rule ht hq4) ?_
    refine mG.aload_n 1 dX8_knockAt_56 rfl ?_
    refine mG.iload_n 3 dX8_knockAt_57 rfl ?_
    obtain ⟨q5, hq5, h⟩ := bdp h
    refine mG.callV0 (as := [.ref (q4), .ref (t + 40 + 1), .int (a1)]) (st := []) (S2 := q5.1) (r := some (.int (bI (q5.2)))) dX8_knockAt_58 mvX3_letsIn wk30_16 rfl (lk8_laws ht) rfl (by decide) (Nat.le_of_ble_eq_true rfl) (c_X3_letsIn (lk8_laws ht) (rk_X8_rule ht hq4) (lk7_town (lk8_now ht)) hq5) ?_
    refine mG.ifz_eq (b := q5.2) 70 dX8_knockAt_61 (by decide) (fun c7 => ?_) (fun c7 => ?_)
    · replace h := itn c7 h
      refine mG.iconst (v := 0) dX8_knockAt_70 rfl ?_
      obtain rfl := Option.some.inj h
      exact mG.iret dX8_knockAt_71 rfl ⟨rfl, rfl, rfl⟩
    · replace h := itp c7 h
      refine mG.aload_n 1 dX8_knockAt_64 rfl ?_
      refine mG.iload_n 3 dX8_knockAt_65 rfl ?_
      refine mG.iconst (v := 1) dX8_knockAt_66 rfl ?_
      obtain ⟨q6, hq6, h⟩ := bdp h
      refine mG.callV0 (as := [.int (a1), .int 1]) (st := []) (S2 := q6) (r := none) dX8_knockAt_67 mvX6_befriend wk29_7 rfl (lk7_town (lk8_now ht)) rfl (by decide) (Nat.le_of_ble_eq_true rfl) (c_X6_befriend (lk7_town (lk8_now ht)) hq6) ?_
      refine mG.iconst (v := 0) dX8_knockAt_70 rfl ?_
      obtain rfl := Option.some.inj h
      exact mG.iret dX8_knockAt_71 rfl ⟨rfl, rfl, rfl⟩
  · replace h := itp c9 h
    refine mG.aload_n 1 dX8_knockAt_28 rfl ?_
    refine mG.iload_n 3 dX8_knockAt_29 rfl ?_
    refine mG.iconst (v := (-1)) dX8_knockAt_30 rfl ?_
    obtain ⟨q8, hq8, h⟩ := bdp h
    refine mG.callV0 (as := [.int (a1), .int (-1)]) (st := []) (S2 := q8) (r := none) dX8_knockAt_31 mvX6_befriend wk29_7 rfl (lk7_town (lk8_now ht)) rfl (by decide) (Nat.le_of_ble_eq_true rfl) (c_X6_befriend (lk7_town (lk8_now ht)) hq8) ?_
    refine mG.iconst (v := 1) dX8_knockAt_34 rfl ?_
    obtain rfl := Option.some.inj h
    exact mG.iret dX8_knockAt_35 rfl ⟨rfl, rfl, rfl⟩
theorem dX8_knock_0 : decode cX8_knock 0 = .ok (.aload_n 0, 1) := by decide +kernel
theorem dX8_knock_1 : decode cX8_knock 1 = .ok (.getfield 41, 3) := by decide +kernel
theorem dX8_knock_4 : decode cX8_knock 4 = .ok (.getfield 88, 3) := by decide +kernel
theorem dX8_knock_7 : decode cX8_knock 7 = .ok (.iload_n 1, 1) := by decide +kernel
theorem dX8_knock_8 : decode cX8_knock 8 = .ok (.invokevirtual 136, 3) := by decide +kernel
theorem dX8_knock_11 : decode cX8_knock 11 = .ok (.ifCond .ne 5, 3) := by decide +kernel
theorem dX8_knock_14 : decode cX8_knock 14 = .ok (.iconst (-1), 1) := by decide +kernel
theorem dX8_knock_15 : decode cX8_knock 15 = .ok (.ireturn, 1) := by decide +kernel
theorem dX8_knock_16 : decode cX8_knock 16 = .ok (.aload_n 0, 1) := by decide +kernel
theorem dX8_knock_17 : decode cX8_knock 17 = .ok (.getfield 41, 3) := by decide +kernel
theorem dX8_knock_20 : decode cX8_knock 20 = .ok (.invokevirtual 139, 3) := by decide +kernel
theorem dX8_knock_23 : decode cX8_knock 23 = .ok (.aload_n 0, 1) := by decide +kernel
theorem dX8_knock_24 : decode cX8_knock 24 = .ok (.iload_n 1, 1) := by decide +kernel
theorem dX8_knock_25 : decode cX8_knock 25 = .ok (.invokevirtual 142, 3) := by decide +kernel
theorem dX8_knock_28 : decode cX8_knock 28 = .ok (.ireturn, 1) := by decide +kernel
def f_X8_knock (F : Nat) (S : mS) (t : Nat) (a1 : Int32) : Option (mS × Int32) := if (f_X6_lives S (t + 40 + 1) a1) = true then (bd (f_X7_keepStep F S (t + 40)) fun q1 => bd (f_X8_knockAt F q1 t a1) fun q2 => some (q2.1, q2.2)) else (some (S, (-1 : Int32)))
set_option maxHeartbeats 4000000 in
set_option maxRecDepth 100000 in
theorem c_X8_knock {F : Nat} {S : mS} {t : Nat} {a1 : Int32} {R : mS × Int32} (ht : kd0 t = 8) (h : f_X8_knock F S t a1 = some R) : mCt μX8_knock 6 0 0 E0 S [.ref (t), .int (a1)] (mQe R.1 (some (.int R.2))) := by
  unfold f_X8_knock at h
  refine mCt.of (by decide) (Nat.le_of_ble_eq_true rfl) ?_
  intro x
  refine mG.aload_n 0 dX8_knock_0 rfl ?_
  refine mG.get (v := .ref (t + 40)) dX8_knock_1 mfX8_41 ht (lr8_now ht) ?_
  refine mG.get (v := .ref (t + 40 + 1)) dX8_knock_4 mfX8_88 (lk8_now ht) (lr7_town (lk8_now ht)) ?_
  refine mG.iload_n 1 dX8_knock_7 rfl ?_
  refine mG.callV0 (as := [.int (a1)]) (st := []) (S2 := S) (r := some (.int (bI (f_X6_lives S (t + 40 + 1) a1)))) dX8_knock_8 mvX6_lives wk27_7 rfl (lk7_town (lk8_now ht)) rfl (by decide) (Nat.le_of_ble_eq_true rfl) (c_X6_lives (lk7_town (lk8_now ht)) rfl) ?_
  refine mG.ifz_ne (b := f_X6_lives S (t + 40 + 1) a1) 16 dX8_knock_11 (by decide) (fun c3 => ?_) (fun c3 => ?_)
  · replace h := itp c3 h
    refine mG.aload_n 0 dX8_knock_16 rfl ?_
    refine mG.get (v := .ref (t + 40)) dX8_knock_17 mfX8_41 ht (lr8_now ht) ?_
    obtain ⟨q1, hq1, h⟩ := bdp h
    refine mG.callV0 (as := []) (st := []) (S2 := q1) (r := none) dX8_knock_20 mvX7_keepStep wk27_20 rfl (lk8_now ht) rfl (by decide) (Nat.le_of_ble_eq_true rfl) (c_X7_keepStep (lk8_now ht) hq1) ?_
    refine mG.aload_n 0 dX8_knock_23 rfl ?_
    refine mG.iload_n 1 dX8_knock_24 rfl ?_
    obtain ⟨q2, hq2, h⟩ := bdp h
    refine mG.callV0 (as := [.int (a1)]) (st := []) (S2 := q2.1) (r := some (.int (q2.2))) dX8_knock_25 mvX8_knockAt wk28_14 rfl ht rfl (by decide) (Nat.le_of_ble_eq_true rfl) (c_X8_knockAt ht hq2) ?_
    obtain rfl := Option.some.inj h
    exact mG.iret dX8_knock_28 rfl ⟨rfl, rfl, rfl⟩
  · replace h := itn c3 h
    refine mG.iconst (v := (-1)) dX8_knock_14 rfl ?_
    obtain rfl := Option.some.inj h
    exact mG.iret dX8_knock_15 rfl ⟨rfl, rfl, rfl⟩
theorem dX8_marry_0 : decode cX8_marry 0 = .ok (.aload_n 0, 1) := by decide +kernel
theorem dX8_marry_1 : decode cX8_marry 1 = .ok (.getfield 41, 3) := by decide +kernel
theorem dX8_marry_4 : decode cX8_marry 4 = .ok (.getfield 88, 3) := by decide +kernel
theorem dX8_marry_7 : decode cX8_marry 7 = .ok (.iload_n 1, 1) := by decide +kernel
theorem dX8_marry_8 : decode cX8_marry 8 = .ok (.iload_n 2, 1) := by decide +kernel
theorem dX8_marry_9 : decode cX8_marry 9 = .ok (.invokevirtual 145, 3) := by decide +kernel
theorem dX8_marry_12 : decode cX8_marry 12 = .ok (.istore_n 3, 1) := by decide +kernel
theorem dX8_marry_13 : decode cX8_marry 13 = .ok (.iload_n 3, 1) := by decide +kernel
theorem dX8_marry_14 : decode cX8_marry 14 = .ok (.iconst (-1), 1) := by decide +kernel
theorem dX8_marry_15 : decode cX8_marry 15 = .ok (.if_icmp .ne 5, 3) := by decide +kernel
theorem dX8_marry_18 : decode cX8_marry 18 = .ok (.iconst (-1), 1) := by decide +kernel
theorem dX8_marry_19 : decode cX8_marry 19 = .ok (.ireturn, 1) := by decide +kernel
theorem dX8_marry_20 : decode cX8_marry 20 = .ok (.aload_n 0, 1) := by decide +kernel
theorem dX8_marry_21 : decode cX8_marry 21 = .ok (.getfield 41, 3) := by decide +kernel
theorem dX8_marry_24 : decode cX8_marry 24 = .ok (.invokevirtual 139, 3) := by decide +kernel
theorem dX8_marry_27 : decode cX8_marry 27 = .ok (.aload_n 0, 1) := by decide +kernel
theorem dX8_marry_28 : decode cX8_marry 28 = .ok (.getfield 41, 3) := by decide +kernel
theorem dX8_marry_31 : decode cX8_marry 31 = .ok (.getfield 88, 3) := by decide +kernel
theorem dX8_marry_34 : decode cX8_marry 34 = .ok (.iload_n 1, 1) := by decide +kernel
theorem dX8_marry_35 : decode cX8_marry 35 = .ok (.iload_n 2, 1) := by decide +kernel
theorem dX8_marry_36 : decode cX8_marry 36 = .ok (.iload_n 3, 1) := by decide +kernel
theorem dX8_marry_37 : decode cX8_marry 37 = .ok (.invokevirtual 149, 3) := by decide +kernel
theorem dX8_marry_40 : decode cX8_marry 40 = .ok (.iload_n 3, 1) := by decide +kernel
theorem dX8_marry_41 : decode cX8_marry 41 = .ok (.ireturn, 1) := by decide +kernel
def f_X8_marry (F : Nat) (S : mS) (t : Nat) (a1 : Int32) (a2 : Int32) : Option (mS × Int32) := bd (f_X6_marriedDates F S (t + 40 + 1) a1 a2) fun q1 => if q1 = (-1 : Int32) then (some (S, (-1 : Int32))) else (bd (f_X7_keepStep F S (t + 40)) fun q2 => bd (f_X6_join F q2 (t + 40 + 1) a1 a2 q1) fun q3 => some (q3, q1))
set_option maxHeartbeats 4000000 in
set_option maxRecDepth 100000 in
theorem c_X8_marry {F : Nat} {S : mS} {t : Nat} {a1 : Int32} {a2 : Int32} {R : mS × Int32} (ht : kd0 t = 8) (h : f_X8_marry F S t a1 a2 = some R) : mCt μX8_marry 4 0 0 E0 S [.ref (t), .int (a1), .int (a2)] (mQe R.1 (some (.int R.2))) := by
  unfold f_X8_marry at h
  refine mCt.of (by decide) (Nat.le_of_ble_eq_true rfl) ?_
  intro x
  refine mG.aload_n 0 dX8_marry_0 rfl ?_
  refine mG.get (v := .ref (t + 40)) dX8_marry_1 mfX8_41 ht (lr8_now ht) ?_
  refine mG.get (v := .ref (t + 40 + 1)) dX8_marry_4 mfX8_88 (lk8_now ht) (lr7_town (lk8_now ht)) ?_
  refine mG.iload_n 1 dX8_marry_7 rfl ?_
  refine mG.iload_n 2 dX8_marry_8 rfl ?_
  obtain ⟨q1, hq1, h⟩ := bdp h
  refine mG.callV0 (as := [.int (a1), .int (a2)]) (st := []) (S2 := S) (r := some (.int (q1))) dX8_marry_9 mvX6_marriedDates wk36_8 rfl (lk7_town (lk8_now ht)) rfl (by decide) (Nat.le_of_ble_eq_true rfl) (c_X6_marriedDates (lk7_town (lk8_now ht)) hq1) ?_
  refine mG.istore_n (lv2 := [(3, .int (q1)), (0, .ref (t)), (1, .int (a1)), (2, .int (a2))]) dX8_marry_12 rfl (by decide) rfl ?_
  refine mG.iload_n 0 dX8_marry_13 rfl ?_
  refine mG.iconst (v := (-1)) dX8_marry_14 rfl ?_
  refine mG.icmp_ne 20 dX8_marry_15 (by decide) (fun c4 => ?_) (fun c4 => ?_)
  · replace h := itn c4 h
    refine mG.aload_n 1 dX8_marry_20 rfl ?_
    refine mG.get (v := .ref (t + 40)) dX8_marry_21 mfX8_41 ht (lr8_now ht) ?_
    obtain ⟨q2, hq2, h⟩ := bdp h
    refine mG.callV0 (as := []) (st := []) (S2 := q2) (r := none) dX8_marry_24 mvX7_keepStep wk27_20 rfl (lk8_now ht) rfl (by decide) (Nat.le_of_ble_eq_true rfl) (c_X7_keepStep (lk8_now ht) hq2) ?_
    refine mG.aload_n 1 dX8_marry_27 rfl ?_
    refine mG.get (v := .ref (t + 40)) dX8_marry_28 mfX8_41 ht (lr8_now ht) ?_
    refine mG.get (v := .ref (t + 40 + 1)) dX8_marry_31 mfX8_88 (lk8_now ht) (lr7_town (lk8_now ht)) ?_
    refine mG.iload_n 2 dX8_marry_34 rfl ?_
    refine mG.iload_n 3 dX8_marry_35 rfl ?_
    refine mG.iload_n 0 dX8_marry_36 rfl ?_
    obtain ⟨q3, hq3, h⟩ := bdp h
    refine mG.callV0 (as := [.int (a1), .int (a2), .int (q1)]) (st := []) (S2 := q3) (r := none) dX8_marry_37 mvX6_join wk36_14 rfl (lk7_town (lk8_now ht)) rfl (by decide) (Nat.le_of_ble_eq_true rfl) (c_X6_join (lk7_town (lk8_now ht)) hq3) ?_
    refine mG.iload_n 0 dX8_marry_40 rfl ?_
    obtain rfl := Option.some.inj h
    exact mG.iret dX8_marry_41 rfl ⟨rfl, rfl, rfl⟩
  · replace h := itp c4 h
    refine mG.iconst (v := (-1)) dX8_marry_18 rfl ?_
    obtain rfl := Option.some.inj h
    exact mG.iret dX8_marry_19 rfl ⟨rfl, rfl, rfl⟩
theorem dX8_hat_0 : decode cX8_hat 0 = .ok (.aload_n 0, 1) := by decide +kernel
theorem dX8_hat_1 : decode cX8_hat 1 = .ok (.getfield 41, 3) := by decide +kernel
theorem dX8_hat_4 : decode cX8_hat 4 = .ok (.getfield 88, 3) := by decide +kernel
theorem dX8_hat_7 : decode cX8_hat 7 = .ok (.iload_n 1, 1) := by decide +kernel
theorem dX8_hat_8 : decode cX8_hat 8 = .ok (.invokevirtual 153, 3) := by decide +kernel
theorem dX8_hat_11 : decode cX8_hat 11 = .ok (.ifCond .ne 5, 3) := by decide +kernel
theorem dX8_hat_14 : decode cX8_hat 14 = .ok (.iconst (-1), 1) := by decide +kernel
theorem dX8_hat_15 : decode cX8_hat 15 = .ok (.ireturn, 1) := by decide +kernel
theorem dX8_hat_16 : decode cX8_hat 16 = .ok (.aload_n 0, 1) := by decide +kernel
theorem dX8_hat_17 : decode cX8_hat 17 = .ok (.getfield 41, 3) := by decide +kernel
theorem dX8_hat_20 : decode cX8_hat 20 = .ok (.invokevirtual 139, 3) := by decide +kernel
theorem dX8_hat_23 : decode cX8_hat 23 = .ok (.aload_n 0, 1) := by decide +kernel
theorem dX8_hat_24 : decode cX8_hat 24 = .ok (.getfield 41, 3) := by decide +kernel
theorem dX8_hat_27 : decode cX8_hat 27 = .ok (.getfield 88, 3) := by decide +kernel
theorem dX8_hat_30 : decode cX8_hat 30 = .ok (.iload_n 1, 1) := by decide +kernel
theorem dX8_hat_31 : decode cX8_hat 31 = .ok (.invokevirtual 156, 3) := by decide +kernel
theorem dX8_hat_34 : decode cX8_hat 34 = .ok (.ireturn, 1) := by decide +kernel
def f_X8_hat (F : Nat) (S : mS) (t : Nat) (a1 : Int32) : Option (mS × Int32) := bd (f_X6_canDraw F S (t + 40 + 1) a1) fun q1 => if q1 = true then (bd (f_X7_keepStep F S (t + 40)) fun q2 => bd (f_X6_drawDate F q2 (t + 40 + 1) a1) fun q3 => some (q3.1, q3.2)) else (some (S, (-1 : Int32)))
set_option maxHeartbeats 4000000 in
set_option maxRecDepth 100000 in
theorem c_X8_hat {F : Nat} {S : mS} {t : Nat} {a1 : Int32} {R : mS × Int32} (ht : kd0 t = 8) (h : f_X8_hat F S t a1 = some R) : mCt μX8_hat 5 0 0 E0 S [.ref (t), .int (a1)] (mQe R.1 (some (.int R.2))) := by
  unfold f_X8_hat at h
  refine mCt.of (by decide) (Nat.le_of_ble_eq_true rfl) ?_
  intro x
  refine mG.aload_n 0 dX8_hat_0 rfl ?_
  refine mG.get (v := .ref (t + 40)) dX8_hat_1 mfX8_41 ht (lr8_now ht) ?_
  refine mG.get (v := .ref (t + 40 + 1)) dX8_hat_4 mfX8_88 (lk8_now ht) (lr7_town (lk8_now ht)) ?_
  refine mG.iload_n 1 dX8_hat_7 rfl ?_
  obtain ⟨q1, hq1, h⟩ := bdp h
  refine mG.callV0 (as := [.int (a1)]) (st := []) (S2 := S) (r := some (.int (bI (q1)))) dX8_hat_8 mvX6_canDraw wk37_2 rfl (lk7_town (lk8_now ht)) rfl (by decide) (Nat.le_of_ble_eq_true rfl) (c_X6_canDraw (lk7_town (lk8_now ht)) hq1) ?_
  refine mG.ifz_ne (b := q1) 16 dX8_hat_11 (by decide) (fun c4 => ?_) (fun c4 => ?_)
  · replace h := itp c4 h
    refine mG.aload_n 0 dX8_hat_16 rfl ?_
    refine mG.get (v := .ref (t + 40)) dX8_hat_17 mfX8_41 ht (lr8_now ht) ?_
    obtain ⟨q2, hq2, h⟩ := bdp h
    refine mG.callV0 (as := []) (st := []) (S2 := q2) (r := none) dX8_hat_20 mvX7_keepStep wk27_20 rfl (lk8_now ht) rfl (by decide) (Nat.le_of_ble_eq_true rfl) (c_X7_keepStep (lk8_now ht) hq2) ?_
    refine mG.aload_n 0 dX8_hat_23 rfl ?_
    refine mG.get (v := .ref (t + 40)) dX8_hat_24 mfX8_41 ht (lr8_now ht) ?_
    refine mG.get (v := .ref (t + 40 + 1)) dX8_hat_27 mfX8_88 (lk8_now ht) (lr7_town (lk8_now ht)) ?_
    refine mG.iload_n 1 dX8_hat_30 rfl ?_
    obtain ⟨q3, hq3, h⟩ := bdp h
    refine mG.callV0 (as := [.int (a1)]) (st := []) (S2 := q3.1) (r := some (.int (q3.2))) dX8_hat_31 mvX6_drawDate wk37_6 rfl (lk7_town (lk8_now ht)) rfl (by decide) (Nat.le_of_ble_eq_true rfl) (c_X6_drawDate (lk7_town (lk8_now ht)) hq3) ?_
    obtain rfl := Option.some.inj h
    exact mG.iret dX8_hat_34 rfl ⟨rfl, rfl, rfl⟩
  · replace h := itn c4 h
    refine mG.iconst (v := (-1)) dX8_hat_14 rfl ?_
    obtain rfl := Option.some.inj h
    exact mG.iret dX8_hat_15 rfl ⟨rfl, rfl, rfl⟩
theorem dX8_forget_0 : decode cX8_forget 0 = .ok (.aload_n 0, 1) := by decide +kernel
theorem dX8_forget_1 : decode cX8_forget 1 = .ok (.getfield 41, 3) := by decide +kernel
theorem dX8_forget_4 : decode cX8_forget 4 = .ok (.getfield 88, 3) := by decide +kernel
theorem dX8_forget_7 : decode cX8_forget 7 = .ok (.iload_n 1, 1) := by decide +kernel
theorem dX8_forget_8 : decode cX8_forget 8 = .ok (.iload_n 2, 1) := by decide +kernel
theorem dX8_forget_9 : decode cX8_forget 9 = .ok (.invokevirtual 159, 3) := by decide +kernel
theorem dX8_forget_12 : decode cX8_forget 12 = .ok (.ifCond .ne 5, 3) := by decide +kernel
theorem dX8_forget_15 : decode cX8_forget 15 = .ok (.iconst 0, 1) := by decide +kernel
theorem dX8_forget_16 : decode cX8_forget 16 = .ok (.ireturn, 1) := by decide +kernel
theorem dX8_forget_17 : decode cX8_forget 17 = .ok (.aload_n 0, 1) := by decide +kernel
theorem dX8_forget_18 : decode cX8_forget 18 = .ok (.getfield 41, 3) := by decide +kernel
theorem dX8_forget_21 : decode cX8_forget 21 = .ok (.invokevirtual 139, 3) := by decide +kernel
theorem dX8_forget_24 : decode cX8_forget 24 = .ok (.aload_n 0, 1) := by decide +kernel
theorem dX8_forget_25 : decode cX8_forget 25 = .ok (.getfield 41, 3) := by decide +kernel
theorem dX8_forget_28 : decode cX8_forget 28 = .ok (.getfield 88, 3) := by decide +kernel
theorem dX8_forget_31 : decode cX8_forget 31 = .ok (.iload_n 1, 1) := by decide +kernel
theorem dX8_forget_32 : decode cX8_forget 32 = .ok (.iload_n 2, 1) := by decide +kernel
theorem dX8_forget_33 : decode cX8_forget 33 = .ok (.invokevirtual 162, 3) := by decide +kernel
theorem dX8_forget_36 : decode cX8_forget 36 = .ok (.iconst 1, 1) := by decide +kernel
theorem dX8_forget_37 : decode cX8_forget 37 = .ok (.ireturn, 1) := by decide +kernel
def f_X8_forget (F : Nat) (S : mS) (t : Nat) (a1 : Int32) (a2 : Int32) : Option (mS × Bool) := bd (f_X6_canForget F S (t + 40 + 1) a1 a2) fun q1 => if q1 = true then (bd (f_X7_keepStep F S (t + 40)) fun q2 => bd (f_X6_dropDate F q2 (t + 40 + 1) a1 a2) fun q3 => some (q3, true)) else (some (S, false))
set_option maxHeartbeats 4000000 in
set_option maxRecDepth 100000 in
theorem c_X8_forget {F : Nat} {S : mS} {t : Nat} {a1 : Int32} {a2 : Int32} {R : mS × Bool} (ht : kd0 t = 8) (h : f_X8_forget F S t a1 a2 = some R) : mCt μX8_forget 5 0 0 E0 S [.ref (t), .int (a1), .int (a2)] (mQe R.1 (some (.int (bI R.2)))) := by
  unfold f_X8_forget at h
  refine mCt.of (by decide) (Nat.le_of_ble_eq_true rfl) ?_
  intro x
  refine mG.aload_n 0 dX8_forget_0 rfl ?_
  refine mG.get (v := .ref (t + 40)) dX8_forget_1 mfX8_41 ht (lr8_now ht) ?_
  refine mG.get (v := .ref (t + 40 + 1)) dX8_forget_4 mfX8_88 (lk8_now ht) (lr7_town (lk8_now ht)) ?_
  refine mG.iload_n 1 dX8_forget_7 rfl ?_
  refine mG.iload_n 2 dX8_forget_8 rfl ?_
  obtain ⟨q1, hq1, h⟩ := bdp h
  refine mG.callV0 (as := [.int (a1), .int (a2)]) (st := []) (S2 := S) (r := some (.int (bI (q1)))) dX8_forget_9 mvX6_canForget wk38_15 rfl (lk7_town (lk8_now ht)) rfl (by decide) (Nat.le_of_ble_eq_true rfl) (c_X6_canForget (lk7_town (lk8_now ht)) hq1) ?_
  refine mG.ifz_ne (b := q1) 17 dX8_forget_12 (by decide) (fun c4 => ?_) (fun c4 => ?_)
  · replace h := itp c4 h
    refine mG.aload_n 0 dX8_forget_17 rfl ?_
    refine mG.get (v := .ref (t + 40)) dX8_forget_18 mfX8_41 ht (lr8_now ht) ?_
    obtain ⟨q2, hq2, h⟩ := bdp h
    refine mG.callV0 (as := []) (st := []) (S2 := q2) (r := none) dX8_forget_21 mvX7_keepStep wk27_20 rfl (lk8_now ht) rfl (by decide) (Nat.le_of_ble_eq_true rfl) (c_X7_keepStep (lk8_now ht) hq2) ?_
    refine mG.aload_n 0 dX8_forget_24 rfl ?_
    refine mG.get (v := .ref (t + 40)) dX8_forget_25 mfX8_41 ht (lr8_now ht) ?_
    refine mG.get (v := .ref (t + 40 + 1)) dX8_forget_28 mfX8_88 (lk8_now ht) (lr7_town (lk8_now ht)) ?_
    refine mG.iload_n 1 dX8_forget_31 rfl ?_
    refine mG.iload_n 2 dX8_forget_32 rfl ?_
    obtain ⟨q3, hq3, h⟩ := bdp h
    refine mG.callV0 (as := [.int (a1), .int (a2)]) (st := []) (S2 := q3) (r := none) dX8_forget_33 mvX6_dropDate wk38_19 rfl (lk7_town (lk8_now ht)) rfl (by decide) (Nat.le_of_ble_eq_true rfl) (c_X6_dropDate (lk7_town (lk8_now ht)) hq3) ?_
    refine mG.iconst (v := 1) dX8_forget_36 rfl ?_
    obtain rfl := Option.some.inj h
    exact mG.zret (b := true) dX8_forget_37 rfl rfl ⟨rfl, rfl, rfl⟩
  · replace h := itn c4 h
    refine mG.iconst (v := 0) dX8_forget_15 rfl ?_
    obtain rfl := Option.some.inj h
    exact mG.zret (b := false) dX8_forget_16 rfl rfl ⟨rfl, rfl, rfl⟩
theorem dX8_passDays_0 : decode cX8_passDays 0 = .ok (.iconst 0, 1) := by decide +kernel
theorem dX8_passDays_1 : decode cX8_passDays 1 = .ok (.istore_n 2, 1) := by decide +kernel
theorem dX8_passDays_2 : decode cX8_passDays 2 = .ok (.iload_n 2, 1) := by decide +kernel
theorem dX8_passDays_3 : decode cX8_passDays 3 = .ok (.iload_n 1, 1) := by decide +kernel
theorem dX8_passDays_4 : decode cX8_passDays 4 = .ok (.if_icmp .ge 50, 3) := by decide +kernel
theorem dX8_passDays_7 : decode cX8_passDays 7 = .ok (.aload_n 0, 1) := by decide +kernel
theorem dX8_passDays_8 : decode cX8_passDays 8 = .ok (.getfield 41, 3) := by decide +kernel
theorem dX8_passDays_11 : decode cX8_passDays 11 = .ok (.getfield 88, 3) := by decide +kernel
theorem dX8_passDays_14 : decode cX8_passDays 14 = .ok (.getfield 166, 3) := by decide +kernel
theorem dX8_passDays_17 : decode cX8_passDays 17 = .ok (.sipush 9999, 3) := by decide +kernel
theorem dX8_passDays_20 : decode cX8_passDays 20 = .ok (.if_icmp .ge 34, 3) := by decide +kernel
theorem dX8_passDays_23 : decode cX8_passDays 23 = .ok (.aload_n 0, 1) := by decide +kernel
theorem dX8_passDays_24 : decode cX8_passDays 24 = .ok (.getfield 41, 3) := by decide +kernel
theorem dX8_passDays_27 : decode cX8_passDays 27 = .ok (.invokevirtual 139, 3) := by decide +kernel
theorem dX8_passDays_30 : decode cX8_passDays 30 = .ok (.aload_n 0, 1) := by decide +kernel
theorem dX8_passDays_31 : decode cX8_passDays 31 = .ok (.getfield 34, 3) := by decide +kernel
theorem dX8_passDays_34 : decode cX8_passDays 34 = .ok (.aload_n 0, 1) := by decide +kernel
theorem dX8_passDays_35 : decode cX8_passDays 35 = .ok (.invokevirtual 236, 3) := by decide +kernel
theorem dX8_passDays_38 : decode cX8_passDays 38 = .ok (.aload_n 0, 1) := by decide +kernel
theorem dX8_passDays_39 : decode cX8_passDays 39 = .ok (.getfield 41, 3) := by decide +kernel
theorem dX8_passDays_42 : decode cX8_passDays 42 = .ok (.getfield 88, 3) := by decide +kernel
theorem dX8_passDays_45 : decode cX8_passDays 45 = .ok (.invokevirtual 374, 3) := by decide +kernel
theorem dX8_passDays_48 : decode cX8_passDays 48 = .ok (.iinc 2 1, 3) := by decide +kernel
theorem dX8_passDays_51 : decode cX8_passDays 51 = .ok (.goto (-49), 3) := by decide +kernel
theorem dX8_passDays_54 : decode cX8_passDays 54 = .ok (.iload_n 2, 1) := by decide +kernel
theorem dX8_passDays_55 : decode cX8_passDays 55 = .ok (.ireturn, 1) := by decide +kernel
def lX8_passDays_2 (F : Nat)  (t : Nat) (a1 : Int32) : Nat → mS → Int32 → Option (mS × Int32)
  | 0, _, _ => none
  | n + 1, S, v2 => if a1 ≤ v2 then (some (S, v2)) else (if (9999 : Int32) ≤ (S.1 (t + 40 + 1) 7) then (some (S, v2)) else (bd (f_X7_keepStep F S (t + 40)) fun q1 => bd (f_X8_rule F q1 t) fun q2 => bd (f_X3_passDay F q1 (t + 37) q2 (t + 40 + 1)) fun q3 => lX8_passDays_2 F  t a1 n q3 (v2 + 1)))
set_option maxHeartbeats 4000000 in
set_option maxRecDepth 100000 in
theorem gX8_passDays_2 {x : mX} {F : Nat} {t : Nat} {a1 : Int32}   {R : mS × Int32} (ht : kd0 t = 8)  : ∀ (n : Nat) (S : mS) (v2 : Int32), lX8_passDays_2 F  t a1 n S v2 = some R → mG x μX8_passDays 6 0 0 (mQe R.1 (some (.int R.2))) 0 0 E0 S 2 [(0, .ref (t)), (1, .int (a1)), (2, .int (v2))] [] := by
  intro n
  induction n with
  | zero =>
    intro S v2 h
    cases h
  | succ n ih =>
    intro S v2 h
    unfold lX8_passDays_2 at h
    refine mG.iload_n 2 dX8_passDays_2 rfl ?_
    refine mG.iload_n 1 dX8_passDays_3 rfl ?_
    refine mG.icmp_ge 54 dX8_passDays_4 (by decide) (fun c5 => ?_) (fun c5 => ?_)
    · replace h := itp c5 h
      refine mG.iload_n 2 dX8_passDays_54 rfl ?_
      obtain rfl := Option.some.inj h
      exact mG.iret dX8_passDays_55 rfl ⟨rfl, rfl, rfl⟩
    · replace h := itn c5 h
      refine mG.aload_n 0 dX8_passDays_7 rfl ?_
      refine mG.get (v := .ref (t + 40)) dX8_passDays_8 mfX8_41 ht (lr8_now ht) ?_
      refine mG.get (v := .ref (t + 40 + 1)) dX8_passDays_11 mfX8_88 (lk8_now ht) (lr7_town (lk8_now ht)) ?_
      refine mG.get (v := .int (S.1 (t + 40 + 1) 7)) dX8_passDays_14 mfX8_166 (lk7_town (lk8_now ht)) rfl ?_
      refine mG.sipush (v := 9999) dX8_passDays_17 (by decide) ?_
      refine mG.icmp_ge 54 dX8_passDays_20 (by decide) (fun c4 => ?_) (fun c4 => ?_)
      · replace h := itp c4 h
        refine mG.iload_n 2 dX8_passDays_54 rfl ?_
        obtain rfl := Option.some.inj h
        exact mG.iret dX8_passDays_55 rfl ⟨rfl, rfl, rfl⟩
      · replace h := itn c4 h
        refine mG.aload_n 0 dX8_passDays_23 rfl ?_
        refine mG.get (v := .ref (t + 40)) dX8_passDays_24 mfX8_41 ht (lr8_now ht) ?_
        obtain ⟨q1, hq1, h⟩ := bdp h
        refine mG.callV0 (as := []) (st := []) (S2 := q1) (r := none) dX8_passDays_27 mvX7_keepStep wk27_20 rfl (lk8_now ht) rfl (by decide) (Nat.le_of_ble_eq_true rfl) (c_X7_keepStep (lk8_now ht) hq1) ?_
        refine mG.aload_n 0 dX8_passDays_30 rfl ?_
        refine mG.get (v := .ref (t + 37)) dX8_passDays_31 mfX8_34 ht (lr8_laws ht) ?_
        refine mG.aload_n 0 dX8_passDays_34 rfl ?_
        obtain ⟨q2, hq2, h⟩ := bdp h
        refine mG.callV0 (as := []) (st := [.ref (t + 37)]) (S2 := q1) (r := some (.ref (q2))) dX8_passDays_35 mvX8_rule wk30_12 rfl ht rfl (by decide) (Nat.le_of_ble_eq_true rfl) (c_X8_rule ht hq2) ?_
        refine mG.aload_n 0 dX8_passDays_38 rfl ?_
        refine mG.get (v := .ref (t + 40)) dX8_passDays_39 mfX8_41 ht (lr8_now ht) ?_
        refine mG.get (v := .ref (t + 40 + 1)) dX8_passDays_42 mfX8_88 (lk8_now ht) (lr7_town (lk8_now ht)) ?_
        obtain ⟨q3, hq3, h⟩ := bdp h
        refine mG.callV0 (as := [.ref (q2), .ref (t + 40 + 1)]) (st := []) (S2 := q3) (r := none) dX8_passDays_45 mvX3_passDay wk39_20 rfl (lk8_laws ht) rfl (by decide) (Nat.le_of_ble_eq_true rfl) (c_X3_passDay (lk8_laws ht) (rk_X8_rule ht hq2) (lk7_town (lk8_now ht)) hq3) ?_
        refine mG.iinc 2 (u := v2 + 1) (lv2 := [(2, .int (v2 + 1)), (0, .ref (t)), (1, .int (a1))]) dX8_passDays_48 rfl rfl (by decide) rfl ?_
        refine mG.goto 2 dX8_passDays_51 (by decide) ?_
        refine mG.sub (lv2 := [(0, .ref (t)), (1, .int (a1)), (2, .int (v2 + 1))]) [1, 2, 0] rfl ?_
        exact ih q3 (v2 + 1)  h
def f_X8_passDays (F : Nat) (S : mS) (t : Nat) (a1 : Int32) : Option (mS × Int32) := lX8_passDays_2 F  t a1 F S (0 : Int32)
set_option maxHeartbeats 4000000 in
set_option maxRecDepth 100000 in
theorem c_X8_passDays {F : Nat} {S : mS} {t : Nat} {a1 : Int32} {R : mS × Int32} (ht : kd0 t = 8) (h : f_X8_passDays F S t a1 = some R) : mCt μX8_passDays 6 0 0 E0 S [.ref (t), .int (a1)] (mQe R.1 (some (.int R.2))) := by
  unfold f_X8_passDays at h
  refine mCt.of (by decide) (Nat.le_of_ble_eq_true rfl) ?_
  intro x
  refine mG.iconst (v := 0) dX8_passDays_0 rfl ?_
  refine mG.istore_n (lv2 := [(2, .int 0), (0, .ref (t)), (1, .int (a1))]) dX8_passDays_1 rfl (by decide) rfl ?_
  refine mG.sub (lv2 := [(0, .ref (t)), (1, .int (a1)), (2, .int 0)]) [1, 2, 0] rfl ?_
  exact gX8_passDays_2 ht  F S (0 : Int32)  h
theorem dX8_day_0 : decode cX8_day 0 = .ok (.iload_n 1, 1) := by decide +kernel
theorem dX8_day_1 : decode cX8_day 1 = .ok (.iconst 1, 1) := by decide +kernel
theorem dX8_day_2 : decode cX8_day 2 = .ok (.bipush 60, 2) := by decide +kernel
theorem dX8_day_4 : decode cX8_day 4 = .ok (.invokestatic 84, 3) := by decide +kernel
theorem dX8_day_7 : decode cX8_day 7 = .ok (.ifCond .eq 21, 3) := by decide +kernel
theorem dX8_day_10 : decode cX8_day 10 = .ok (.aload_n 0, 1) := by decide +kernel
theorem dX8_day_11 : decode cX8_day 11 = .ok (.getfield 41, 3) := by decide +kernel
theorem dX8_day_14 : decode cX8_day 14 = .ok (.getfield 88, 3) := by decide +kernel
theorem dX8_day_17 : decode cX8_day 17 = .ok (.getfield 166, 3) := by decide +kernel
theorem dX8_day_20 : decode cX8_day 20 = .ok (.iload_n 1, 1) := by decide +kernel
theorem dX8_day_21 : decode cX8_day 21 = .ok (.iadd, 1) := by decide +kernel
theorem dX8_day_22 : decode cX8_day 22 = .ok (.sipush 9999, 3) := by decide +kernel
theorem dX8_day_25 : decode cX8_day 25 = .ok (.if_icmp .le 5, 3) := by decide +kernel
theorem dX8_day_28 : decode cX8_day 28 = .ok (.iconst (-1), 1) := by decide +kernel
theorem dX8_day_29 : decode cX8_day 29 = .ok (.ireturn, 1) := by decide +kernel
theorem dX8_day_30 : decode cX8_day 30 = .ok (.aload_n 0, 1) := by decide +kernel
theorem dX8_day_31 : decode cX8_day 31 = .ok (.iload_n 1, 1) := by decide +kernel
theorem dX8_day_32 : decode cX8_day 32 = .ok (.invokevirtual 169, 3) := by decide +kernel
theorem dX8_day_35 : decode cX8_day 35 = .ok (.pop, 1) := by decide +kernel
theorem dX8_day_36 : decode cX8_day 36 = .ok (.aload_n 0, 1) := by decide +kernel
theorem dX8_day_37 : decode cX8_day 37 = .ok (.getfield 41, 3) := by decide +kernel
theorem dX8_day_40 : decode cX8_day 40 = .ok (.getfield 88, 3) := by decide +kernel
theorem dX8_day_43 : decode cX8_day 43 = .ok (.invokevirtual 172, 3) := by decide +kernel
theorem dX8_day_46 : decode cX8_day 46 = .ok (.ireturn, 1) := by decide +kernel
def f_X8_day (F : Nat) (S : mS) (t : Nat) (a1 : Int32) : Option (mS × Int32) := if (f_X8_isWithin S a1 (1 : Int32) (60 : Int32)) = true then (if ((S.1 (t + 40 + 1) 7) + a1) ≤ (9999 : Int32) then (bd (f_X8_passDays F S t a1) fun q1 => some (q1.1, f_X6_date q1.1 (t + 40 + 1))) else (some (S, (-1 : Int32)))) else (some (S, (-1 : Int32)))
set_option maxHeartbeats 4000000 in
set_option maxRecDepth 100000 in
theorem c_X8_day {F : Nat} {S : mS} {t : Nat} {a1 : Int32} {R : mS × Int32} (ht : kd0 t = 8) (h : f_X8_day F S t a1 = some R) : mCt μX8_day 7 0 0 E0 S [.ref (t), .int (a1)] (mQe R.1 (some (.int R.2))) := by
  unfold f_X8_day at h
  refine mCt.of (by decide) (Nat.le_of_ble_eq_true rfl) ?_
  intro x
  refine mG.iload_n 1 dX8_day_0 rfl ?_
  refine mG.iconst (v := 1) dX8_day_1 rfl ?_
  refine mG.bipush (v := 60) dX8_day_2 (by decide) ?_
  refine mG.callS0 (as := [.int (a1), .int 1, .int 60]) (st := []) (S2 := S) (r := some (.int (bI (f_X8_isWithin S a1 (1 : Int32) (60 : Int32))))) dX8_day_4 mbX8_isWithin wk6_19 wk6_18 rfl rfl (by decide) (Nat.le_of_ble_eq_true rfl) (c_X8_isWithin  rfl) ?_
  refine mG.ifz_eq (b := f_X8_isWithin S a1 (1 : Int32) (60 : Int32)) 28 dX8_day_7 (by decide) (fun c3 => ?_) (fun c3 => ?_)
  · replace h := itn c3 h
    refine mG.iconst (v := (-1)) dX8_day_28 rfl ?_
    obtain rfl := Option.some.inj h
    exact mG.iret dX8_day_29 rfl ⟨rfl, rfl, rfl⟩
  · replace h := itp c3 h
    refine mG.aload_n 0 dX8_day_10 rfl ?_
    refine mG.get (v := .ref (t + 40)) dX8_day_11 mfX8_41 ht (lr8_now ht) ?_
    refine mG.get (v := .ref (t + 40 + 1)) dX8_day_14 mfX8_88 (lk8_now ht) (lr7_town (lk8_now ht)) ?_
    refine mG.get (v := .int (S.1 (t + 40 + 1) 7)) dX8_day_17 mfX8_166 (lk7_town (lk8_now ht)) rfl ?_
    refine mG.iload_n 1 dX8_day_20 rfl ?_
    refine mG.iadd dX8_day_21 ?_
    refine mG.sipush (v := 9999) dX8_day_22 (by decide) ?_
    refine mG.icmp_le 30 dX8_day_25 (by decide) (fun c2 => ?_) (fun c2 => ?_)
    · replace h := itp c2 h
      refine mG.aload_n 0 dX8_day_30 rfl ?_
      refine mG.iload_n 1 dX8_day_31 rfl ?_
      obtain ⟨q1, hq1, h⟩ := bdp h
      refine mG.callV0 (as := [.int (a1)]) (st := []) (S2 := q1.1) (r := some (.int (q1.2))) dX8_day_32 mvX8_passDays wk39_16 rfl ht rfl (by decide) (Nat.le_of_ble_eq_true rfl) (c_X8_passDays ht hq1) ?_
      refine mG.pop dX8_day_35 rfl ?_
      refine mG.aload_n 0 dX8_day_36 rfl ?_
      refine mG.get (v := .ref (t + 40)) dX8_day_37 mfX8_41 ht (lr8_now ht) ?_
      refine mG.get (v := .ref (t + 40 + 1)) dX8_day_40 mfX8_88 (lk8_now ht) (lr7_town (lk8_now ht)) ?_
      refine mG.callV0 (as := []) (st := []) (S2 := q1.1) (r := some (.int (f_X6_date q1.1 (t + 40 + 1)))) dX8_day_43 mvX6_date wk28_19 rfl (lk7_town (lk8_now ht)) rfl (by decide) (Nat.le_of_ble_eq_true rfl) (c_X6_date (lk7_town (lk8_now ht)) rfl) ?_
      obtain rfl := Option.some.inj h
      exact mG.iret dX8_day_46 rfl ⟨rfl, rfl, rfl⟩
    · replace h := itn c2 h
      refine mG.iconst (v := (-1)) dX8_day_28 rfl ?_
      obtain rfl := Option.some.inj h
      exact mG.iret dX8_day_29 rfl ⟨rfl, rfl, rfl⟩
theorem dX8_isHatPassed_0 : decode cX8_isHatPassed 0 = .ok (.aload_n 0, 1) := by decide +kernel
theorem dX8_isHatPassed_1 : decode cX8_isHatPassed 1 = .ok (.getfield 41, 3) := by decide +kernel
theorem dX8_isHatPassed_4 : decode cX8_isHatPassed 4 = .ok (.getfield 88, 3) := by decide +kernel
theorem dX8_isHatPassed_7 : decode cX8_isHatPassed 7 = .ok (.iload_n 1, 1) := by decide +kernel
theorem dX8_isHatPassed_8 : decode cX8_isHatPassed 8 = .ok (.invokevirtual 153, 3) := by decide +kernel
theorem dX8_isHatPassed_11 : decode cX8_isHatPassed 11 = .ok (.ifCond .ne 5, 3) := by decide +kernel
theorem dX8_isHatPassed_14 : decode cX8_isHatPassed 14 = .ok (.iconst 0, 1) := by decide +kernel
theorem dX8_isHatPassed_15 : decode cX8_isHatPassed 15 = .ok (.ireturn, 1) := by decide +kernel
theorem dX8_isHatPassed_16 : decode cX8_isHatPassed 16 = .ok (.aload_n 0, 1) := by decide +kernel
theorem dX8_isHatPassed_17 : decode cX8_isHatPassed 17 = .ok (.iload_n 1, 1) := by decide +kernel
theorem dX8_isHatPassed_18 : decode cX8_isHatPassed 18 = .ok (.invokevirtual 402, 3) := by decide +kernel
theorem dX8_isHatPassed_21 : decode cX8_isHatPassed 21 = .ok (.pop, 1) := by decide +kernel
theorem dX8_isHatPassed_22 : decode cX8_isHatPassed 22 = .ok (.iconst 1, 1) := by decide +kernel
theorem dX8_isHatPassed_23 : decode cX8_isHatPassed 23 = .ok (.ireturn, 1) := by decide +kernel
def f_X8_isHatPassed (F : Nat) (S : mS) (t : Nat) (a1 : Int32) : Option (mS × Bool) := bd (f_X6_canDraw F S (t + 40 + 1) a1) fun q1 => if q1 = true then (bd (f_X8_hat F S t a1) fun q2 => some (q2.1, true)) else (some (S, false))
set_option maxHeartbeats 4000000 in
set_option maxRecDepth 100000 in
theorem c_X8_isHatPassed {F : Nat} {S : mS} {t : Nat} {a1 : Int32} {R : mS × Bool} (ht : kd0 t = 8) (h : f_X8_isHatPassed F S t a1 = some R) : mCt μX8_isHatPassed 6 0 0 E0 S [.ref (t), .int (a1)] (mQe R.1 (some (.int (bI R.2)))) := by
  unfold f_X8_isHatPassed at h
  refine mCt.of (by decide) (Nat.le_of_ble_eq_true rfl) ?_
  intro x
  refine mG.aload_n 0 dX8_isHatPassed_0 rfl ?_
  refine mG.get (v := .ref (t + 40)) dX8_isHatPassed_1 mfX8_41 ht (lr8_now ht) ?_
  refine mG.get (v := .ref (t + 40 + 1)) dX8_isHatPassed_4 mfX8_88 (lk8_now ht) (lr7_town (lk8_now ht)) ?_
  refine mG.iload_n 1 dX8_isHatPassed_7 rfl ?_
  obtain ⟨q1, hq1, h⟩ := bdp h
  refine mG.callV0 (as := [.int (a1)]) (st := []) (S2 := S) (r := some (.int (bI (q1)))) dX8_isHatPassed_8 mvX6_canDraw wk37_2 rfl (lk7_town (lk8_now ht)) rfl (by decide) (Nat.le_of_ble_eq_true rfl) (c_X6_canDraw (lk7_town (lk8_now ht)) hq1) ?_
  refine mG.ifz_ne (b := q1) 16 dX8_isHatPassed_11 (by decide) (fun c3 => ?_) (fun c3 => ?_)
  · replace h := itp c3 h
    refine mG.aload_n 0 dX8_isHatPassed_16 rfl ?_
    refine mG.iload_n 1 dX8_isHatPassed_17 rfl ?_
    obtain ⟨q2, hq2, h⟩ := bdp h
    refine mG.callV0 (as := [.int (a1)]) (st := []) (S2 := q2.1) (r := some (.int (q2.2))) dX8_isHatPassed_18 mvX8_hat wk42_13 rfl ht rfl (by decide) (Nat.le_of_ble_eq_true rfl) (c_X8_hat ht hq2) ?_
    refine mG.pop dX8_isHatPassed_21 rfl ?_
    refine mG.iconst (v := 1) dX8_isHatPassed_22 rfl ?_
    obtain rfl := Option.some.inj h
    exact mG.zret (b := true) dX8_isHatPassed_23 rfl rfl ⟨rfl, rfl, rfl⟩
  · replace h := itn c3 h
    refine mG.iconst (v := 0) dX8_isHatPassed_14 rfl ?_
    obtain rfl := Option.some.inj h
    exact mG.zret (b := false) dX8_isHatPassed_15 rfl rfl ⟨rfl, rfl, rfl⟩
theorem dX8_isCarriedOut_0 : decode cX8_isCarriedOut 0 = .ok (.aload_n 1, 1) := by decide +kernel
theorem dX8_isCarriedOut_1 : decode cX8_isCarriedOut 1 = .ok (.iload_n 2, 1) := by decide +kernel
theorem dX8_isCarriedOut_2 : decode cX8_isCarriedOut 2 = .ok (.iconst 0, 1) := by decide +kernel
theorem dX8_isCarriedOut_3 : decode cX8_isCarriedOut 3 = .ok (.invokevirtual 380, 3) := by decide +kernel
theorem dX8_isCarriedOut_6 : decode cX8_isCarriedOut 6 = .ok (.istore_n 3, 1) := by decide +kernel
theorem dX8_isCarriedOut_7 : decode cX8_isCarriedOut 7 = .ok (.aload_n 1, 1) := by decide +kernel
theorem dX8_isCarriedOut_8 : decode cX8_isCarriedOut 8 = .ok (.iload_n 2, 1) := by decide +kernel
theorem dX8_isCarriedOut_9 : decode cX8_isCarriedOut 9 = .ok (.iconst 1, 1) := by decide +kernel
theorem dX8_isCarriedOut_10 : decode cX8_isCarriedOut 10 = .ok (.invokevirtual 380, 3) := by decide +kernel
theorem dX8_isCarriedOut_13 : decode cX8_isCarriedOut 13 = .ok (.istore 4, 2) := by decide +kernel
theorem dX8_isCarriedOut_15 : decode cX8_isCarriedOut 15 = .ok (.aload_n 1, 1) := by decide +kernel
theorem dX8_isCarriedOut_16 : decode cX8_isCarriedOut 16 = .ok (.iload_n 2, 1) := by decide +kernel
theorem dX8_isCarriedOut_17 : decode cX8_isCarriedOut 17 = .ok (.invokevirtual 383, 3) := by decide +kernel
theorem dX8_isCarriedOut_20 : decode cX8_isCarriedOut 20 = .ok (.tableswitch 162 16 30 #[147, 162, 76, 162, 162, 162, 162, 162, 162, 162, 162, 101, 116, 133, 139], 76) := by decide +kernel
theorem dX8_isCarriedOut_96 : decode cX8_isCarriedOut 96 = .ok (.aload_n 0, 1) := by decide +kernel
theorem dX8_isCarriedOut_97 : decode cX8_isCarriedOut 97 = .ok (.iload_n 3, 1) := by decide +kernel
theorem dX8_isCarriedOut_98 : decode cX8_isCarriedOut 98 = .ok (.iconst (-1), 1) := by decide +kernel
theorem dX8_isCarriedOut_99 : decode cX8_isCarriedOut 99 = .ok (.iconst (-1), 1) := by decide +kernel
theorem dX8_isCarriedOut_100 : decode cX8_isCarriedOut 100 = .ok (.iload 4, 2) := by decide +kernel
theorem dX8_isCarriedOut_102 : decode cX8_isCarriedOut 102 = .ok (.aload_n 1, 1) := by decide +kernel
theorem dX8_isCarriedOut_103 : decode cX8_isCarriedOut 103 = .ok (.iload_n 2, 1) := by decide +kernel
theorem dX8_isCarriedOut_104 : decode cX8_isCarriedOut 104 = .ok (.iconst 2, 1) := by decide +kernel
theorem dX8_isCarriedOut_105 : decode cX8_isCarriedOut 105 = .ok (.invokevirtual 380, 3) := by decide +kernel
theorem dX8_isCarriedOut_108 : decode cX8_isCarriedOut 108 = .ok (.invokevirtual 386, 3) := by decide +kernel
theorem dX8_isCarriedOut_111 : decode cX8_isCarriedOut 111 = .ok (.iconst (-1), 1) := by decide +kernel
theorem dX8_isCarriedOut_112 : decode cX8_isCarriedOut 112 = .ok (.if_icmp .eq 7, 3) := by decide +kernel
theorem dX8_isCarriedOut_115 : decode cX8_isCarriedOut 115 = .ok (.iconst 1, 1) := by decide +kernel
theorem dX8_isCarriedOut_116 : decode cX8_isCarriedOut 116 = .ok (.goto 4, 3) := by decide +kernel
theorem dX8_isCarriedOut_119 : decode cX8_isCarriedOut 119 = .ok (.iconst 0, 1) := by decide +kernel
theorem dX8_isCarriedOut_120 : decode cX8_isCarriedOut 120 = .ok (.ireturn, 1) := by decide +kernel
theorem dX8_isCarriedOut_121 : decode cX8_isCarriedOut 121 = .ok (.aload_n 0, 1) := by decide +kernel
theorem dX8_isCarriedOut_122 : decode cX8_isCarriedOut 122 = .ok (.iload_n 3, 1) := by decide +kernel
theorem dX8_isCarriedOut_123 : decode cX8_isCarriedOut 123 = .ok (.invokevirtual 390, 3) := by decide +kernel
theorem dX8_isCarriedOut_126 : decode cX8_isCarriedOut 126 = .ok (.iconst (-1), 1) := by decide +kernel
theorem dX8_isCarriedOut_127 : decode cX8_isCarriedOut 127 = .ok (.if_icmp .eq 7, 3) := by decide +kernel
theorem dX8_isCarriedOut_130 : decode cX8_isCarriedOut 130 = .ok (.iconst 1, 1) := by decide +kernel
theorem dX8_isCarriedOut_131 : decode cX8_isCarriedOut 131 = .ok (.goto 4, 3) := by decide +kernel
theorem dX8_isCarriedOut_134 : decode cX8_isCarriedOut 134 = .ok (.iconst 0, 1) := by decide +kernel
theorem dX8_isCarriedOut_135 : decode cX8_isCarriedOut 135 = .ok (.ireturn, 1) := by decide +kernel
theorem dX8_isCarriedOut_136 : decode cX8_isCarriedOut 136 = .ok (.aload_n 0, 1) := by decide +kernel
theorem dX8_isCarriedOut_137 : decode cX8_isCarriedOut 137 = .ok (.iload_n 3, 1) := by decide +kernel
theorem dX8_isCarriedOut_138 : decode cX8_isCarriedOut 138 = .ok (.iload 4, 2) := by decide +kernel
theorem dX8_isCarriedOut_140 : decode cX8_isCarriedOut 140 = .ok (.invokevirtual 393, 3) := by decide +kernel
theorem dX8_isCarriedOut_143 : decode cX8_isCarriedOut 143 = .ok (.iconst (-1), 1) := by decide +kernel
theorem dX8_isCarriedOut_144 : decode cX8_isCarriedOut 144 = .ok (.if_icmp .eq 7, 3) := by decide +kernel
theorem dX8_isCarriedOut_147 : decode cX8_isCarriedOut 147 = .ok (.iconst 1, 1) := by decide +kernel
theorem dX8_isCarriedOut_148 : decode cX8_isCarriedOut 148 = .ok (.goto 4, 3) := by decide +kernel
theorem dX8_isCarriedOut_151 : decode cX8_isCarriedOut 151 = .ok (.iconst 0, 1) := by decide +kernel
theorem dX8_isCarriedOut_152 : decode cX8_isCarriedOut 152 = .ok (.ireturn, 1) := by decide +kernel
theorem dX8_isCarriedOut_153 : decode cX8_isCarriedOut 153 = .ok (.aload_n 0, 1) := by decide +kernel
theorem dX8_isCarriedOut_154 : decode cX8_isCarriedOut 154 = .ok (.iload_n 3, 1) := by decide +kernel
theorem dX8_isCarriedOut_155 : decode cX8_isCarriedOut 155 = .ok (.invokevirtual 396, 3) := by decide +kernel
theorem dX8_isCarriedOut_158 : decode cX8_isCarriedOut 158 = .ok (.ireturn, 1) := by decide +kernel
theorem dX8_isCarriedOut_159 : decode cX8_isCarriedOut 159 = .ok (.aload_n 0, 1) := by decide +kernel
theorem dX8_isCarriedOut_160 : decode cX8_isCarriedOut 160 = .ok (.iload_n 3, 1) := by decide +kernel
theorem dX8_isCarriedOut_161 : decode cX8_isCarriedOut 161 = .ok (.iload 4, 2) := by decide +kernel
theorem dX8_isCarriedOut_163 : decode cX8_isCarriedOut 163 = .ok (.invokevirtual 399, 3) := by decide +kernel
theorem dX8_isCarriedOut_166 : decode cX8_isCarriedOut 166 = .ok (.ireturn, 1) := by decide +kernel
theorem dX8_isCarriedOut_167 : decode cX8_isCarriedOut 167 = .ok (.aload_n 0, 1) := by decide +kernel
theorem dX8_isCarriedOut_168 : decode cX8_isCarriedOut 168 = .ok (.iload_n 3, 1) := by decide +kernel
theorem dX8_isCarriedOut_169 : decode cX8_isCarriedOut 169 = .ok (.invokevirtual 169, 3) := by decide +kernel
theorem dX8_isCarriedOut_172 : decode cX8_isCarriedOut 172 = .ok (.iload_n 3, 1) := by decide +kernel
theorem dX8_isCarriedOut_173 : decode cX8_isCarriedOut 173 = .ok (.if_icmp .ne 7, 3) := by decide +kernel
theorem dX8_isCarriedOut_176 : decode cX8_isCarriedOut 176 = .ok (.iconst 1, 1) := by decide +kernel
theorem dX8_isCarriedOut_177 : decode cX8_isCarriedOut 177 = .ok (.goto 4, 3) := by decide +kernel
theorem dX8_isCarriedOut_180 : decode cX8_isCarriedOut 180 = .ok (.iconst 0, 1) := by decide +kernel
theorem dX8_isCarriedOut_181 : decode cX8_isCarriedOut 181 = .ok (.ireturn, 1) := by decide +kernel
theorem dX8_isCarriedOut_182 : decode cX8_isCarriedOut 182 = .ok (.iconst 1, 1) := by decide +kernel
theorem dX8_isCarriedOut_183 : decode cX8_isCarriedOut 183 = .ok (.ireturn, 1) := by decide +kernel
def f_X8_isCarriedOut (F : Nat) (S : mS) (t : Nat) (a1 : Nat) (a2 : Int32) : Option (mS × Bool) := bd (f_X5_numberOf F S a1 a2 (0 : Int32)) fun q1 => bd (f_X5_numberOf F S a1 a2 (1 : Int32)) fun q2 => bd (f_X5_kindOf F S a1 a2) fun q3 => if q3 = (16 : Int32) then (bd (f_X8_passDays F S t q1) fun q5 => if q5.2 = q1 then (some (q5.1, true)) else (some (q5.1, false))) else (if q3 = (18 : Int32) then (bd (f_X5_numberOf F S a1 a2 (2 : Int32)) fun q8 => bd (f_X8_house F S t q1 (-1 : Int32) (-1 : Int32) q2 q8) fun q9 => if q9.2 = (-1 : Int32) then (some (q9.1, false)) else (some (q9.1, true))) else (if q3 = (27 : Int32) then (bd (f_X8_knock F S t q1) fun q12 => if q12.2 = (-1 : Int32) then (some (q12.1, false)) else (some (q12.1, true))) else (if q3 = (28 : Int32) then (bd (f_X8_marry F S t q1 q2) fun q15 => if q15.2 = (-1 : Int32) then (some (q15.1, false)) else (some (q15.1, true))) else (if q3 = (29 : Int32) then (bd (f_X8_isHatPassed F S t q1) fun q18 => some (q18.1, q18.2)) else (if q3 = (30 : Int32) then (bd (f_X8_forget F S t q1 q2) fun q20 => some (q20.1, q20.2)) else (some (S, true)))))))
set_option maxHeartbeats 4000000 in
set_option maxRecDepth 100000 in
theorem c_X8_isCarriedOut {F : Nat} {S : mS} {t : Nat} {a1 : Nat} {a2 : Int32} {R : mS × Bool} (ht : kd0 t = 8) (ha1 : kd0 a1 = 5) (h : f_X8_isCarriedOut F S t a1 a2 = some R) : mCt μX8_isCarriedOut 7 0 0 E0 S [.ref (t), .ref (a1), .int (a2)] (mQe R.1 (some (.int (bI R.2)))) := by
  unfold f_X8_isCarriedOut at h
  refine mCt.of (by decide) (Nat.le_of_ble_eq_true rfl) ?_
  intro x
  refine mG.aload_n 1 dX8_isCarriedOut_0 rfl ?_
  refine mG.iload_n 2 dX8_isCarriedOut_1 rfl ?_
  refine mG.iconst (v := 0) dX8_isCarriedOut_2 rfl ?_
  obtain ⟨q1, hq1, h⟩ := bdp h
  refine mG.callV0 (as := [.int (a2), .int 0]) (st := []) (S2 := S) (r := some (.int (q1))) dX8_isCarriedOut_3 mvX5_numberOf wk41_22 rfl ha1 rfl (by decide) (Nat.le_of_ble_eq_true rfl) (c_X5_numberOf ha1 hq1) ?_
  refine mG.istore_n (lv2 := [(3, .int (q1)), (0, .ref (t)), (1, .ref (a1)), (2, .int (a2))]) dX8_isCarriedOut_6 rfl (by decide) rfl ?_
  refine mG.aload_n 2 dX8_isCarriedOut_7 rfl ?_
  refine mG.iload_n 3 dX8_isCarriedOut_8 rfl ?_
  refine mG.iconst (v := 1) dX8_isCarriedOut_9 rfl ?_
  obtain ⟨q2, hq2, h⟩ := bdp h
  refine mG.callV0 (as := [.int (a2), .int 1]) (st := []) (S2 := S) (r := some (.int (q2))) dX8_isCarriedOut_10 mvX5_numberOf wk41_22 rfl ha1 rfl (by decide) (Nat.le_of_ble_eq_true rfl) (c_X5_numberOf ha1 hq2) ?_
  refine mG.istore (lv2 := [(4, .int (q2)), (3, .int (q1)), (0, .ref (t)), (1, .ref (a1)), (2, .int (a2))]) dX8_isCarriedOut_13 (by decide) rfl ?_
  refine mG.aload_n 3 dX8_isCarriedOut_15 rfl ?_
  refine mG.iload_n 4 dX8_isCarriedOut_16 rfl ?_
  obtain ⟨q3, hq3, h⟩ := bdp h
  refine mG.callV0 (as := [.int (a2)]) (st := []) (S2 := S) (r := some (.int (q3))) dX8_isCarriedOut_17 mvX5_kindOf wk42_2 rfl ha1 rfl (by decide) (Nat.le_of_ble_eq_true rfl) (c_X5_kindOf ha1 hq3) ?_
  by_cases c4 : q3 = (16 : Int32)
  · replace h := itp c4 h
    refine mG.tblIn (147) 167 dX8_isCarriedOut_20 (by rw [c4]; decide) (by rw [c4]; decide) (by rw [c4]; decide) (by decide) ?_
    refine mG.aload_n 2 dX8_isCarriedOut_167 rfl ?_
    refine mG.iload_n 1 dX8_isCarriedOut_168 rfl ?_
    obtain ⟨q5, hq5, h⟩ := bdp h
    refine mG.callV0 (as := [.int (q1)]) (st := []) (S2 := q5.1) (r := some (.int (q5.2))) dX8_isCarriedOut_169 mvX8_passDays wk39_16 rfl ht rfl (by decide) (Nat.le_of_ble_eq_true rfl) (c_X8_passDays ht hq5) ?_
    refine mG.iload_n 1 dX8_isCarriedOut_172 rfl ?_
    refine mG.icmp_ne 180 dX8_isCarriedOut_173 (by decide) (fun c6 => ?_) (fun c6 => ?_)
    · replace h := itn c6 h
      refine mG.iconst (v := 0) dX8_isCarriedOut_180 rfl ?_
      obtain rfl := Option.some.inj h
      exact mG.zret (b := false) dX8_isCarriedOut_181 rfl rfl ⟨rfl, rfl, rfl⟩
    · replace h := itp c6 h
      refine mG.iconst (v := 1) dX8_isCarriedOut_176 rfl ?_
      refine mG.goto 181 dX8_isCarriedOut_177 (by decide) ?_
      obtain rfl := Option.some.inj h
      exact mG.zret (b := true) dX8_isCarriedOut_181 rfl rfl ⟨rfl, rfl, rfl⟩
  replace h := itn c4 h
  by_cases c7 : q3 = (18 : Int32)
  · replace h := itp c7 h
    refine mG.tblIn (76) 96 dX8_isCarriedOut_20 (by rw [c7]; decide) (by rw [c7]; decide) (by rw [c7]; decide) (by decide) ?_
    refine mG.aload_n 2 dX8_isCarriedOut_96 rfl ?_
    refine mG.iload_n 1 dX8_isCarriedOut_97 rfl ?_
    refine mG.iconst (v := (-1)) dX8_isCarriedOut_98 rfl ?_
    refine mG.iconst (v := (-1)) dX8_isCarriedOut_99 rfl ?_
    refine mG.iload 0 dX8_isCarriedOut_100 rfl ?_
    refine mG.aload_n 3 dX8_isCarriedOut_102 rfl ?_
    refine mG.iload_n 4 dX8_isCarriedOut_103 rfl ?_
    refine mG.iconst (v := 2) dX8_isCarriedOut_104 rfl ?_
    obtain ⟨q8, hq8, h⟩ := bdp h
    refine mG.callV0 (as := [.int (a2), .int 2]) (st := [.int (q2), .int (-1), .int (-1), .int (q1), .ref (t)]) (S2 := S) (r := some (.int (q8))) dX8_isCarriedOut_105 mvX5_numberOf wk41_22 rfl ha1 rfl (by decide) (Nat.le_of_ble_eq_true rfl) (c_X5_numberOf ha1 hq8) ?_
    obtain ⟨q9, hq9, h⟩ := bdp h
    refine mG.callV0 (as := [.int (q1), .int (-1), .int (-1), .int (q2), .int (q8)]) (st := []) (S2 := q9.1) (r := some (.int (q9.2))) dX8_isCarriedOut_108 mvX8_house wk42_6 rfl ht rfl (by decide) (Nat.le_of_ble_eq_true rfl) (c_X8_house ht hq9) ?_
    refine mG.iconst (v := (-1)) dX8_isCarriedOut_111 rfl ?_
    refine mG.icmp_eq 119 dX8_isCarriedOut_112 (by decide) (fun c10 => ?_) (fun c10 => ?_)
    · replace h := itp c10 h
      refine mG.iconst (v := 0) dX8_isCarriedOut_119 rfl ?_
      obtain rfl := Option.some.inj h
      exact mG.zret (b := false) dX8_isCarriedOut_120 rfl rfl ⟨rfl, rfl, rfl⟩
    · replace h := itn c10 h
      refine mG.iconst (v := 1) dX8_isCarriedOut_115 rfl ?_
      refine mG.goto 120 dX8_isCarriedOut_116 (by decide) ?_
      obtain rfl := Option.some.inj h
      exact mG.zret (b := true) dX8_isCarriedOut_120 rfl rfl ⟨rfl, rfl, rfl⟩
  replace h := itn c7 h
  by_cases c11 : q3 = (27 : Int32)
  · replace h := itp c11 h
    refine mG.tblIn (101) 121 dX8_isCarriedOut_20 (by rw [c11]; decide) (by rw [c11]; decide) (by rw [c11]; decide) (by decide) ?_
    refine mG.aload_n 2 dX8_isCarriedOut_121 rfl ?_
    refine mG.iload_n 1 dX8_isCarriedOut_122 rfl ?_
    obtain ⟨q12, hq12, h⟩ := bdp h
    refine mG.callV0 (as := [.int (q1)]) (st := []) (S2 := q12.1) (r := some (.int (q12.2))) dX8_isCarriedOut_123 mvX8_knock wk42_7 rfl ht rfl (by decide) (Nat.le_of_ble_eq_true rfl) (c_X8_knock ht hq12) ?_
    refine mG.iconst (v := (-1)) dX8_isCarriedOut_126 rfl ?_
    refine mG.icmp_eq 134 dX8_isCarriedOut_127 (by decide) (fun c13 => ?_) (fun c13 => ?_)
    · replace h := itp c13 h
      refine mG.iconst (v := 0) dX8_isCarriedOut_134 rfl ?_
      obtain rfl := Option.some.inj h
      exact mG.zret (b := false) dX8_isCarriedOut_135 rfl rfl ⟨rfl, rfl, rfl⟩
    · replace h := itn c13 h
      refine mG.iconst (v := 1) dX8_isCarriedOut_130 rfl ?_
      refine mG.goto 135 dX8_isCarriedOut_131 (by decide) ?_
      obtain rfl := Option.some.inj h
      exact mG.zret (b := true) dX8_isCarriedOut_135 rfl rfl ⟨rfl, rfl, rfl⟩
  replace h := itn c11 h
  by_cases c14 : q3 = (28 : Int32)
  · replace h := itp c14 h
    refine mG.tblIn (116) 136 dX8_isCarriedOut_20 (by rw [c14]; decide) (by rw [c14]; decide) (by rw [c14]; decide) (by decide) ?_
    refine mG.aload_n 2 dX8_isCarriedOut_136 rfl ?_
    refine mG.iload_n 1 dX8_isCarriedOut_137 rfl ?_
    refine mG.iload 0 dX8_isCarriedOut_138 rfl ?_
    obtain ⟨q15, hq15, h⟩ := bdp h
    refine mG.callV0 (as := [.int (q1), .int (q2)]) (st := []) (S2 := q15.1) (r := some (.int (q15.2))) dX8_isCarriedOut_140 mvX8_marry wk42_8 rfl ht rfl (by decide) (Nat.le_of_ble_eq_true rfl) (c_X8_marry ht hq15) ?_
    refine mG.iconst (v := (-1)) dX8_isCarriedOut_143 rfl ?_
    refine mG.icmp_eq 151 dX8_isCarriedOut_144 (by decide) (fun c16 => ?_) (fun c16 => ?_)
    · replace h := itp c16 h
      refine mG.iconst (v := 0) dX8_isCarriedOut_151 rfl ?_
      obtain rfl := Option.some.inj h
      exact mG.zret (b := false) dX8_isCarriedOut_152 rfl rfl ⟨rfl, rfl, rfl⟩
    · replace h := itn c16 h
      refine mG.iconst (v := 1) dX8_isCarriedOut_147 rfl ?_
      refine mG.goto 152 dX8_isCarriedOut_148 (by decide) ?_
      obtain rfl := Option.some.inj h
      exact mG.zret (b := true) dX8_isCarriedOut_152 rfl rfl ⟨rfl, rfl, rfl⟩
  replace h := itn c14 h
  by_cases c17 : q3 = (29 : Int32)
  · replace h := itp c17 h
    refine mG.tblIn (133) 153 dX8_isCarriedOut_20 (by rw [c17]; decide) (by rw [c17]; decide) (by rw [c17]; decide) (by decide) ?_
    refine mG.aload_n 2 dX8_isCarriedOut_153 rfl ?_
    refine mG.iload_n 1 dX8_isCarriedOut_154 rfl ?_
    obtain ⟨q18, hq18, h⟩ := bdp h
    refine mG.callV0 (as := [.int (q1)]) (st := []) (S2 := q18.1) (r := some (.int (bI (q18.2)))) dX8_isCarriedOut_155 mvX8_isHatPassed wk42_9 rfl ht rfl (by decide) (Nat.le_of_ble_eq_true rfl) (c_X8_isHatPassed ht hq18) ?_
    obtain rfl := Option.some.inj h
    exact mG.zret (b := q18.2) dX8_isCarriedOut_158 rfl rfl ⟨rfl, rfl, rfl⟩
  replace h := itn c17 h
  by_cases c19 : q3 = (30 : Int32)
  · replace h := itp c19 h
    refine mG.tblIn (139) 159 dX8_isCarriedOut_20 (by rw [c19]; decide) (by rw [c19]; decide) (by rw [c19]; decide) (by decide) ?_
    refine mG.aload_n 2 dX8_isCarriedOut_159 rfl ?_
    refine mG.iload_n 1 dX8_isCarriedOut_160 rfl ?_
    refine mG.iload 0 dX8_isCarriedOut_161 rfl ?_
    obtain ⟨q20, hq20, h⟩ := bdp h
    refine mG.callV0 (as := [.int (q1), .int (q2)]) (st := []) (S2 := q20.1) (r := some (.int (bI (q20.2)))) dX8_isCarriedOut_163 mvX8_forget wk42_14 rfl ht rfl (by decide) (Nat.le_of_ble_eq_true rfl) (c_X8_forget ht hq20) ?_
    obtain rfl := Option.some.inj h
    exact mG.zret (b := q20.2) dX8_isCarriedOut_166 rfl rfl ⟨rfl, rfl, rfl⟩
  replace h := itn c19 h
  have kd : mG x μX8_isCarriedOut 7 0 0 (mQe R.1 (some (.int (bI R.2)))) 0 0 E0 S 182 [(4, .int (q2)), (3, .int (q1)), (0, .ref (t)), (1, .ref (a1)), (2, .int (a2))] [] := by
    refine mG.iconst (v := 1) dX8_isCarriedOut_182 rfl ?_
    obtain rfl := Option.some.inj h
    exact mG.zret (b := true) dX8_isCarriedOut_183 rfl rfl ⟨rfl, rfl, rfl⟩
  by_cases c21 : q3 = (17 : Int32)
  · refine mG.tblIn (162) 182 dX8_isCarriedOut_20 (by rw [c21]; decide) (by rw [c21]; decide) (by rw [c21]; decide) (by decide) ?_
    exact kd
  by_cases c22 : q3 = (19 : Int32)
  · refine mG.tblIn (162) 182 dX8_isCarriedOut_20 (by rw [c22]; decide) (by rw [c22]; decide) (by rw [c22]; decide) (by decide) ?_
    exact kd
  by_cases c23 : q3 = (20 : Int32)
  · refine mG.tblIn (162) 182 dX8_isCarriedOut_20 (by rw [c23]; decide) (by rw [c23]; decide) (by rw [c23]; decide) (by decide) ?_
    exact kd
  by_cases c24 : q3 = (21 : Int32)
  · refine mG.tblIn (162) 182 dX8_isCarriedOut_20 (by rw [c24]; decide) (by rw [c24]; decide) (by rw [c24]; decide) (by decide) ?_
    exact kd
  by_cases c25 : q3 = (22 : Int32)
  · refine mG.tblIn (162) 182 dX8_isCarriedOut_20 (by rw [c25]; decide) (by rw [c25]; decide) (by rw [c25]; decide) (by decide) ?_
    exact kd
  by_cases c26 : q3 = (23 : Int32)
  · refine mG.tblIn (162) 182 dX8_isCarriedOut_20 (by rw [c26]; decide) (by rw [c26]; decide) (by rw [c26]; decide) (by decide) ?_
    exact kd
  by_cases c27 : q3 = (24 : Int32)
  · refine mG.tblIn (162) 182 dX8_isCarriedOut_20 (by rw [c27]; decide) (by rw [c27]; decide) (by rw [c27]; decide) (by decide) ?_
    exact kd
  by_cases c28 : q3 = (25 : Int32)
  · refine mG.tblIn (162) 182 dX8_isCarriedOut_20 (by rw [c28]; decide) (by rw [c28]; decide) (by rw [c28]; decide) (by decide) ?_
    exact kd
  by_cases c29 : q3 = (26 : Int32)
  · refine mG.tblIn (162) 182 dX8_isCarriedOut_20 (by rw [c29]; decide) (by rw [c29]; decide) (by rw [c29]; decide) (by decide) ?_
    exact kd
  refine mG.tblOut 182 dX8_isCarriedOut_20 (by have e0 : Int32.toInt q3 ≠ 16 := fun q => c4 (Int32.toInt_inj.mp (q.trans (by decide))); have e1 : Int32.toInt q3 ≠ 18 := fun q => c7 (Int32.toInt_inj.mp (q.trans (by decide))); have e2 : Int32.toInt q3 ≠ 27 := fun q => c11 (Int32.toInt_inj.mp (q.trans (by decide))); have e3 : Int32.toInt q3 ≠ 28 := fun q => c14 (Int32.toInt_inj.mp (q.trans (by decide))); have e4 : Int32.toInt q3 ≠ 29 := fun q => c17 (Int32.toInt_inj.mp (q.trans (by decide))); have e5 : Int32.toInt q3 ≠ 30 := fun q => c19 (Int32.toInt_inj.mp (q.trans (by decide))); have e6 : Int32.toInt q3 ≠ 17 := fun q => c21 (Int32.toInt_inj.mp (q.trans (by decide))); have e7 : Int32.toInt q3 ≠ 19 := fun q => c22 (Int32.toInt_inj.mp (q.trans (by decide))); have e8 : Int32.toInt q3 ≠ 20 := fun q => c23 (Int32.toInt_inj.mp (q.trans (by decide))); have e9 : Int32.toInt q3 ≠ 21 := fun q => c24 (Int32.toInt_inj.mp (q.trans (by decide))); have e10 : Int32.toInt q3 ≠ 22 := fun q => c25 (Int32.toInt_inj.mp (q.trans (by decide))); have e11 : Int32.toInt q3 ≠ 23 := fun q => c26 (Int32.toInt_inj.mp (q.trans (by decide))); have e12 : Int32.toInt q3 ≠ 24 := fun q => c27 (Int32.toInt_inj.mp (q.trans (by decide))); have e13 : Int32.toInt q3 ≠ 25 := fun q => c28 (Int32.toInt_inj.mp (q.trans (by decide))); have e14 : Int32.toInt q3 ≠ 26 := fun q => c29 (Int32.toInt_inj.mp (q.trans (by decide))); omega) (by decide) ?_
  exact kd
theorem dX8_played_0 : decode cX8_played 0 = .ok (.aload_n 0, 1) := by decide +kernel
theorem dX8_played_1 : decode cX8_played 1 = .ok (.iload_n 1, 1) := by decide +kernel
theorem dX8_played_2 : decode cX8_played 2 = .ok (.invokevirtual 130, 3) := by decide +kernel
theorem dX8_played_5 : decode cX8_played 5 = .ok (.ifCond .ne 6, 3) := by decide +kernel
theorem dX8_played_8 : decode cX8_played 8 = .ok (.bipush (-2), 2) := by decide +kernel
theorem dX8_played_10 : decode cX8_played 10 = .ok (.ireturn, 1) := by decide +kernel
theorem dX8_played_11 : decode cX8_played 11 = .ok (.aload_n 0, 1) := by decide +kernel
theorem dX8_played_12 : decode cX8_played 12 = .ok (.getfield 22, 3) := by decide +kernel
theorem dX8_played_15 : decode cX8_played 15 = .ok (.iload_n 1, 1) := by decide +kernel
theorem dX8_played_16 : decode cX8_played 16 = .ok (.aaload, 1) := by decide +kernel
theorem dX8_played_17 : decode cX8_played 17 = .ok (.astore_n 2, 1) := by decide +kernel
theorem dX8_played_18 : decode cX8_played 18 = .ok (.iconst 0, 1) := by decide +kernel
theorem dX8_played_19 : decode cX8_played 19 = .ok (.istore_n 3, 1) := by decide +kernel
theorem dX8_played_20 : decode cX8_played 20 = .ok (.iload_n 3, 1) := by decide +kernel
theorem dX8_played_21 : decode cX8_played 21 = .ok (.aload_n 2, 1) := by decide +kernel
theorem dX8_played_22 : decode cX8_played 22 = .ok (.getfield 176, 3) := by decide +kernel
theorem dX8_played_25 : decode cX8_played 25 = .ok (.if_icmp .ge 20, 3) := by decide +kernel
theorem dX8_played_28 : decode cX8_played 28 = .ok (.aload_n 0, 1) := by decide +kernel
theorem dX8_played_29 : decode cX8_played 29 = .ok (.aload_n 2, 1) := by decide +kernel
theorem dX8_played_30 : decode cX8_played 30 = .ok (.iload_n 3, 1) := by decide +kernel
theorem dX8_played_31 : decode cX8_played 31 = .ok (.invokevirtual 179, 3) := by decide +kernel
theorem dX8_played_34 : decode cX8_played 34 = .ok (.ifCond .ne 5, 3) := by decide +kernel
theorem dX8_played_37 : decode cX8_played 37 = .ok (.iload_n 3, 1) := by decide +kernel
theorem dX8_played_38 : decode cX8_played 38 = .ok (.ireturn, 1) := by decide +kernel
theorem dX8_played_39 : decode cX8_played 39 = .ok (.iinc 3 1, 3) := by decide +kernel
theorem dX8_played_42 : decode cX8_played 42 = .ok (.goto (-22), 3) := by decide +kernel
theorem dX8_played_45 : decode cX8_played 45 = .ok (.iconst (-1), 1) := by decide +kernel
theorem dX8_played_46 : decode cX8_played 46 = .ok (.ireturn, 1) := by decide +kernel
def lX8_played_20 (F : Nat)  (t : Nat) (a1 : Int32) : Nat → mS → Int32 → Option (mS × Int32)
  | 0, _, _ => none
  | n + 1, S, v3 => if (S.1 (t + 11 + 1 + 5 * a1.toNatClampNeg) 5) ≤ v3 then (some (S, (-1 : Int32))) else (bd (f_X8_isCarriedOut F S t (t + 11 + 1 + 5 * a1.toNatClampNeg) v3) fun q1 => if q1.2 = true then (lX8_played_20 F  t a1 n q1.1 (v3 + 1)) else (some (q1.1, v3)))
set_option maxHeartbeats 4000000 in
set_option maxRecDepth 100000 in
theorem gX8_played_20 {x : mX} {F : Nat} {t : Nat} {a1 : Int32}   {R : mS × Int32} (ht : kd0 t = 8)  : ∀ (n : Nat) (S : mS) (v3 : Int32) (kr2 : kd0 (t + 11 + 1 + 5 * a1.toNatClampNeg) = 5), lX8_played_20 F  t a1 n S v3 = some R → mG x μX8_played 8 0 0 (mQe R.1 (some (.int R.2))) 0 0 E0 S 20 [(0, .ref (t)), (2, .ref (t + 11 + 1 + 5 * a1.toNatClampNeg)), (3, .int (v3))] [] := by
  intro n
  induction n with
  | zero =>
    intro S v3 kr2 h
    cases h
  | succ n ih =>
    intro S v3 kr2 h
    unfold lX8_played_20 at h
    refine mG.iload_n 2 dX8_played_20 rfl ?_
    refine mG.aload_n 1 dX8_played_21 rfl ?_
    refine mG.get (v := .int (S.1 (t + 11 + 1 + 5 * a1.toNatClampNeg) 5)) dX8_played_22 mfX8_176 kr2 rfl ?_
    refine mG.icmp_ge 45 dX8_played_25 (by decide) (fun c3 => ?_) (fun c3 => ?_)
    · replace h := itp c3 h
      refine mG.iconst (v := (-1)) dX8_played_45 rfl ?_
      obtain rfl := Option.some.inj h
      exact mG.iret dX8_played_46 rfl ⟨rfl, rfl, rfl⟩
    · replace h := itn c3 h
      refine mG.aload_n 0 dX8_played_28 rfl ?_
      refine mG.aload_n 1 dX8_played_29 rfl ?_
      refine mG.iload_n 2 dX8_played_30 rfl ?_
      obtain ⟨q1, hq1, h⟩ := bdp h
      refine mG.callV0 (as := [.ref (t + 11 + 1 + 5 * a1.toNatClampNeg), .int (v3)]) (st := []) (S2 := q1.1) (r := some (.int (bI (q1.2)))) dX8_played_31 mvX8_isCarriedOut wk41_18 rfl ht rfl (by decide) (Nat.le_of_ble_eq_true rfl) (c_X8_isCarriedOut ht kr2 hq1) ?_
      refine mG.ifz_ne (b := q1.2) 39 dX8_played_34 (by decide) (fun c2 => ?_) (fun c2 => ?_)
      · replace h := itp c2 h
        refine mG.iinc 2 (u := v3 + 1) (lv2 := [(3, .int (v3 + 1)), (0, .ref (t)), (2, .ref (t + 11 + 1 + 5 * a1.toNatClampNeg))]) dX8_played_39 rfl rfl (by decide) rfl ?_
        refine mG.goto 20 dX8_played_42 (by decide) ?_
        refine mG.sub (lv2 := [(0, .ref (t)), (2, .ref (t + 11 + 1 + 5 * a1.toNatClampNeg)), (3, .int (v3 + 1))]) [1, 2, 0] rfl ?_
        exact ih q1.1 (v3 + 1) kr2 h
      · replace h := itn c2 h
        refine mG.iload_n 2 dX8_played_37 rfl ?_
        obtain rfl := Option.some.inj h
        exact mG.iret dX8_played_38 rfl ⟨rfl, rfl, rfl⟩
def f_X8_played (F : Nat) (S : mS) (t : Nat) (a1 : Int32) : Option (mS × Int32) := if (f_X8_isText S t a1) = true then (ck (inb a1 4) (lX8_played_20 F  t a1 F S (0 : Int32))) else (some (S, (-2 : Int32)))
set_option maxHeartbeats 4000000 in
set_option maxRecDepth 100000 in
theorem c_X8_played {F : Nat} {S : mS} {t : Nat} {a1 : Int32} {R : mS × Int32} (ht : kd0 t = 8) (h : f_X8_played F S t a1 = some R) : mCt μX8_played 8 0 0 E0 S [.ref (t), .int (a1)] (mQe R.1 (some (.int R.2))) := by
  unfold f_X8_played at h
  refine mCt.of (by decide) (Nat.le_of_ble_eq_true rfl) ?_
  intro x
  refine mG.aload_n 0 dX8_played_0 rfl ?_
  refine mG.iload_n 1 dX8_played_1 rfl ?_
  refine mG.callV0 (as := [.int (a1)]) (st := []) (S2 := S) (r := some (.int (bI (f_X8_isText S t a1)))) dX8_played_2 mvX8_isText wk26_19 rfl ht rfl (by decide) (Nat.le_of_ble_eq_true rfl) (c_X8_isText ht rfl) ?_
  refine mG.ifz_ne (b := f_X8_isText S t a1) 11 dX8_played_5 (by decide) (fun c2 => ?_) (fun c2 => ?_)
  · replace h := itp c2 h
    refine mG.aload_n 0 dX8_played_11 rfl ?_
    refine mG.get (v := .ref (t + 11)) dX8_played_12 mfX8_22 ht (lr8_texts ht) ?_
    refine mG.iload_n 1 dX8_played_15 rfl ?_
    obtain ⟨b1, h⟩ := ckp h
    refine mG.aald14 (u := t + 11 + 1 + 5 * a1.toNatClampNeg) dX8_played_16 (lk8_texts ht) (ll8_texts ht) (inbp b1) (la14 (lk8_texts ht) _ (inbN (inbp b1))) ?_
    refine mG.astore_n (lv2 := [(2, .ref (t + 11 + 1 + 5 * a1.toNatClampNeg)), (0, .ref (t)), (1, .int (a1))]) dX8_played_17 rfl (by decide) rfl ?_
    refine mG.iconst (v := 0) dX8_played_18 rfl ?_
    refine mG.istore_n (lv2 := [(3, .int 0), (2, .ref (t + 11 + 1 + 5 * a1.toNatClampNeg)), (0, .ref (t)), (1, .int (a1))]) dX8_played_19 rfl (by decide) rfl ?_
    refine mG.sub (lv2 := [(0, .ref (t)), (2, .ref (t + 11 + 1 + 5 * a1.toNatClampNeg)), (3, .int 0)]) [2, 1, 0] rfl ?_
    exact gX8_played_20 ht  F S (0 : Int32) (lay14 (lk8_texts ht) (inbN (inbp b1))) h
  · replace h := itn c2 h
    refine mG.bipush (v := (-2)) dX8_played_8 (by decide) ?_
    obtain rfl := Option.some.inj h
    exact mG.iret dX8_played_10 rfl ⟨rfl, rfl, rfl⟩
theorem dX8_takeTurn_0 : decode cX8_takeTurn 0 = .ok (.aload_n 0, 1) := by decide +kernel
theorem dX8_takeTurn_1 : decode cX8_takeTurn 1 = .ok (.getfield 41, 3) := by decide +kernel
theorem dX8_takeTurn_4 : decode cX8_takeTurn 4 = .ok (.getfield 88, 3) := by decide +kernel
theorem dX8_takeTurn_7 : decode cX8_takeTurn 7 = .ok (.astore_n 1, 1) := by decide +kernel
theorem dX8_takeTurn_8 : decode cX8_takeTurn 8 = .ok (.aload_n 1, 1) := by decide +kernel
theorem dX8_takeTurn_9 : decode cX8_takeTurn 9 = .ok (.invokevirtual 405, 3) := by decide +kernel
theorem dX8_takeTurn_12 : decode cX8_takeTurn 12 = .ok (.istore_n 2, 1) := by decide +kernel
theorem dX8_takeTurn_13 : decode cX8_takeTurn 13 = .ok (.aload_n 1, 1) := by decide +kernel
theorem dX8_takeTurn_14 : decode cX8_takeTurn 14 = .ok (.getfield 183, 3) := by decide +kernel
theorem dX8_takeTurn_17 : decode cX8_takeTurn 17 = .ok (.ifCond .le 12, 3) := by decide +kernel
theorem dX8_takeTurn_20 : decode cX8_takeTurn 20 = .ok (.iload_n 2, 1) := by decide +kernel
theorem dX8_takeTurn_21 : decode cX8_takeTurn 21 = .ok (.aload_n 1, 1) := by decide +kernel
theorem dX8_takeTurn_22 : decode cX8_takeTurn 22 = .ok (.getfield 183, 3) := by decide +kernel
theorem dX8_takeTurn_25 : decode cX8_takeTurn 25 = .ok (.irem, 1) := by decide +kernel
theorem dX8_takeTurn_26 : decode cX8_takeTurn 26 = .ok (.goto 4, 3) := by decide +kernel
theorem dX8_takeTurn_29 : decode cX8_takeTurn 29 = .ok (.iconst (-1), 1) := by decide +kernel
theorem dX8_takeTurn_30 : decode cX8_takeTurn 30 = .ok (.istore_n 3, 1) := by decide +kernel
theorem dX8_takeTurn_31 : decode cX8_takeTurn 31 = .ok (.iload_n 2, 1) := by decide +kernel
theorem dX8_takeTurn_32 : decode cX8_takeTurn 32 = .ok (.bipush 6, 2) := by decide +kernel
theorem dX8_takeTurn_34 : decode cX8_takeTurn 34 = .ok (.irem, 1) := by decide +kernel
theorem dX8_takeTurn_35 : decode cX8_takeTurn 35 = .ok (.tableswitch 99 0 3 #[29, 29, 46, 69], 29) := by decide +kernel
theorem dX8_takeTurn_64 : decode cX8_takeTurn 64 = .ok (.aload_n 1, 1) := by decide +kernel
theorem dX8_takeTurn_65 : decode cX8_takeTurn 65 = .ok (.iload_n 3, 1) := by decide +kernel
theorem dX8_takeTurn_66 : decode cX8_takeTurn 66 = .ok (.invokevirtual 136, 3) := by decide +kernel
theorem dX8_takeTurn_69 : decode cX8_takeTurn 69 = .ok (.ifCond .eq 87, 3) := by decide +kernel
theorem dX8_takeTurn_72 : decode cX8_takeTurn 72 = .ok (.aload_n 0, 1) := by decide +kernel
theorem dX8_takeTurn_73 : decode cX8_takeTurn 73 = .ok (.iload_n 3, 1) := by decide +kernel
theorem dX8_takeTurn_74 : decode cX8_takeTurn 74 = .ok (.invokevirtual 142, 3) := by decide +kernel
theorem dX8_takeTurn_77 : decode cX8_takeTurn 77 = .ok (.pop, 1) := by decide +kernel
theorem dX8_takeTurn_78 : decode cX8_takeTurn 78 = .ok (.goto 78, 3) := by decide +kernel
theorem dX8_takeTurn_81 : decode cX8_takeTurn 81 = .ok (.iload_n 2, 1) := by decide +kernel
theorem dX8_takeTurn_82 : decode cX8_takeTurn 82 = .ok (.iconst 4, 1) := by decide +kernel
theorem dX8_takeTurn_83 : decode cX8_takeTurn 83 = .ok (.irem, 1) := by decide +kernel
theorem dX8_takeTurn_84 : decode cX8_takeTurn 84 = .ok (.ifCond .ne 72, 3) := by decide +kernel
theorem dX8_takeTurn_87 : decode cX8_takeTurn 87 = .ok (.aload_n 1, 1) := by decide +kernel
theorem dX8_takeTurn_88 : decode cX8_takeTurn 88 = .ok (.iload_n 3, 1) := by decide +kernel
theorem dX8_takeTurn_89 : decode cX8_takeTurn 89 = .ok (.invokevirtual 153, 3) := by decide +kernel
theorem dX8_takeTurn_92 : decode cX8_takeTurn 92 = .ok (.ifCond .eq 64, 3) := by decide +kernel
theorem dX8_takeTurn_95 : decode cX8_takeTurn 95 = .ok (.aload_n 1, 1) := by decide +kernel
theorem dX8_takeTurn_96 : decode cX8_takeTurn 96 = .ok (.iload_n 3, 1) := by decide +kernel
theorem dX8_takeTurn_97 : decode cX8_takeTurn 97 = .ok (.invokevirtual 156, 3) := by decide +kernel
theorem dX8_takeTurn_100 : decode cX8_takeTurn 100 = .ok (.pop, 1) := by decide +kernel
theorem dX8_takeTurn_101 : decode cX8_takeTurn 101 = .ok (.goto 55, 3) := by decide +kernel
theorem dX8_takeTurn_104 : decode cX8_takeTurn 104 = .ok (.iload_n 2, 1) := by decide +kernel
theorem dX8_takeTurn_105 : decode cX8_takeTurn 105 = .ok (.iconst 3, 1) := by decide +kernel
theorem dX8_takeTurn_106 : decode cX8_takeTurn 106 = .ok (.irem, 1) := by decide +kernel
theorem dX8_takeTurn_107 : decode cX8_takeTurn 107 = .ok (.ifCond .ne 49, 3) := by decide +kernel
theorem dX8_takeTurn_110 : decode cX8_takeTurn 110 = .ok (.aload_n 1, 1) := by decide +kernel
theorem dX8_takeTurn_111 : decode cX8_takeTurn 111 = .ok (.iload_n 2, 1) := by decide +kernel
theorem dX8_takeTurn_112 : decode cX8_takeTurn 112 = .ok (.bipush 20, 2) := by decide +kernel
theorem dX8_takeTurn_114 : decode cX8_takeTurn 114 = .ok (.irem, 1) := by decide +kernel
theorem dX8_takeTurn_115 : decode cX8_takeTurn 115 = .ok (.iload_n 3, 1) := by decide +kernel
theorem dX8_takeTurn_116 : decode cX8_takeTurn 116 = .ok (.invokevirtual 159, 3) := by decide +kernel
theorem dX8_takeTurn_119 : decode cX8_takeTurn 119 = .ok (.ifCond .eq 37, 3) := by decide +kernel
theorem dX8_takeTurn_122 : decode cX8_takeTurn 122 = .ok (.aload_n 1, 1) := by decide +kernel
theorem dX8_takeTurn_123 : decode cX8_takeTurn 123 = .ok (.iload_n 2, 1) := by decide +kernel
theorem dX8_takeTurn_124 : decode cX8_takeTurn 124 = .ok (.bipush 20, 2) := by decide +kernel
theorem dX8_takeTurn_126 : decode cX8_takeTurn 126 = .ok (.irem, 1) := by decide +kernel
theorem dX8_takeTurn_127 : decode cX8_takeTurn 127 = .ok (.iload_n 3, 1) := by decide +kernel
theorem dX8_takeTurn_128 : decode cX8_takeTurn 128 = .ok (.invokevirtual 162, 3) := by decide +kernel
theorem dX8_takeTurn_131 : decode cX8_takeTurn 131 = .ok (.goto 25, 3) := by decide +kernel
theorem dX8_takeTurn_134 : decode cX8_takeTurn 134 = .ok (.aload_n 1, 1) := by decide +kernel
theorem dX8_takeTurn_135 : decode cX8_takeTurn 135 = .ok (.getfield 166, 3) := by decide +kernel
theorem dX8_takeTurn_138 : decode cX8_takeTurn 138 = .ok (.sipush 9999, 3) := by decide +kernel
theorem dX8_takeTurn_141 : decode cX8_takeTurn 141 = .ok (.if_icmp .ge 15, 3) := by decide +kernel
theorem dX8_takeTurn_144 : decode cX8_takeTurn 144 = .ok (.aload_n 0, 1) := by decide +kernel
theorem dX8_takeTurn_145 : decode cX8_takeTurn 145 = .ok (.getfield 34, 3) := by decide +kernel
theorem dX8_takeTurn_148 : decode cX8_takeTurn 148 = .ok (.aload_n 0, 1) := by decide +kernel
theorem dX8_takeTurn_149 : decode cX8_takeTurn 149 = .ok (.invokevirtual 236, 3) := by decide +kernel
theorem dX8_takeTurn_152 : decode cX8_takeTurn 152 = .ok (.aload_n 1, 1) := by decide +kernel
theorem dX8_takeTurn_153 : decode cX8_takeTurn 153 = .ok (.invokevirtual 374, 3) := by decide +kernel
theorem dX8_takeTurn_156 : decode cX8_takeTurn 156 = .ok (.return_, 1) := by decide +kernel
def lX8_takeTurn_30 (F : Nat)  (t : Nat) (S : mS) (v2 : Int32) (s0 : Int32) : Option mS := if (v2 - v2 / (6 : Int32) * (6 : Int32)) = (0 : Int32) then (if (f_X6_lives S (t + 40 + 1) s0) = true then (bd (f_X8_knockAt F S t s0) fun q2 => some q2.1) else (some S)) else (if (v2 - v2 / (6 : Int32) * (6 : Int32)) = (1 : Int32) then (if (f_X6_lives S (t + 40 + 1) s0) = true then (bd (f_X8_knockAt F S t s0) fun q5 => some q5.1) else (some S)) else (if (v2 - v2 / (6 : Int32) * (6 : Int32)) = (2 : Int32) then (if (v2 - v2 / (4 : Int32) * (4 : Int32)) = 0 then (bd (f_X6_canDraw F S (t + 40 + 1) s0) fun q8 => if q8 = true then (bd (f_X6_drawDate F S (t + 40 + 1) s0) fun q9 => some q9.1) else (some S)) else (some S)) else (if (v2 - v2 / (6 : Int32) * (6 : Int32)) = (3 : Int32) then (if (v2 - v2 / (3 : Int32) * (3 : Int32)) = 0 then (bd (f_X6_canForget F S (t + 40 + 1) (v2 - v2 / (20 : Int32) * (20 : Int32)) s0) fun q13 => if q13 = true then (bd (f_X6_dropDate F S (t + 40 + 1) (v2 - v2 / (20 : Int32) * (20 : Int32)) s0) fun q14 => some q14) else (some S)) else (some S)) else (if (9999 : Int32) ≤ (S.1 (t + 40 + 1) 7) then (some S) else (bd (f_X8_rule F S t) fun q17 => bd (f_X3_passDay F S (t + 37) q17 (t + 40 + 1)) fun q18 => some q18)))))
set_option maxHeartbeats 4000000 in
set_option maxRecDepth 100000 in
theorem gX8_takeTurn_30 {x : mX} {F : Nat} {t : Nat}  {R : mS} (ht : kd0 t = 8)  (S : mS) (v2 : Int32) (s0 : Int32) (kr1 : kd0 (t + 40 + 1) = 6) (h : lX8_takeTurn_30 F  t S v2 s0 = some R) : mG x μX8_takeTurn 6 0 0 (mQe R none) 0 0 E0 S 30 [(0, .ref (t)), (1, .ref (t + 40 + 1)), (2, .int (v2))] [.int (s0)] := by
  unfold lX8_takeTurn_30 at h
  refine mG.istore_n (lv2 := [(3, .int (s0)), (0, .ref (t)), (1, .ref (t + 40 + 1)), (2, .int (v2))]) dX8_takeTurn_30 rfl (by decide) rfl ?_
  refine mG.iload_n 3 dX8_takeTurn_31 rfl ?_
  refine mG.bipush (v := 6) dX8_takeTurn_32 (by decide) ?_
  refine mG.irem dX8_takeTurn_34 (by decide) ?_
  by_cases c1 : (v2 - v2 / (6 : Int32) * (6 : Int32)) = (0 : Int32)
  · replace h := itp c1 h
    refine mG.tblIn (29) 64 dX8_takeTurn_35 (by rw [c1]; decide) (by rw [c1]; decide) (by rw [c1]; decide) (by decide) ?_
    refine mG.aload_n 2 dX8_takeTurn_64 rfl ?_
    refine mG.iload_n 0 dX8_takeTurn_65 rfl ?_
    refine mG.callV0 (as := [.int (s0)]) (st := []) (S2 := S) (r := some (.int (bI (f_X6_lives S (t + 40 + 1) s0)))) dX8_takeTurn_66 mvX6_lives wk27_7 rfl kr1 rfl (by decide) (Nat.le_of_ble_eq_true rfl) (c_X6_lives kr1 rfl) ?_
    refine mG.ifz_eq (b := f_X6_lives S (t + 40 + 1) s0) 156 dX8_takeTurn_69 (by decide) (fun c3 => ?_) (fun c3 => ?_)
    · replace h := itn c3 h
      obtain rfl := Option.some.inj h
      exact mG.vret dX8_takeTurn_156 rfl ⟨rfl, rfl, rfl⟩
    · replace h := itp c3 h
      refine mG.aload_n 1 dX8_takeTurn_72 rfl ?_
      refine mG.iload_n 0 dX8_takeTurn_73 rfl ?_
      obtain ⟨q2, hq2, h⟩ := bdp h
      refine mG.callV0 (as := [.int (s0)]) (st := []) (S2 := q2.1) (r := some (.int (q2.2))) dX8_takeTurn_74 mvX8_knockAt wk28_14 rfl ht rfl (by decide) (Nat.le_of_ble_eq_true rfl) (c_X8_knockAt ht hq2) ?_
      refine mG.pop dX8_takeTurn_77 rfl ?_
      refine mG.goto 156 dX8_takeTurn_78 (by decide) ?_
      obtain rfl := Option.some.inj h
      exact mG.vret dX8_takeTurn_156 rfl ⟨rfl, rfl, rfl⟩
  replace h := itn c1 h
  by_cases c4 : (v2 - v2 / (6 : Int32) * (6 : Int32)) = (1 : Int32)
  · replace h := itp c4 h
    refine mG.tblIn (29) 64 dX8_takeTurn_35 (by rw [c4]; decide) (by rw [c4]; decide) (by rw [c4]; decide) (by decide) ?_
    refine mG.aload_n 2 dX8_takeTurn_64 rfl ?_
    refine mG.iload_n 0 dX8_takeTurn_65 rfl ?_
    refine mG.callV0 (as := [.int (s0)]) (st := []) (S2 := S) (r := some (.int (bI (f_X6_lives S (t + 40 + 1) s0)))) dX8_takeTurn_66 mvX6_lives wk27_7 rfl kr1 rfl (by decide) (Nat.le_of_ble_eq_true rfl) (c_X6_lives kr1 rfl) ?_
    refine mG.ifz_eq (b := f_X6_lives S (t + 40 + 1) s0) 156 dX8_takeTurn_69 (by decide) (fun c6 => ?_) (fun c6 => ?_)
    · replace h := itn c6 h
      obtain rfl := Option.some.inj h
      exact mG.vret dX8_takeTurn_156 rfl ⟨rfl, rfl, rfl⟩
    · replace h := itp c6 h
      refine mG.aload_n 1 dX8_takeTurn_72 rfl ?_
      refine mG.iload_n 0 dX8_takeTurn_73 rfl ?_
      obtain ⟨q5, hq5, h⟩ := bdp h
      refine mG.callV0 (as := [.int (s0)]) (st := []) (S2 := q5.1) (r := some (.int (q5.2))) dX8_takeTurn_74 mvX8_knockAt wk28_14 rfl ht rfl (by decide) (Nat.le_of_ble_eq_true rfl) (c_X8_knockAt ht hq5) ?_
      refine mG.pop dX8_takeTurn_77 rfl ?_
      refine mG.goto 156 dX8_takeTurn_78 (by decide) ?_
      obtain rfl := Option.some.inj h
      exact mG.vret dX8_takeTurn_156 rfl ⟨rfl, rfl, rfl⟩
  replace h := itn c4 h
  by_cases c7 : (v2 - v2 / (6 : Int32) * (6 : Int32)) = (2 : Int32)
  · replace h := itp c7 h
    refine mG.tblIn (46) 81 dX8_takeTurn_35 (by rw [c7]; decide) (by rw [c7]; decide) (by rw [c7]; decide) (by decide) ?_
    refine mG.iload_n 3 dX8_takeTurn_81 rfl ?_
    refine mG.iconst (v := 4) dX8_takeTurn_82 rfl ?_
    refine mG.irem dX8_takeTurn_83 (by decide) ?_
    refine mG.if_ne 156 dX8_takeTurn_84 (by decide) (fun c11 => ?_) (fun c11 => ?_)
    · replace h := itn c11 h
      obtain rfl := Option.some.inj h
      exact mG.vret dX8_takeTurn_156 rfl ⟨rfl, rfl, rfl⟩
    · replace h := itp c11 h
      refine mG.aload_n 2 dX8_takeTurn_87 rfl ?_
      refine mG.iload_n 0 dX8_takeTurn_88 rfl ?_
      obtain ⟨q8, hq8, h⟩ := bdp h
      refine mG.callV0 (as := [.int (s0)]) (st := []) (S2 := S) (r := some (.int (bI (q8)))) dX8_takeTurn_89 mvX6_canDraw wk37_2 rfl kr1 rfl (by decide) (Nat.le_of_ble_eq_true rfl) (c_X6_canDraw kr1 hq8) ?_
      refine mG.ifz_eq (b := q8) 156 dX8_takeTurn_92 (by decide) (fun c10 => ?_) (fun c10 => ?_)
      · replace h := itn c10 h
        obtain rfl := Option.some.inj h
        exact mG.vret dX8_takeTurn_156 rfl ⟨rfl, rfl, rfl⟩
      · replace h := itp c10 h
        refine mG.aload_n 2 dX8_takeTurn_95 rfl ?_
        refine mG.iload_n 0 dX8_takeTurn_96 rfl ?_
        obtain ⟨q9, hq9, h⟩ := bdp h
        refine mG.callV0 (as := [.int (s0)]) (st := []) (S2 := q9.1) (r := some (.int (q9.2))) dX8_takeTurn_97 mvX6_drawDate wk37_6 rfl kr1 rfl (by decide) (Nat.le_of_ble_eq_true rfl) (c_X6_drawDate kr1 hq9) ?_
        refine mG.pop dX8_takeTurn_100 rfl ?_
        refine mG.goto 156 dX8_takeTurn_101 (by decide) ?_
        obtain rfl := Option.some.inj h
        exact mG.vret dX8_takeTurn_156 rfl ⟨rfl, rfl, rfl⟩
  replace h := itn c7 h
  by_cases c12 : (v2 - v2 / (6 : Int32) * (6 : Int32)) = (3 : Int32)
  · replace h := itp c12 h
    refine mG.tblIn (69) 104 dX8_takeTurn_35 (by rw [c12]; decide) (by rw [c12]; decide) (by rw [c12]; decide) (by decide) ?_
    refine mG.iload_n 3 dX8_takeTurn_104 rfl ?_
    refine mG.iconst (v := 3) dX8_takeTurn_105 rfl ?_
    refine mG.irem dX8_takeTurn_106 (by decide) ?_
    refine mG.if_ne 156 dX8_takeTurn_107 (by decide) (fun c16 => ?_) (fun c16 => ?_)
    · replace h := itn c16 h
      obtain rfl := Option.some.inj h
      exact mG.vret dX8_takeTurn_156 rfl ⟨rfl, rfl, rfl⟩
    · replace h := itp c16 h
      refine mG.aload_n 2 dX8_takeTurn_110 rfl ?_
      refine mG.iload_n 3 dX8_takeTurn_111 rfl ?_
      refine mG.bipush (v := 20) dX8_takeTurn_112 (by decide) ?_
      refine mG.irem dX8_takeTurn_114 (by decide) ?_
      refine mG.iload_n 0 dX8_takeTurn_115 rfl ?_
      obtain ⟨q13, hq13, h⟩ := bdp h
      refine mG.callV0 (as := [.int (v2 - v2 / (20 : Int32) * (20 : Int32)), .int (s0)]) (st := []) (S2 := S) (r := some (.int (bI (q13)))) dX8_takeTurn_116 mvX6_canForget wk38_15 rfl kr1 rfl (by decide) (Nat.le_of_ble_eq_true rfl) (c_X6_canForget kr1 hq13) ?_
      refine mG.ifz_eq (b := q13) 156 dX8_takeTurn_119 (by decide) (fun c15 => ?_) (fun c15 => ?_)
      · replace h := itn c15 h
        obtain rfl := Option.some.inj h
        exact mG.vret dX8_takeTurn_156 rfl ⟨rfl, rfl, rfl⟩
      · replace h := itp c15 h
        refine mG.aload_n 2 dX8_takeTurn_122 rfl ?_
        refine mG.iload_n 3 dX8_takeTurn_123 rfl ?_
        refine mG.bipush (v := 20) dX8_takeTurn_124 (by decide) ?_
        refine mG.irem dX8_takeTurn_126 (by decide) ?_
        refine mG.iload_n 0 dX8_takeTurn_127 rfl ?_
        obtain ⟨q14, hq14, h⟩ := bdp h
        refine mG.callV0 (as := [.int (v2 - v2 / (20 : Int32) * (20 : Int32)), .int (s0)]) (st := []) (S2 := q14) (r := none) dX8_takeTurn_128 mvX6_dropDate wk38_19 rfl kr1 rfl (by decide) (Nat.le_of_ble_eq_true rfl) (c_X6_dropDate kr1 hq14) ?_
        refine mG.goto 156 dX8_takeTurn_131 (by decide) ?_
        obtain rfl := Option.some.inj h
        exact mG.vret dX8_takeTurn_156 rfl ⟨rfl, rfl, rfl⟩
  replace h := itn c12 h
  refine mG.tblOut 134 dX8_takeTurn_35 (by have e0 : Int32.toInt (v2 - v2 / (6 : Int32) * (6 : Int32)) ≠ 0 := fun q => c1 (Int32.toInt_inj.mp (q.trans (by decide))); have e1 : Int32.toInt (v2 - v2 / (6 : Int32) * (6 : Int32)) ≠ 1 := fun q => c4 (Int32.toInt_inj.mp (q.trans (by decide))); have e2 : Int32.toInt (v2 - v2 / (6 : Int32) * (6 : Int32)) ≠ 2 := fun q => c7 (Int32.toInt_inj.mp (q.trans (by decide))); have e3 : Int32.toInt (v2 - v2 / (6 : Int32) * (6 : Int32)) ≠ 3 := fun q => c12 (Int32.toInt_inj.mp (q.trans (by decide))); omega) (by decide) ?_
  refine mG.aload_n 2 dX8_takeTurn_134 rfl ?_
  refine mG.get (v := .int (S.1 (t + 40 + 1) 7)) dX8_takeTurn_135 mfX8_166 kr1 rfl ?_
  refine mG.sipush (v := 9999) dX8_takeTurn_138 (by decide) ?_
  refine mG.icmp_ge 156 dX8_takeTurn_141 (by decide) (fun c19 => ?_) (fun c19 => ?_)
  · replace h := itp c19 h
    obtain rfl := Option.some.inj h
    exact mG.vret dX8_takeTurn_156 rfl ⟨rfl, rfl, rfl⟩
  · replace h := itn c19 h
    refine mG.aload_n 1 dX8_takeTurn_144 rfl ?_
    refine mG.get (v := .ref (t + 37)) dX8_takeTurn_145 mfX8_34 ht (lr8_laws ht) ?_
    refine mG.aload_n 1 dX8_takeTurn_148 rfl ?_
    obtain ⟨q17, hq17, h⟩ := bdp h
    refine mG.callV0 (as := []) (st := [.ref (t + 37)]) (S2 := S) (r := some (.ref (q17))) dX8_takeTurn_149 mvX8_rule wk30_12 rfl ht rfl (by decide) (Nat.le_of_ble_eq_true rfl) (c_X8_rule ht hq17) ?_
    refine mG.aload_n 2 dX8_takeTurn_152 rfl ?_
    obtain ⟨q18, hq18, h⟩ := bdp h
    refine mG.callV0 (as := [.ref (q17), .ref (t + 40 + 1)]) (st := []) (S2 := q18) (r := none) dX8_takeTurn_153 mvX3_passDay wk39_20 rfl (lk8_laws ht) rfl (by decide) (Nat.le_of_ble_eq_true rfl) (c_X3_passDay (lk8_laws ht) (rk_X8_rule ht hq17) kr1 hq18) ?_
    obtain rfl := Option.some.inj h
    exact mG.vret dX8_takeTurn_156 rfl ⟨rfl, rfl, rfl⟩
def f_X8_takeTurn (F : Nat) (S : mS) (t : Nat) : Option mS := bd (f_X6_drawX F S (t + 40 + 1)) fun q1 => if (q1.1.1 (t + 40 + 1) 5) ≤ 0 then (lX8_takeTurn_30 F  t q1.1 q1.2 (-1 : Int32)) else (ck (nz (q1.1.1 (t + 40 + 1) 5)) (lX8_takeTurn_30 F  t q1.1 q1.2 (q1.2 - q1.2 / (q1.1.1 (t + 40 + 1) 5) * (q1.1.1 (t + 40 + 1) 5))))
set_option maxHeartbeats 4000000 in
set_option maxRecDepth 100000 in
theorem c_X8_takeTurn {F : Nat} {S : mS} {t : Nat} {R : mS} (ht : kd0 t = 8) (h : f_X8_takeTurn F S t = some R) : mCt μX8_takeTurn 6 0 0 E0 S [.ref (t)] (mQe R none) := by
  unfold f_X8_takeTurn at h
  refine mCt.of (by decide) (Nat.le_of_ble_eq_true rfl) ?_
  intro x
  refine mG.aload_n 0 dX8_takeTurn_0 rfl ?_
  refine mG.get (v := .ref (t + 40)) dX8_takeTurn_1 mfX8_41 ht (lr8_now ht) ?_
  refine mG.get (v := .ref (t + 40 + 1)) dX8_takeTurn_4 mfX8_88 (lk8_now ht) (lr7_town (lk8_now ht)) ?_
  refine mG.astore_n (lv2 := [(1, .ref (t + 40 + 1)), (0, .ref (t))]) dX8_takeTurn_7 rfl (by decide) rfl ?_
  refine mG.aload_n 0 dX8_takeTurn_8 rfl ?_
  obtain ⟨q1, hq1, h⟩ := bdp h
  refine mG.callV0 (as := []) (st := []) (S2 := q1.1) (r := some (.int (q1.2))) dX8_takeTurn_9 mvX6_drawX wk43_14 rfl (lk7_town (lk8_now ht)) rfl (by decide) (Nat.le_of_ble_eq_true rfl) (c_X6_drawX (lk7_town (lk8_now ht)) hq1) ?_
  refine mG.istore_n (lv2 := [(2, .int (q1.2)), (1, .ref (t + 40 + 1)), (0, .ref (t))]) dX8_takeTurn_12 rfl (by decide) rfl ?_
  refine mG.aload_n 1 dX8_takeTurn_13 rfl ?_
  refine mG.get (v := .int (q1.1.1 (t + 40 + 1) 5)) dX8_takeTurn_14 mfX8_183 (lk7_town (lk8_now ht)) rfl ?_
  refine mG.if_le 29 dX8_takeTurn_17 (by decide) (fun c3 => ?_) (fun c3 => ?_)
  · replace h := itp c3 h
    refine mG.iconst (v := (-1)) dX8_takeTurn_29 rfl ?_
    refine mG.sub (lv2 := [(0, .ref (t)), (1, .ref (t + 40 + 1)), (2, .int (q1.2))]) [2, 1, 0] rfl ?_
    exact gX8_takeTurn_30 ht   q1.1 q1.2 (-1 : Int32) (lk7_town (lk8_now ht)) h
  · replace h := itn c3 h
    refine mG.iload_n 0 dX8_takeTurn_20 rfl ?_
    refine mG.aload_n 1 dX8_takeTurn_21 rfl ?_
    refine mG.get (v := .int (q1.1.1 (t + 40 + 1) 5)) dX8_takeTurn_22 mfX8_183 (lk7_town (lk8_now ht)) rfl ?_
    obtain ⟨b2, h⟩ := ckp h
    refine mG.irem dX8_takeTurn_25 (nzp b2) ?_
    refine mG.goto 30 dX8_takeTurn_26 (by decide) ?_
    refine mG.sub (lv2 := [(0, .ref (t)), (1, .ref (t + 40 + 1)), (2, .int (q1.2))]) [2, 1, 0] rfl ?_
    exact gX8_takeTurn_30 ht   q1.1 q1.2 (q1.2 - q1.2 / (q1.1.1 (t + 40 + 1) 5) * (q1.1.1 (t + 40 + 1) 5)) (lk7_town (lk8_now ht)) h
theorem dX8_years_0 : decode cX8_years 0 = .ok (.iload_n 1, 1) := by decide +kernel
theorem dX8_years_1 : decode cX8_years 1 = .ok (.iconst 0, 1) := by decide +kernel
theorem dX8_years_2 : decode cX8_years 2 = .ok (.sipush 9999, 3) := by decide +kernel
theorem dX8_years_5 : decode cX8_years 5 = .ok (.invokestatic 84, 3) := by decide +kernel
theorem dX8_years_8 : decode cX8_years 8 = .ok (.ifCond .eq 26, 3) := by decide +kernel
theorem dX8_years_11 : decode cX8_years 11 = .ok (.iload_n 2, 1) := by decide +kernel
theorem dX8_years_12 : decode cX8_years 12 = .ok (.iconst 1, 1) := by decide +kernel
theorem dX8_years_13 : decode cX8_years 13 = .ok (.bipush 40, 2) := by decide +kernel
theorem dX8_years_15 : decode cX8_years 15 = .ok (.invokestatic 84, 3) := by decide +kernel
theorem dX8_years_18 : decode cX8_years 18 = .ok (.ifCond .eq 16, 3) := by decide +kernel
theorem dX8_years_21 : decode cX8_years 21 = .ok (.aload_n 0, 1) := by decide +kernel
theorem dX8_years_22 : decode cX8_years 22 = .ok (.getfield 41, 3) := by decide +kernel
theorem dX8_years_25 : decode cX8_years 25 = .ok (.getfield 88, 3) := by decide +kernel
theorem dX8_years_28 : decode cX8_years 28 = .ok (.getfield 183, 3) := by decide +kernel
theorem dX8_years_31 : decode cX8_years 31 = .ok (.ifCond .ne 5, 3) := by decide +kernel
theorem dX8_years_34 : decode cX8_years 34 = .ok (.iconst (-1), 1) := by decide +kernel
theorem dX8_years_35 : decode cX8_years 35 = .ok (.ireturn, 1) := by decide +kernel
theorem dX8_years_36 : decode cX8_years 36 = .ok (.aload_n 0, 1) := by decide +kernel
theorem dX8_years_37 : decode cX8_years 37 = .ok (.getfield 41, 3) := by decide +kernel
theorem dX8_years_40 : decode cX8_years 40 = .ok (.invokevirtual 139, 3) := by decide +kernel
theorem dX8_years_43 : decode cX8_years 43 = .ok (.aload_n 0, 1) := by decide +kernel
theorem dX8_years_44 : decode cX8_years 44 = .ok (.getfield 41, 3) := by decide +kernel
theorem dX8_years_47 : decode cX8_years 47 = .ok (.getfield 88, 3) := by decide +kernel
theorem dX8_years_50 : decode cX8_years 50 = .ok (.iload_n 1, 1) := by decide +kernel
theorem dX8_years_51 : decode cX8_years 51 = .ok (.iconst 2, 1) := by decide +kernel
theorem dX8_years_52 : decode cX8_years 52 = .ok (.imul, 1) := by decide +kernel
theorem dX8_years_53 : decode cX8_years 53 = .ok (.sipush 131, 3) := by decide +kernel
theorem dX8_years_56 : decode cX8_years 56 = .ok (.iadd, 1) := by decide +kernel
theorem dX8_years_57 : decode cX8_years 57 = .ok (.putfield 186, 3) := by decide +kernel
theorem dX8_years_60 : decode cX8_years 60 = .ok (.iconst 0, 1) := by decide +kernel
theorem dX8_years_61 : decode cX8_years 61 = .ok (.istore_n 3, 1) := by decide +kernel
theorem dX8_years_62 : decode cX8_years 62 = .ok (.iload_n 3, 1) := by decide +kernel
theorem dX8_years_63 : decode cX8_years 63 = .ok (.iload_n 2, 1) := by decide +kernel
theorem dX8_years_64 : decode cX8_years 64 = .ok (.if_icmp .ge 13, 3) := by decide +kernel
theorem dX8_years_67 : decode cX8_years 67 = .ok (.aload_n 0, 1) := by decide +kernel
theorem dX8_years_68 : decode cX8_years 68 = .ok (.invokevirtual 189, 3) := by decide +kernel
theorem dX8_years_71 : decode cX8_years 71 = .ok (.iinc 3 1, 3) := by decide +kernel
theorem dX8_years_74 : decode cX8_years 74 = .ok (.goto (-12), 3) := by decide +kernel
theorem dX8_years_77 : decode cX8_years 77 = .ok (.aload_n 0, 1) := by decide +kernel
theorem dX8_years_78 : decode cX8_years 78 = .ok (.getfield 41, 3) := by decide +kernel
theorem dX8_years_81 : decode cX8_years 81 = .ok (.getfield 88, 3) := by decide +kernel
theorem dX8_years_84 : decode cX8_years 84 = .ok (.getfield 166, 3) := by decide +kernel
theorem dX8_years_87 : decode cX8_years 87 = .ok (.ireturn, 1) := by decide +kernel
def lX8_years_62 (F : Nat)  (t : Nat) (a1 : Int32) (a2 : Int32) : Nat → mS → Int32 → Option (mS × Int32)
  | 0, _, _ => none
  | n + 1, S, v3 => if a2 ≤ v3 then (some (S, S.1 (t + 40 + 1) 7)) else (bd (f_X8_takeTurn F S t) fun q1 => lX8_years_62 F  t a1 a2 n q1 (v3 + 1))
set_option maxHeartbeats 4000000 in
set_option maxRecDepth 100000 in
theorem gX8_years_62 {x : mX} {F : Nat} {t : Nat} {a1 : Int32} {a2 : Int32}   {R : mS × Int32} (ht : kd0 t = 8)  : ∀ (n : Nat) (S : mS) (v3 : Int32), lX8_years_62 F  t a1 a2 n S v3 = some R → mG x μX8_years 7 0 0 (mQe R.1 (some (.int R.2))) 0 0 E0 S 62 [(0, .ref (t)), (2, .int (a2)), (3, .int (v3))] [] := by
  intro n
  induction n with
  | zero =>
    intro S v3 h
    cases h
  | succ n ih =>
    intro S v3 h
    unfold lX8_years_62 at h
    refine mG.iload_n 2 dX8_years_62 rfl ?_
    refine mG.iload_n 1 dX8_years_63 rfl ?_
    refine mG.icmp_ge 77 dX8_years_64 (by decide) (fun c2 => ?_) (fun c2 => ?_)
    · replace h := itp c2 h
      refine mG.aload_n 0 dX8_years_77 rfl ?_
      refine mG.get (v := .ref (t + 40)) dX8_years_78 mfX8_41 ht (lr8_now ht) ?_
      refine mG.get (v := .ref (t + 40 + 1)) dX8_years_81 mfX8_88 (lk8_now ht) (lr7_town (lk8_now ht)) ?_
      refine mG.get (v := .int (S.1 (t + 40 + 1) 7)) dX8_years_84 mfX8_166 (lk7_town (lk8_now ht)) rfl ?_
      obtain rfl := Option.some.inj h
      exact mG.iret dX8_years_87 rfl ⟨rfl, rfl, rfl⟩
    · replace h := itn c2 h
      refine mG.aload_n 0 dX8_years_67 rfl ?_
      obtain ⟨q1, hq1, h⟩ := bdp h
      refine mG.callV0 (as := []) (st := []) (S2 := q1) (r := none) dX8_years_68 mvX8_takeTurn wk43_10 rfl ht rfl (by decide) (Nat.le_of_ble_eq_true rfl) (c_X8_takeTurn ht hq1) ?_
      refine mG.iinc 2 (u := v3 + 1) (lv2 := [(3, .int (v3 + 1)), (0, .ref (t)), (2, .int (a2))]) dX8_years_71 rfl rfl (by decide) rfl ?_
      refine mG.goto 62 dX8_years_74 (by decide) ?_
      refine mG.sub (lv2 := [(0, .ref (t)), (2, .int (a2)), (3, .int (v3 + 1))]) [1, 2, 0] rfl ?_
      exact ih q1 (v3 + 1)  h
def f_X8_years (F : Nat) (S : mS) (t : Nat) (a1 : Int32) (a2 : Int32) : Option (mS × Int32) := if (f_X8_isWithin S a1 (0 : Int32) (9999 : Int32)) = true then (if (f_X8_isWithin S a2 (1 : Int32) (40 : Int32)) = true then (if (S.1 (t + 40 + 1) 5) = 0 then (some (S, (-1 : Int32))) else (bd (f_X7_keepStep F S (t + 40)) fun q1 => stp (sI q1 (t + 40 + 1) 8 ((a1 * (2 : Int32)) + (131 : Int32))) fun S2 => lX8_years_62 F  t a1 a2 F S2 (0 : Int32))) else (some (S, (-1 : Int32)))) else (some (S, (-1 : Int32)))
set_option maxHeartbeats 4000000 in
set_option maxRecDepth 100000 in
theorem c_X8_years {F : Nat} {S : mS} {t : Nat} {a1 : Int32} {a2 : Int32} {R : mS × Int32} (ht : kd0 t = 8) (h : f_X8_years F S t a1 a2 = some R) : mCt μX8_years 7 0 0 E0 S [.ref (t), .int (a1), .int (a2)] (mQe R.1 (some (.int R.2))) := by
  unfold f_X8_years at h
  refine mCt.of (by decide) (Nat.le_of_ble_eq_true rfl) ?_
  intro x
  refine mG.iload_n 1 dX8_years_0 rfl ?_
  refine mG.iconst (v := 0) dX8_years_1 rfl ?_
  refine mG.sipush (v := 9999) dX8_years_2 (by decide) ?_
  refine mG.callS0 (as := [.int (a1), .int 0, .int 9999]) (st := []) (S2 := S) (r := some (.int (bI (f_X8_isWithin S a1 (0 : Int32) (9999 : Int32))))) dX8_years_5 mbX8_isWithin wk6_19 wk6_18 rfl rfl (by decide) (Nat.le_of_ble_eq_true rfl) (c_X8_isWithin  rfl) ?_
  refine mG.ifz_eq (b := f_X8_isWithin S a1 (0 : Int32) (9999 : Int32)) 34 dX8_years_8 (by decide) (fun c5 => ?_) (fun c5 => ?_)
  · replace h := itn c5 h
    refine mG.iconst (v := (-1)) dX8_years_34 rfl ?_
    obtain rfl := Option.some.inj h
    exact mG.iret dX8_years_35 rfl ⟨rfl, rfl, rfl⟩
  · replace h := itp c5 h
    refine mG.iload_n 2 dX8_years_11 rfl ?_
    refine mG.iconst (v := 1) dX8_years_12 rfl ?_
    refine mG.bipush (v := 40) dX8_years_13 (by decide) ?_
    refine mG.callS0 (as := [.int (a2), .int 1, .int 40]) (st := []) (S2 := S) (r := some (.int (bI (f_X8_isWithin S a2 (1 : Int32) (40 : Int32))))) dX8_years_15 mbX8_isWithin wk6_19 wk6_18 rfl rfl (by decide) (Nat.le_of_ble_eq_true rfl) (c_X8_isWithin  rfl) ?_
    refine mG.ifz_eq (b := f_X8_isWithin S a2 (1 : Int32) (40 : Int32)) 34 dX8_years_18 (by decide) (fun c4 => ?_) (fun c4 => ?_)
    · replace h := itn c4 h
      refine mG.iconst (v := (-1)) dX8_years_34 rfl ?_
      obtain rfl := Option.some.inj h
      exact mG.iret dX8_years_35 rfl ⟨rfl, rfl, rfl⟩
    · replace h := itp c4 h
      refine mG.aload_n 0 dX8_years_21 rfl ?_
      refine mG.get (v := .ref (t + 40)) dX8_years_22 mfX8_41 ht (lr8_now ht) ?_
      refine mG.get (v := .ref (t + 40 + 1)) dX8_years_25 mfX8_88 (lk8_now ht) (lr7_town (lk8_now ht)) ?_
      refine mG.get (v := .int (S.1 (t + 40 + 1) 5)) dX8_years_28 mfX8_183 (lk7_town (lk8_now ht)) rfl ?_
      refine mG.if_ne 36 dX8_years_31 (by decide) (fun c3 => ?_) (fun c3 => ?_)
      · replace h := itn c3 h
        refine mG.aload_n 0 dX8_years_36 rfl ?_
        refine mG.get (v := .ref (t + 40)) dX8_years_37 mfX8_41 ht (lr8_now ht) ?_
        obtain ⟨q1, hq1, h⟩ := bdp h
        refine mG.callV0 (as := []) (st := []) (S2 := q1) (r := none) dX8_years_40 mvX7_keepStep wk27_20 rfl (lk8_now ht) rfl (by decide) (Nat.le_of_ble_eq_true rfl) (c_X7_keepStep (lk8_now ht) hq1) ?_
        refine mG.aload_n 0 dX8_years_43 rfl ?_
        refine mG.get (v := .ref (t + 40)) dX8_years_44 mfX8_41 ht (lr8_now ht) ?_
        refine mG.get (v := .ref (t + 40 + 1)) dX8_years_47 mfX8_88 (lk8_now ht) (lr7_town (lk8_now ht)) ?_
        refine mG.iload_n 1 dX8_years_50 rfl ?_
        refine mG.iconst (v := 2) dX8_years_51 rfl ?_
        refine mG.imul dX8_years_52 ?_
        refine mG.sipush (v := 131) dX8_years_53 (by decide) ?_
        refine mG.iadd dX8_years_56 ?_
        obtain ⟨S2, hS2, h⟩ := stpp h
        refine mG.putI dX8_years_57 mfX8_186 rfl (Or.inl rfl) (lk7_town (lk8_now ht)) hS2 ?_
        refine mG.iconst (v := 0) dX8_years_60 rfl ?_
        refine mG.istore_n (lv2 := [(3, .int 0), (0, .ref (t)), (1, .int (a1)), (2, .int (a2))]) dX8_years_61 rfl (by decide) rfl ?_
        refine mG.sub (lv2 := [(0, .ref (t)), (2, .int (a2)), (3, .int 0)]) [1, 3, 0] rfl ?_
        exact gX8_years_62 ht  F S2 (0 : Int32)  h
      · replace h := itp c3 h
        refine mG.iconst (v := (-1)) dX8_years_34 rfl ?_
        obtain rfl := Option.some.inj h
        exact mG.iret dX8_years_35 rfl ⟨rfl, rfl, rfl⟩
theorem dX8_undo_0 : decode cX8_undo 0 = .ok (.aload_n 0, 1) := by decide +kernel
theorem dX8_undo_1 : decode cX8_undo 1 = .ok (.getfield 41, 3) := by decide +kernel
theorem dX8_undo_4 : decode cX8_undo 4 = .ok (.invokevirtual 192, 3) := by decide +kernel
theorem dX8_undo_7 : decode cX8_undo 7 = .ok (.ireturn, 1) := by decide +kernel
def f_X8_undo (F : Nat) (S : mS) (t : Nat) : Option (mS × Int32) := bd (f_X7_takeStepBack F S (t + 40)) fun q1 => some (q1.1, q1.2)
set_option maxHeartbeats 4000000 in
set_option maxRecDepth 100000 in
theorem c_X8_undo {F : Nat} {S : mS} {t : Nat} {R : mS × Int32} (ht : kd0 t = 8) (h : f_X8_undo F S t = some R) : mCt μX8_undo 3 0 0 E0 S [.ref (t)] (mQe R.1 (some (.int R.2))) := by
  unfold f_X8_undo at h
  refine mCt.of (by decide) (Nat.le_of_ble_eq_true rfl) ?_
  intro x
  refine mG.aload_n 0 dX8_undo_0 rfl ?_
  refine mG.get (v := .ref (t + 40)) dX8_undo_1 mfX8_41 ht (lr8_now ht) ?_
  obtain ⟨q1, hq1, h⟩ := bdp h
  refine mG.callV0 (as := []) (st := []) (S2 := q1.1) (r := some (.int (q1.2))) dX8_undo_4 mvX7_takeStepBack wk44_3 rfl (lk8_now ht) rfl (by decide) (Nat.le_of_ble_eq_true rfl) (c_X7_takeStepBack (lk8_now ht) hq1) ?_
  obtain rfl := Option.some.inj h
  exact mG.iret dX8_undo_7 rfl ⟨rfl, rfl, rfl⟩
theorem dX8_underTheLaw_0 : decode cX8_underTheLaw 0 = .ok (.aload_n 0, 1) := by decide +kernel
theorem dX8_underTheLaw_1 : decode cX8_underTheLaw 1 = .ok (.getfield 41, 3) := by decide +kernel
theorem dX8_underTheLaw_4 : decode cX8_underTheLaw 4 = .ok (.getfield 88, 3) := by decide +kernel
theorem dX8_underTheLaw_7 : decode cX8_underTheLaw 7 = .ok (.astore_n 3, 1) := by decide +kernel
theorem dX8_underTheLaw_8 : decode cX8_underTheLaw 8 = .ok (.aload_n 0, 1) := by decide +kernel
theorem dX8_underTheLaw_9 : decode cX8_underTheLaw 9 = .ok (.getfield 34, 3) := by decide +kernel
theorem dX8_underTheLaw_12 : decode cX8_underTheLaw 12 = .ok (.aload_n 3, 1) := by decide +kernel
theorem dX8_underTheLaw_13 : decode cX8_underTheLaw 13 = .ok (.aload_n 3, 1) := by decide +kernel
theorem dX8_underTheLaw_14 : decode cX8_underTheLaw 14 = .ok (.getfield 166, 3) := by decide +kernel
theorem dX8_underTheLaw_17 : decode cX8_underTheLaw 17 = .ok (.invokevirtual 351, 3) := by decide +kernel
theorem dX8_underTheLaw_20 : decode cX8_underTheLaw 20 = .ok (.iload_n 2, 1) := by decide +kernel
theorem dX8_underTheLaw_21 : decode cX8_underTheLaw 21 = .ok (.tableswitch 90 5 8 #[31, 45, 59, 81], 31) := by decide +kernel
theorem dX8_underTheLaw_52 : decode cX8_underTheLaw 52 = .ok (.aload_n 0, 1) := by decide +kernel
theorem dX8_underTheLaw_53 : decode cX8_underTheLaw 53 = .ok (.getfield 34, 3) := by decide +kernel
theorem dX8_underTheLaw_56 : decode cX8_underTheLaw 56 = .ok (.aload_n 0, 1) := by decide +kernel
theorem dX8_underTheLaw_57 : decode cX8_underTheLaw 57 = .ok (.invokevirtual 236, 3) := by decide +kernel
theorem dX8_underTheLaw_60 : decode cX8_underTheLaw 60 = .ok (.aload_n 3, 1) := by decide +kernel
theorem dX8_underTheLaw_61 : decode cX8_underTheLaw 61 = .ok (.iload_n 1, 1) := by decide +kernel
theorem dX8_underTheLaw_62 : decode cX8_underTheLaw 62 = .ok (.invokevirtual 353, 3) := by decide +kernel
theorem dX8_underTheLaw_65 : decode cX8_underTheLaw 65 = .ok (.ireturn, 1) := by decide +kernel
theorem dX8_underTheLaw_66 : decode cX8_underTheLaw 66 = .ok (.aload_n 0, 1) := by decide +kernel
theorem dX8_underTheLaw_67 : decode cX8_underTheLaw 67 = .ok (.getfield 34, 3) := by decide +kernel
theorem dX8_underTheLaw_70 : decode cX8_underTheLaw 70 = .ok (.aload_n 0, 1) := by decide +kernel
theorem dX8_underTheLaw_71 : decode cX8_underTheLaw 71 = .ok (.invokevirtual 236, 3) := by decide +kernel
theorem dX8_underTheLaw_74 : decode cX8_underTheLaw 74 = .ok (.aload_n 3, 1) := by decide +kernel
theorem dX8_underTheLaw_75 : decode cX8_underTheLaw 75 = .ok (.iload_n 1, 1) := by decide +kernel
theorem dX8_underTheLaw_76 : decode cX8_underTheLaw 76 = .ok (.invokevirtual 357, 3) := by decide +kernel
theorem dX8_underTheLaw_79 : decode cX8_underTheLaw 79 = .ok (.ireturn, 1) := by decide +kernel
theorem dX8_underTheLaw_80 : decode cX8_underTheLaw 80 = .ok (.aload_n 0, 1) := by decide +kernel
theorem dX8_underTheLaw_81 : decode cX8_underTheLaw 81 = .ok (.getfield 34, 3) := by decide +kernel
theorem dX8_underTheLaw_84 : decode cX8_underTheLaw 84 = .ok (.aload_n 0, 1) := by decide +kernel
theorem dX8_underTheLaw_85 : decode cX8_underTheLaw 85 = .ok (.invokevirtual 236, 3) := by decide +kernel
theorem dX8_underTheLaw_88 : decode cX8_underTheLaw 88 = .ok (.aload_n 3, 1) := by decide +kernel
theorem dX8_underTheLaw_89 : decode cX8_underTheLaw 89 = .ok (.iload_n 1, 1) := by decide +kernel
theorem dX8_underTheLaw_90 : decode cX8_underTheLaw 90 = .ok (.invokevirtual 360, 3) := by decide +kernel
theorem dX8_underTheLaw_93 : decode cX8_underTheLaw 93 = .ok (.ifCond .eq 7, 3) := by decide +kernel
theorem dX8_underTheLaw_96 : decode cX8_underTheLaw 96 = .ok (.iconst 1, 1) := by decide +kernel
theorem dX8_underTheLaw_97 : decode cX8_underTheLaw 97 = .ok (.goto 4, 3) := by decide +kernel
theorem dX8_underTheLaw_100 : decode cX8_underTheLaw 100 = .ok (.iconst 0, 1) := by decide +kernel
theorem dX8_underTheLaw_101 : decode cX8_underTheLaw 101 = .ok (.ireturn, 1) := by decide +kernel
theorem dX8_underTheLaw_102 : decode cX8_underTheLaw 102 = .ok (.aload_n 0, 1) := by decide +kernel
theorem dX8_underTheLaw_103 : decode cX8_underTheLaw 103 = .ok (.getfield 34, 3) := by decide +kernel
theorem dX8_underTheLaw_106 : decode cX8_underTheLaw 106 = .ok (.iload_n 1, 1) := by decide +kernel
theorem dX8_underTheLaw_107 : decode cX8_underTheLaw 107 = .ok (.invokevirtual 364, 3) := by decide +kernel
theorem dX8_underTheLaw_110 : decode cX8_underTheLaw 110 = .ok (.ireturn, 1) := by decide +kernel
theorem dX8_underTheLaw_111 : decode cX8_underTheLaw 111 = .ok (.iconst (-1), 1) := by decide +kernel
theorem dX8_underTheLaw_112 : decode cX8_underTheLaw 112 = .ok (.ireturn, 1) := by decide +kernel
def f_X8_underTheLaw (F : Nat) (S : mS) (t : Nat) (a1 : Int32) (a2 : Int32) : Option (mS × Int32) := bd (f_X3_lookAt F S (t + 37) (t + 40 + 1) (S.1 (t + 40 + 1) 7)) fun q1 => if a2 = (5 : Int32) then (bd (f_X8_rule F q1 t) fun q3 => bd (f_X3_earnedBy F q1 (t + 37) q3 (t + 40 + 1) a1) fun q4 => some (q4.1, q4.2)) else (if a2 = (6 : Int32) then (bd (f_X8_rule F q1 t) fun q6 => bd (f_X3_lostBy F q1 (t + 37) q6 (t + 40 + 1) a1) fun q7 => some (q7.1, q7.2)) else (if a2 = (7 : Int32) then (bd (f_X8_rule F q1 t) fun q9 => bd (f_X3_letsIn F q1 (t + 37) q9 (t + 40 + 1) a1) fun q10 => if q10.2 = true then (some (q10.1, (1 : Int32))) else (some (q10.1, (0 : Int32)))) else (if a2 = (8 : Int32) then (some (q1, f_X3_openBeside q1 (t + 37) a1)) else (some (q1, (-1 : Int32))))))
set_option maxHeartbeats 4000000 in
set_option maxRecDepth 100000 in
theorem c_X8_underTheLaw {F : Nat} {S : mS} {t : Nat} {a1 : Int32} {a2 : Int32} {R : mS × Int32} (ht : kd0 t = 8) (h : f_X8_underTheLaw F S t a1 a2 = some R) : mCt μX8_underTheLaw 5 0 0 E0 S [.ref (t), .int (a1), .int (a2)] (mQe R.1 (some (.int R.2))) := by
  unfold f_X8_underTheLaw at h
  refine mCt.of (by decide) (Nat.le_of_ble_eq_true rfl) ?_
  intro x
  refine mG.aload_n 0 dX8_underTheLaw_0 rfl ?_
  refine mG.get (v := .ref (t + 40)) dX8_underTheLaw_1 mfX8_41 ht (lr8_now ht) ?_
  refine mG.get (v := .ref (t + 40 + 1)) dX8_underTheLaw_4 mfX8_88 (lk8_now ht) (lr7_town (lk8_now ht)) ?_
  refine mG.astore_n (lv2 := [(3, .ref (t + 40 + 1)), (0, .ref (t)), (1, .int (a1)), (2, .int (a2))]) dX8_underTheLaw_7 rfl (by decide) rfl ?_
  refine mG.aload_n 1 dX8_underTheLaw_8 rfl ?_
  refine mG.get (v := .ref (t + 37)) dX8_underTheLaw_9 mfX8_34 ht (lr8_laws ht) ?_
  refine mG.aload_n 0 dX8_underTheLaw_12 rfl ?_
  refine mG.aload_n 0 dX8_underTheLaw_13 rfl ?_
  refine mG.get (v := .int (S.1 (t + 40 + 1) 7)) dX8_underTheLaw_14 mfX8_166 (lk7_town (lk8_now ht)) rfl ?_
  obtain ⟨q1, hq1, h⟩ := bdp h
  refine mG.callV0 (as := [.ref (t + 40 + 1), .int (S.1 (t + 40 + 1) 7)]) (st := []) (S2 := q1) (r := none) dX8_underTheLaw_17 mvX3_lookAt wk29_12 rfl (lk8_laws ht) rfl (by decide) (Nat.le_of_ble_eq_true rfl) (c_X3_lookAt (lk8_laws ht) (lk7_town (lk8_now ht)) hq1) ?_
  refine mG.iload_n 3 dX8_underTheLaw_20 rfl ?_
  by_cases c2 : a2 = (5 : Int32)
  · replace h := itp c2 h
    refine mG.tblIn (31) 52 dX8_underTheLaw_21 (by rw [c2]; decide) (by rw [c2]; decide) (by rw [c2]; decide) (by decide) ?_
    refine mG.aload_n 1 dX8_underTheLaw_52 rfl ?_
    refine mG.get (v := .ref (t + 37)) dX8_underTheLaw_53 mfX8_34 ht (lr8_laws ht) ?_
    refine mG.aload_n 1 dX8_underTheLaw_56 rfl ?_
    obtain ⟨q3, hq3, h⟩ := bdp h
    refine mG.callV0 (as := []) (st := [.ref (t + 37)]) (S2 := q1) (r := some (.ref (q3))) dX8_underTheLaw_57 mvX8_rule wk30_12 rfl ht rfl (by decide) (Nat.le_of_ble_eq_true rfl) (c_X8_rule ht hq3) ?_
    refine mG.aload_n 0 dX8_underTheLaw_60 rfl ?_
    refine mG.iload_n 2 dX8_underTheLaw_61 rfl ?_
    obtain ⟨q4, hq4, h⟩ := bdp h
    refine mG.callV0 (as := [.ref (q3), .ref (t + 40 + 1), .int (a1)]) (st := []) (S2 := q4.1) (r := some (.int (q4.2))) dX8_underTheLaw_62 mvX3_earnedBy wk45_1 rfl (lk8_laws ht) rfl (by decide) (Nat.le_of_ble_eq_true rfl) (c_X3_earnedBy (lk8_laws ht) (rk_X8_rule ht hq3) (lk7_town (lk8_now ht)) hq4) ?_
    obtain rfl := Option.some.inj h
    exact mG.iret dX8_underTheLaw_65 rfl ⟨rfl, rfl, rfl⟩
  replace h := itn c2 h
  by_cases c5 : a2 = (6 : Int32)
  · replace h := itp c5 h
    refine mG.tblIn (45) 66 dX8_underTheLaw_21 (by rw [c5]; decide) (by rw [c5]; decide) (by rw [c5]; decide) (by decide) ?_
    refine mG.aload_n 1 dX8_underTheLaw_66 rfl ?_
    refine mG.get (v := .ref (t + 37)) dX8_underTheLaw_67 mfX8_34 ht (lr8_laws ht) ?_
    refine mG.aload_n 1 dX8_underTheLaw_70 rfl ?_
    obtain ⟨q6, hq6, h⟩ := bdp h
    refine mG.callV0 (as := []) (st := [.ref (t + 37)]) (S2 := q1) (r := some (.ref (q6))) dX8_underTheLaw_71 mvX8_rule wk30_12 rfl ht rfl (by decide) (Nat.le_of_ble_eq_true rfl) (c_X8_rule ht hq6) ?_
    refine mG.aload_n 0 dX8_underTheLaw_74 rfl ?_
    refine mG.iload_n 2 dX8_underTheLaw_75 rfl ?_
    obtain ⟨q7, hq7, h⟩ := bdp h
    refine mG.callV0 (as := [.ref (q6), .ref (t + 40 + 1), .int (a1)]) (st := []) (S2 := q7.1) (r := some (.int (q7.2))) dX8_underTheLaw_76 mvX3_lostBy wk45_2 rfl (lk8_laws ht) rfl (by decide) (Nat.le_of_ble_eq_true rfl) (c_X3_lostBy (lk8_laws ht) (rk_X8_rule ht hq6) (lk7_town (lk8_now ht)) hq7) ?_
    obtain rfl := Option.some.inj h
    exact mG.iret dX8_underTheLaw_79 rfl ⟨rfl, rfl, rfl⟩
  replace h := itn c5 h
  by_cases c8 : a2 = (7 : Int32)
  · replace h := itp c8 h
    refine mG.tblIn (59) 80 dX8_underTheLaw_21 (by rw [c8]; decide) (by rw [c8]; decide) (by rw [c8]; decide) (by decide) ?_
    refine mG.aload_n 1 dX8_underTheLaw_80 rfl ?_
    refine mG.get (v := .ref (t + 37)) dX8_underTheLaw_81 mfX8_34 ht (lr8_laws ht) ?_
    refine mG.aload_n 1 dX8_underTheLaw_84 rfl ?_
    obtain ⟨q9, hq9, h⟩ := bdp h
    refine mG.callV0 (as := []) (st := [.ref (t + 37)]) (S2 := q1) (r := some (.ref (q9))) dX8_underTheLaw_85 mvX8_rule wk30_12 rfl ht rfl (by decide) (Nat.le_of_ble_eq_true rfl) (c_X8_rule ht hq9) ?_
    refine mG.aload_n 0 dX8_underTheLaw_88 rfl ?_
    refine mG.iload_n 2 dX8_underTheLaw_89 rfl ?_
    obtain ⟨q10, hq10, h⟩ := bdp h
    refine mG.callV0 (as := [.ref (q9), .ref (t + 40 + 1), .int (a1)]) (st := []) (S2 := q10.1) (r := some (.int (bI (q10.2)))) dX8_underTheLaw_90 mvX3_letsIn wk30_16 rfl (lk8_laws ht) rfl (by decide) (Nat.le_of_ble_eq_true rfl) (c_X3_letsIn (lk8_laws ht) (rk_X8_rule ht hq9) (lk7_town (lk8_now ht)) hq10) ?_
    refine mG.ifz_eq (b := q10.2) 100 dX8_underTheLaw_93 (by decide) (fun c11 => ?_) (fun c11 => ?_)
    · replace h := itn c11 h
      refine mG.iconst (v := 0) dX8_underTheLaw_100 rfl ?_
      obtain rfl := Option.some.inj h
      exact mG.iret dX8_underTheLaw_101 rfl ⟨rfl, rfl, rfl⟩
    · replace h := itp c11 h
      refine mG.iconst (v := 1) dX8_underTheLaw_96 rfl ?_
      refine mG.goto 101 dX8_underTheLaw_97 (by decide) ?_
      obtain rfl := Option.some.inj h
      exact mG.iret dX8_underTheLaw_101 rfl ⟨rfl, rfl, rfl⟩
  replace h := itn c8 h
  by_cases c12 : a2 = (8 : Int32)
  · replace h := itp c12 h
    refine mG.tblIn (81) 102 dX8_underTheLaw_21 (by rw [c12]; decide) (by rw [c12]; decide) (by rw [c12]; decide) (by decide) ?_
    refine mG.aload_n 1 dX8_underTheLaw_102 rfl ?_
    refine mG.get (v := .ref (t + 37)) dX8_underTheLaw_103 mfX8_34 ht (lr8_laws ht) ?_
    refine mG.iload_n 2 dX8_underTheLaw_106 rfl ?_
    refine mG.callV0 (as := [.int (a1)]) (st := []) (S2 := q1) (r := some (.int (f_X3_openBeside q1 (t + 37) a1))) dX8_underTheLaw_107 mvX3_openBeside wk45_3 rfl (lk8_laws ht) rfl (by decide) (Nat.le_of_ble_eq_true rfl) (c_X3_openBeside (lk8_laws ht) rfl) ?_
    obtain rfl := Option.some.inj h
    exact mG.iret dX8_underTheLaw_110 rfl ⟨rfl, rfl, rfl⟩
  replace h := itn c12 h
  refine mG.tblOut 111 dX8_underTheLaw_21 (by have e0 : Int32.toInt a2 ≠ 5 := fun q => c2 (Int32.toInt_inj.mp (q.trans (by decide))); have e1 : Int32.toInt a2 ≠ 6 := fun q => c5 (Int32.toInt_inj.mp (q.trans (by decide))); have e2 : Int32.toInt a2 ≠ 7 := fun q => c8 (Int32.toInt_inj.mp (q.trans (by decide))); have e3 : Int32.toInt a2 ≠ 8 := fun q => c12 (Int32.toInt_inj.mp (q.trans (by decide))); omega) (by decide) ?_
  refine mG.iconst (v := (-1)) dX8_underTheLaw_111 rfl ?_
  obtain rfl := Option.some.inj h
  exact mG.iret dX8_underTheLaw_112 rfl ⟨rfl, rfl, rfl⟩
theorem dX8_of_0 : decode cX8_of 0 = .ok (.aload_n 0, 1) := by decide +kernel
theorem dX8_of_1 : decode cX8_of 1 = .ok (.getfield 41, 3) := by decide +kernel
theorem dX8_of_4 : decode cX8_of 4 = .ok (.getfield 88, 3) := by decide +kernel
theorem dX8_of_7 : decode cX8_of 7 = .ok (.astore_n 3, 1) := by decide +kernel
theorem dX8_of_8 : decode cX8_of 8 = .ok (.aload_n 3, 1) := by decide +kernel
theorem dX8_of_9 : decode cX8_of 9 = .ok (.iload_n 1, 1) := by decide +kernel
theorem dX8_of_10 : decode cX8_of 10 = .ok (.invokevirtual 195, 3) := by decide +kernel
theorem dX8_of_13 : decode cX8_of 13 = .ok (.ifCond .ne 5, 3) := by decide +kernel
theorem dX8_of_16 : decode cX8_of 16 = .ok (.iconst (-1), 1) := by decide +kernel
theorem dX8_of_17 : decode cX8_of 17 = .ok (.ireturn, 1) := by decide +kernel
theorem dX8_of_18 : decode cX8_of 18 = .ok (.iload_n 2, 1) := by decide +kernel
theorem dX8_of_19 : decode cX8_of 19 = .ok (.tableswitch 86 0 4 #[33, 40, 47, 54, 68], 33) := by decide +kernel
theorem dX8_of_52 : decode cX8_of 52 = .ok (.aload_n 3, 1) := by decide +kernel
theorem dX8_of_53 : decode cX8_of 53 = .ok (.getfield 198, 3) := by decide +kernel
theorem dX8_of_56 : decode cX8_of 56 = .ok (.iload_n 1, 1) := by decide +kernel
theorem dX8_of_57 : decode cX8_of 57 = .ok (.iaload, 1) := by decide +kernel
theorem dX8_of_58 : decode cX8_of 58 = .ok (.ireturn, 1) := by decide +kernel
theorem dX8_of_59 : decode cX8_of 59 = .ok (.aload_n 3, 1) := by decide +kernel
theorem dX8_of_60 : decode cX8_of 60 = .ok (.getfield 201, 3) := by decide +kernel
theorem dX8_of_63 : decode cX8_of 63 = .ok (.iload_n 1, 1) := by decide +kernel
theorem dX8_of_64 : decode cX8_of 64 = .ok (.iaload, 1) := by decide +kernel
theorem dX8_of_65 : decode cX8_of 65 = .ok (.ireturn, 1) := by decide +kernel
theorem dX8_of_66 : decode cX8_of 66 = .ok (.aload_n 3, 1) := by decide +kernel
theorem dX8_of_67 : decode cX8_of 67 = .ok (.getfield 204, 3) := by decide +kernel
theorem dX8_of_70 : decode cX8_of 70 = .ok (.iload_n 1, 1) := by decide +kernel
theorem dX8_of_71 : decode cX8_of 71 = .ok (.iaload, 1) := by decide +kernel
theorem dX8_of_72 : decode cX8_of 72 = .ok (.ireturn, 1) := by decide +kernel
theorem dX8_of_73 : decode cX8_of 73 = .ok (.aload_n 3, 1) := by decide +kernel
theorem dX8_of_74 : decode cX8_of 74 = .ok (.iload_n 1, 1) := by decide +kernel
theorem dX8_of_75 : decode cX8_of 75 = .ok (.invokevirtual 207, 3) := by decide +kernel
theorem dX8_of_78 : decode cX8_of 78 = .ok (.ifCond .eq 7, 3) := by decide +kernel
theorem dX8_of_81 : decode cX8_of 81 = .ok (.iconst 1, 1) := by decide +kernel
theorem dX8_of_82 : decode cX8_of 82 = .ok (.goto 4, 3) := by decide +kernel
theorem dX8_of_85 : decode cX8_of 85 = .ok (.iconst 0, 1) := by decide +kernel
theorem dX8_of_86 : decode cX8_of 86 = .ok (.ireturn, 1) := by decide +kernel
theorem dX8_of_87 : decode cX8_of 87 = .ok (.aload_n 3, 1) := by decide +kernel
theorem dX8_of_88 : decode cX8_of 88 = .ok (.iload_n 1, 1) := by decide +kernel
theorem dX8_of_89 : decode cX8_of 89 = .ok (.aload_n 3, 1) := by decide +kernel
theorem dX8_of_90 : decode cX8_of 90 = .ok (.invokevirtual 172, 3) := by decide +kernel
theorem dX8_of_93 : decode cX8_of 93 = .ok (.invokevirtual 210, 3) := by decide +kernel
theorem dX8_of_96 : decode cX8_of 96 = .ok (.ifCond .eq 7, 3) := by decide +kernel
theorem dX8_of_99 : decode cX8_of 99 = .ok (.iconst 1, 1) := by decide +kernel
theorem dX8_of_100 : decode cX8_of 100 = .ok (.goto 4, 3) := by decide +kernel
theorem dX8_of_103 : decode cX8_of 103 = .ok (.iconst 0, 1) := by decide +kernel
theorem dX8_of_104 : decode cX8_of 104 = .ok (.ireturn, 1) := by decide +kernel
theorem dX8_of_105 : decode cX8_of 105 = .ok (.aload_n 0, 1) := by decide +kernel
theorem dX8_of_106 : decode cX8_of 106 = .ok (.iload_n 1, 1) := by decide +kernel
theorem dX8_of_107 : decode cX8_of 107 = .ok (.iload_n 2, 1) := by decide +kernel
theorem dX8_of_108 : decode cX8_of 108 = .ok (.invokevirtual 213, 3) := by decide +kernel
theorem dX8_of_111 : decode cX8_of 111 = .ok (.ireturn, 1) := by decide +kernel
def f_X8_of (F : Nat) (S : mS) (t : Nat) (a1 : Int32) (a2 : Int32) : Option (mS × Int32) := if (f_X6_told S (t + 40 + 1) a1) = true then (if a2 = (0 : Int32) then (ck (inb a1 7) (some (S, S.1 (t + 40 + 1 + 1) a1.toNatClampNeg))) else (if a2 = (1 : Int32) then (ck (inb a1 7) (some (S, S.1 (t + 40 + 1 + 2) a1.toNatClampNeg))) else (if a2 = (2 : Int32) then (ck (inb a1 7) (some (S, S.1 (t + 40 + 1 + 3) a1.toNatClampNeg))) else (if a2 = (3 : Int32) then (if (f_X6_isGone S (t + 40 + 1) a1) = true then (some (S, (1 : Int32))) else (some (S, (0 : Int32)))) else (if a2 = (4 : Int32) then (bd (f_X6_isShut F S (t + 40 + 1) a1 (f_X6_date S (t + 40 + 1))) fun q10 => if q10 = true then (some (S, (1 : Int32))) else (some (S, (0 : Int32)))) else (bd (f_X8_underTheLaw F S t a1 a2) fun q12 => some (q12.1, q12.2))))))) else (some (S, (-1 : Int32)))
set_option maxHeartbeats 4000000 in
set_option maxRecDepth 100000 in
theorem c_X8_of {F : Nat} {S : mS} {t : Nat} {a1 : Int32} {a2 : Int32} {R : mS × Int32} (ht : kd0 t = 8) (h : f_X8_of F S t a1 a2 = some R) : mCt μX8_of 6 0 0 E0 S [.ref (t), .int (a1), .int (a2)] (mQe R.1 (some (.int R.2))) := by
  unfold f_X8_of at h
  refine mCt.of (by decide) (Nat.le_of_ble_eq_true rfl) ?_
  intro x
  refine mG.aload_n 0 dX8_of_0 rfl ?_
  refine mG.get (v := .ref (t + 40)) dX8_of_1 mfX8_41 ht (lr8_now ht) ?_
  refine mG.get (v := .ref (t + 40 + 1)) dX8_of_4 mfX8_88 (lk8_now ht) (lr7_town (lk8_now ht)) ?_
  refine mG.astore_n (lv2 := [(3, .ref (t + 40 + 1)), (0, .ref (t)), (1, .int (a1)), (2, .int (a2))]) dX8_of_7 rfl (by decide) rfl ?_
  refine mG.aload_n 0 dX8_of_8 rfl ?_
  refine mG.iload_n 2 dX8_of_9 rfl ?_
  refine mG.callV0 (as := [.int (a1)]) (st := []) (S2 := S) (r := some (.int (bI (f_X6_told S (t + 40 + 1) a1)))) dX8_of_10 mvX6_told wk44_19 rfl (lk7_town (lk8_now ht)) rfl (by decide) (Nat.le_of_ble_eq_true rfl) (c_X6_told (lk7_town (lk8_now ht)) rfl) ?_
  refine mG.ifz_ne (b := f_X6_told S (t + 40 + 1) a1) 18 dX8_of_13 (by decide) (fun c13 => ?_) (fun c13 => ?_)
  · replace h := itp c13 h
    refine mG.iload_n 3 dX8_of_18 rfl ?_
    by_cases c1 : a2 = (0 : Int32)
    · replace h := itp c1 h
      refine mG.tblIn (33) 52 dX8_of_19 (by rw [c1]; decide) (by rw [c1]; decide) (by rw [c1]; decide) (by decide) ?_
      refine mG.aload_n 0 dX8_of_52 rfl ?_
      refine mG.get (v := .ref (t + 40 + 1 + 1)) dX8_of_53 mfX8_198 (lk7_town (lk8_now ht)) (lr6_shut (lk7_town (lk8_now ht))) ?_
      refine mG.iload_n 2 dX8_of_56 rfl ?_
      obtain ⟨b2, h⟩ := ckp h
      refine mG.iald dX8_of_57 (lk6_shut (lk7_town (lk8_now ht))) (ll6_shut (lk7_town (lk8_now ht))) (inbp b2) ?_
      obtain rfl := Option.some.inj h
      exact mG.iret dX8_of_58 rfl ⟨rfl, rfl, rfl⟩
    replace h := itn c1 h
    by_cases c3 : a2 = (1 : Int32)
    · replace h := itp c3 h
      refine mG.tblIn (40) 59 dX8_of_19 (by rw [c3]; decide) (by rw [c3]; decide) (by rw [c3]; decide) (by decide) ?_
      refine mG.aload_n 0 dX8_of_59 rfl ?_
      refine mG.get (v := .ref (t + 40 + 1 + 2)) dX8_of_60 mfX8_201 (lk7_town (lk8_now ht)) (lr6_purse (lk7_town (lk8_now ht))) ?_
      refine mG.iload_n 2 dX8_of_63 rfl ?_
      obtain ⟨b4, h⟩ := ckp h
      refine mG.iald dX8_of_64 (lk6_purse (lk7_town (lk8_now ht))) (ll6_purse (lk7_town (lk8_now ht))) (inbp b4) ?_
      obtain rfl := Option.some.inj h
      exact mG.iret dX8_of_65 rfl ⟨rfl, rfl, rfl⟩
    replace h := itn c3 h
    by_cases c5 : a2 = (2 : Int32)
    · replace h := itp c5 h
      refine mG.tblIn (47) 66 dX8_of_19 (by rw [c5]; decide) (by rw [c5]; decide) (by rw [c5]; decide) (by decide) ?_
      refine mG.aload_n 0 dX8_of_66 rfl ?_
      refine mG.get (v := .ref (t + 40 + 1 + 3)) dX8_of_67 mfX8_204 (lk7_town (lk8_now ht)) (lr6_friends (lk7_town (lk8_now ht))) ?_
      refine mG.iload_n 2 dX8_of_70 rfl ?_
      obtain ⟨b6, h⟩ := ckp h
      refine mG.iald dX8_of_71 (lk6_friends (lk7_town (lk8_now ht))) (ll6_friends (lk7_town (lk8_now ht))) (inbp b6) ?_
      obtain rfl := Option.some.inj h
      exact mG.iret dX8_of_72 rfl ⟨rfl, rfl, rfl⟩
    replace h := itn c5 h
    by_cases c7 : a2 = (3 : Int32)
    · replace h := itp c7 h
      refine mG.tblIn (54) 73 dX8_of_19 (by rw [c7]; decide) (by rw [c7]; decide) (by rw [c7]; decide) (by decide) ?_
      refine mG.aload_n 0 dX8_of_73 rfl ?_
      refine mG.iload_n 2 dX8_of_74 rfl ?_
      refine mG.callV0 (as := [.int (a1)]) (st := []) (S2 := S) (r := some (.int (bI (f_X6_isGone S (t + 40 + 1) a1)))) dX8_of_75 mvX6_isGone wk44_20 rfl (lk7_town (lk8_now ht)) rfl (by decide) (Nat.le_of_ble_eq_true rfl) (c_X6_isGone (lk7_town (lk8_now ht)) rfl) ?_
      refine mG.ifz_eq (b := f_X6_isGone S (t + 40 + 1) a1) 85 dX8_of_78 (by decide) (fun c8 => ?_) (fun c8 => ?_)
      · replace h := itn c8 h
        refine mG.iconst (v := 0) dX8_of_85 rfl ?_
        obtain rfl := Option.some.inj h
        exact mG.iret dX8_of_86 rfl ⟨rfl, rfl, rfl⟩
      · replace h := itp c8 h
        refine mG.iconst (v := 1) dX8_of_81 rfl ?_
        refine mG.goto 86 dX8_of_82 (by decide) ?_
        obtain rfl := Option.some.inj h
        exact mG.iret dX8_of_86 rfl ⟨rfl, rfl, rfl⟩
    replace h := itn c7 h
    by_cases c9 : a2 = (4 : Int32)
    · replace h := itp c9 h
      refine mG.tblIn (68) 87 dX8_of_19 (by rw [c9]; decide) (by rw [c9]; decide) (by rw [c9]; decide) (by decide) ?_
      refine mG.aload_n 0 dX8_of_87 rfl ?_
      refine mG.iload_n 2 dX8_of_88 rfl ?_
      refine mG.aload_n 0 dX8_of_89 rfl ?_
      refine mG.callV0 (as := []) (st := [.int (a1), .ref (t + 40 + 1)]) (S2 := S) (r := some (.int (f_X6_date S (t + 40 + 1)))) dX8_of_90 mvX6_date wk28_19 rfl (lk7_town (lk8_now ht)) rfl (by decide) (Nat.le_of_ble_eq_true rfl) (c_X6_date (lk7_town (lk8_now ht)) rfl) ?_
      obtain ⟨q10, hq10, h⟩ := bdp h
      refine mG.callV0 (as := [.int (a1), .int (f_X6_date S (t + 40 + 1))]) (st := []) (S2 := S) (r := some (.int (bI (q10)))) dX8_of_93 mvX6_isShut wk28_23 rfl (lk7_town (lk8_now ht)) rfl (by decide) (Nat.le_of_ble_eq_true rfl) (c_X6_isShut (lk7_town (lk8_now ht)) hq10) ?_
      refine mG.ifz_eq (b := q10) 103 dX8_of_96 (by decide) (fun c11 => ?_) (fun c11 => ?_)
      · replace h := itn c11 h
        refine mG.iconst (v := 0) dX8_of_103 rfl ?_
        obtain rfl := Option.some.inj h
        exact mG.iret dX8_of_104 rfl ⟨rfl, rfl, rfl⟩
      · replace h := itp c11 h
        refine mG.iconst (v := 1) dX8_of_99 rfl ?_
        refine mG.goto 104 dX8_of_100 (by decide) ?_
        obtain rfl := Option.some.inj h
        exact mG.iret dX8_of_104 rfl ⟨rfl, rfl, rfl⟩
    replace h := itn c9 h
    refine mG.tblOut 105 dX8_of_19 (by have e0 : Int32.toInt a2 ≠ 0 := fun q => c1 (Int32.toInt_inj.mp (q.trans (by decide))); have e1 : Int32.toInt a2 ≠ 1 := fun q => c3 (Int32.toInt_inj.mp (q.trans (by decide))); have e2 : Int32.toInt a2 ≠ 2 := fun q => c5 (Int32.toInt_inj.mp (q.trans (by decide))); have e3 : Int32.toInt a2 ≠ 3 := fun q => c7 (Int32.toInt_inj.mp (q.trans (by decide))); have e4 : Int32.toInt a2 ≠ 4 := fun q => c9 (Int32.toInt_inj.mp (q.trans (by decide))); omega) (by decide) ?_
    refine mG.aload_n 1 dX8_of_105 rfl ?_
    refine mG.iload_n 2 dX8_of_106 rfl ?_
    refine mG.iload_n 3 dX8_of_107 rfl ?_
    obtain ⟨q12, hq12, h⟩ := bdp h
    refine mG.callV0 (as := [.int (a1), .int (a2)]) (st := []) (S2 := q12.1) (r := some (.int (q12.2))) dX8_of_108 mvX8_underTheLaw wk44_21 rfl ht rfl (by decide) (Nat.le_of_ble_eq_true rfl) (c_X8_underTheLaw ht hq12) ?_
    obtain rfl := Option.some.inj h
    exact mG.iret dX8_of_111 rfl ⟨rfl, rfl, rfl⟩
  · replace h := itn c13 h
    refine mG.iconst (v := (-1)) dX8_of_16 rfl ?_
    obtain rfl := Option.some.inj h
    exact mG.iret dX8_of_17 rfl ⟨rfl, rfl, rfl⟩
theorem dX8_is_0 : decode cX8_is 0 = .ok (.aload_n 0, 1) := by decide +kernel
theorem dX8_is_1 : decode cX8_is 1 = .ok (.getfield 41, 3) := by decide +kernel
theorem dX8_is_4 : decode cX8_is 4 = .ok (.getfield 88, 3) := by decide +kernel
theorem dX8_is_7 : decode cX8_is 7 = .ok (.astore_n 2, 1) := by decide +kernel
theorem dX8_is_8 : decode cX8_is 8 = .ok (.iload_n 1, 1) := by decide +kernel
theorem dX8_is_9 : decode cX8_is 9 = .ok (.tableswitch 58 0 3 #[31, 36, 41, 46], 31) := by decide +kernel
theorem dX8_is_40 : decode cX8_is 40 = .ok (.aload_n 2, 1) := by decide +kernel
theorem dX8_is_41 : decode cX8_is 41 = .ok (.getfield 166, 3) := by decide +kernel
theorem dX8_is_44 : decode cX8_is 44 = .ok (.ireturn, 1) := by decide +kernel
theorem dX8_is_45 : decode cX8_is 45 = .ok (.aload_n 2, 1) := by decide +kernel
theorem dX8_is_46 : decode cX8_is 46 = .ok (.invokevirtual 172, 3) := by decide +kernel
theorem dX8_is_49 : decode cX8_is 49 = .ok (.ireturn, 1) := by decide +kernel
theorem dX8_is_50 : decode cX8_is 50 = .ok (.aload_n 2, 1) := by decide +kernel
theorem dX8_is_51 : decode cX8_is 51 = .ok (.getfield 186, 3) := by decide +kernel
theorem dX8_is_54 : decode cX8_is 54 = .ok (.ireturn, 1) := by decide +kernel
theorem dX8_is_55 : decode cX8_is 55 = .ok (.aload_n 2, 1) := by decide +kernel
theorem dX8_is_56 : decode cX8_is 56 = .ok (.aload_n 2, 1) := by decide +kernel
theorem dX8_is_57 : decode cX8_is 57 = .ok (.invokevirtual 172, 3) := by decide +kernel
theorem dX8_is_60 : decode cX8_is 60 = .ok (.invokevirtual 216, 3) := by decide +kernel
theorem dX8_is_63 : decode cX8_is 63 = .ok (.invokestatic 219, 3) := by decide +kernel
theorem dX8_is_66 : decode cX8_is 66 = .ok (.ireturn, 1) := by decide +kernel
theorem dX8_is_67 : decode cX8_is 67 = .ok (.bipush (-2), 2) := by decide +kernel
theorem dX8_is_69 : decode cX8_is 69 = .ok (.ireturn, 1) := by decide +kernel
def f_X8_is (F : Nat) (S0 : mS) (t : Nat) (a1 : Int32) : Option Int32 := if a1 = (0 : Int32) then (some (S0.1 (t + 40 + 1) 7)) else (if a1 = (1 : Int32) then (some (f_X6_date S0 (t + 40 + 1))) else (if a1 = (2 : Int32) then (some (S0.1 (t + 40 + 1) 8)) else (if a1 = (3 : Int32) then (bd (f_X6_openOn F S0 (t + 40 + 1) (f_X6_date S0 (t + 40 + 1))) fun q5 => some (f_J6_bitCount_0f7a4 S0 q5)) else (some (-2 : Int32)))))
set_option maxHeartbeats 4000000 in
set_option maxRecDepth 100000 in
theorem c_X8_is {F : Nat} {S0 : mS} {t : Nat} {a1 : Int32} {R : Int32} (ht : kd0 t = 8) (h : f_X8_is F S0 t a1 = some R) : mCt μX8_is 4 0 0 E0 S0 [.ref (t), .int (a1)] (mQe S0 (some (.int R))) := by
  unfold f_X8_is at h
  refine mCt.of (by decide) (Nat.le_of_ble_eq_true rfl) ?_
  intro x
  refine mG.aload_n 0 dX8_is_0 rfl ?_
  refine mG.get (v := .ref (t + 40)) dX8_is_1 mfX8_41 ht (lr8_now ht) ?_
  refine mG.get (v := .ref (t + 40 + 1)) dX8_is_4 mfX8_88 (lk8_now ht) (lr7_town (lk8_now ht)) ?_
  refine mG.astore_n (lv2 := [(2, .ref (t + 40 + 1)), (0, .ref (t)), (1, .int (a1))]) dX8_is_7 rfl (by decide) rfl ?_
  refine mG.iload_n 2 dX8_is_8 rfl ?_
  by_cases c1 : a1 = (0 : Int32)
  · replace h := itp c1 h
    refine mG.tblIn (31) 40 dX8_is_9 (by rw [c1]; decide) (by rw [c1]; decide) (by rw [c1]; decide) (by decide) ?_
    refine mG.aload_n 0 dX8_is_40 rfl ?_
    refine mG.get (v := .int (S0.1 (t + 40 + 1) 7)) dX8_is_41 mfX8_166 (lk7_town (lk8_now ht)) rfl ?_
    obtain rfl := Option.some.inj h
    exact mG.iret dX8_is_44 rfl ⟨rfl, rfl, rfl⟩
  replace h := itn c1 h
  by_cases c2 : a1 = (1 : Int32)
  · replace h := itp c2 h
    refine mG.tblIn (36) 45 dX8_is_9 (by rw [c2]; decide) (by rw [c2]; decide) (by rw [c2]; decide) (by decide) ?_
    refine mG.aload_n 0 dX8_is_45 rfl ?_
    refine mG.callV0 (as := []) (st := []) (S2 := S0) (r := some (.int (f_X6_date S0 (t + 40 + 1)))) dX8_is_46 mvX6_date wk28_19 rfl (lk7_town (lk8_now ht)) rfl (by decide) (Nat.le_of_ble_eq_true rfl) (c_X6_date (lk7_town (lk8_now ht)) rfl) ?_
    obtain rfl := Option.some.inj h
    exact mG.iret dX8_is_49 rfl ⟨rfl, rfl, rfl⟩
  replace h := itn c2 h
  by_cases c3 : a1 = (2 : Int32)
  · replace h := itp c3 h
    refine mG.tblIn (41) 50 dX8_is_9 (by rw [c3]; decide) (by rw [c3]; decide) (by rw [c3]; decide) (by decide) ?_
    refine mG.aload_n 0 dX8_is_50 rfl ?_
    refine mG.get (v := .int (S0.1 (t + 40 + 1) 8)) dX8_is_51 mfX8_186 (lk7_town (lk8_now ht)) rfl ?_
    obtain rfl := Option.some.inj h
    exact mG.iret dX8_is_54 rfl ⟨rfl, rfl, rfl⟩
  replace h := itn c3 h
  by_cases c4 : a1 = (3 : Int32)
  · replace h := itp c4 h
    refine mG.tblIn (46) 55 dX8_is_9 (by rw [c4]; decide) (by rw [c4]; decide) (by rw [c4]; decide) (by decide) ?_
    refine mG.aload_n 0 dX8_is_55 rfl ?_
    refine mG.aload_n 0 dX8_is_56 rfl ?_
    refine mG.callV0 (as := []) (st := [.ref (t + 40 + 1)]) (S2 := S0) (r := some (.int (f_X6_date S0 (t + 40 + 1)))) dX8_is_57 mvX6_date wk28_19 rfl (lk7_town (lk8_now ht)) rfl (by decide) (Nat.le_of_ble_eq_true rfl) (c_X6_date (lk7_town (lk8_now ht)) rfl) ?_
    obtain ⟨q5, hq5, h⟩ := bdp h
    refine mG.callV0 (as := [.int (f_X6_date S0 (t + 40 + 1))]) (st := []) (S2 := S0) (r := some (.int (q5))) dX8_is_60 mvX6_openOn wk45_12 rfl (lk7_town (lk8_now ht)) rfl (by decide) (Nat.le_of_ble_eq_true rfl) (c_X6_openOn (lk7_town (lk8_now ht)) hq5) ?_
    refine mG.callS0 (as := [.int (q5)]) (st := []) (S2 := S0) (r := some (.int (f_J6_bitCount_0f7a4 S0 q5))) dX8_is_63 mbJ6_bitCount_0f7a4 wk30_6 wk45_13 rfl rfl (by decide) (Nat.le_of_ble_eq_true rfl) (c_J6_bitCount_0f7a4  rfl) ?_
    obtain rfl := Option.some.inj h
    exact mG.iret dX8_is_66 rfl ⟨rfl, rfl, rfl⟩
  replace h := itn c4 h
  refine mG.tblOut 67 dX8_is_9 (by have e0 : Int32.toInt a1 ≠ 0 := fun q => c1 (Int32.toInt_inj.mp (q.trans (by decide))); have e1 : Int32.toInt a1 ≠ 1 := fun q => c2 (Int32.toInt_inj.mp (q.trans (by decide))); have e2 : Int32.toInt a1 ≠ 2 := fun q => c3 (Int32.toInt_inj.mp (q.trans (by decide))); have e3 : Int32.toInt a1 ≠ 3 := fun q => c4 (Int32.toInt_inj.mp (q.trans (by decide))); omega) (by decide) ?_
  refine mG.bipush (v := (-2)) dX8_is_67 (by decide) ?_
  obtain rfl := Option.some.inj h
  exact mG.iret dX8_is_69 rfl ⟨rfl, rfl, rfl⟩
theorem dX8_book_0 : decode cX8_book 0 = .ok (.aload_n 0, 1) := by decide +kernel
theorem dX8_book_1 : decode cX8_book 1 = .ok (.getfield 41, 3) := by decide +kernel
theorem dX8_book_4 : decode cX8_book 4 = .ok (.getfield 88, 3) := by decide +kernel
theorem dX8_book_7 : decode cX8_book 7 = .ok (.astore_n 3, 1) := by decide +kernel
theorem dX8_book_8 : decode cX8_book 8 = .ok (.iload_n 1, 1) := by decide +kernel
theorem dX8_book_9 : decode cX8_book 9 = .ok (.iconst (-1), 1) := by decide +kernel
theorem dX8_book_10 : decode cX8_book 10 = .ok (.if_icmp .ne 8, 3) := by decide +kernel
theorem dX8_book_13 : decode cX8_book 13 = .ok (.aload_n 3, 1) := by decide +kernel
theorem dX8_book_14 : decode cX8_book 14 = .ok (.getfield 224, 3) := by decide +kernel
theorem dX8_book_17 : decode cX8_book 17 = .ok (.ireturn, 1) := by decide +kernel
theorem dX8_book_18 : decode cX8_book 18 = .ok (.iload_n 1, 1) := by decide +kernel
theorem dX8_book_19 : decode cX8_book 19 = .ok (.iconst 0, 1) := by decide +kernel
theorem dX8_book_20 : decode cX8_book 20 = .ok (.aload_n 3, 1) := by decide +kernel
theorem dX8_book_21 : decode cX8_book 21 = .ok (.getfield 224, 3) := by decide +kernel
theorem dX8_book_24 : decode cX8_book 24 = .ok (.iconst 1, 1) := by decide +kernel
theorem dX8_book_25 : decode cX8_book 25 = .ok (.isub, 1) := by decide +kernel
theorem dX8_book_26 : decode cX8_book 26 = .ok (.invokestatic 84, 3) := by decide +kernel
theorem dX8_book_29 : decode cX8_book 29 = .ok (.ifCond .ne 6, 3) := by decide +kernel
theorem dX8_book_32 : decode cX8_book 32 = .ok (.bipush (-2), 2) := by decide +kernel
theorem dX8_book_34 : decode cX8_book 34 = .ok (.ireturn, 1) := by decide +kernel
theorem dX8_book_35 : decode cX8_book 35 = .ok (.iload_n 2, 1) := by decide +kernel
theorem dX8_book_36 : decode cX8_book 36 = .ok (.tableswitch 54 0 2 #[28, 34, 40], 28) := by decide +kernel
theorem dX8_book_64 : decode cX8_book 64 = .ok (.aload_n 3, 1) := by decide +kernel
theorem dX8_book_65 : decode cX8_book 65 = .ok (.iload_n 1, 1) := by decide +kernel
theorem dX8_book_66 : decode cX8_book 66 = .ok (.invokevirtual 227, 3) := by decide +kernel
theorem dX8_book_69 : decode cX8_book 69 = .ok (.ireturn, 1) := by decide +kernel
theorem dX8_book_70 : decode cX8_book 70 = .ok (.aload_n 3, 1) := by decide +kernel
theorem dX8_book_71 : decode cX8_book 71 = .ok (.iload_n 1, 1) := by decide +kernel
theorem dX8_book_72 : decode cX8_book 72 = .ok (.invokevirtual 230, 3) := by decide +kernel
theorem dX8_book_75 : decode cX8_book 75 = .ok (.ireturn, 1) := by decide +kernel
theorem dX8_book_76 : decode cX8_book 76 = .ok (.aload_n 3, 1) := by decide +kernel
theorem dX8_book_77 : decode cX8_book 77 = .ok (.iload_n 1, 1) := by decide +kernel
theorem dX8_book_78 : decode cX8_book 78 = .ok (.invokevirtual 233, 3) := by decide +kernel
theorem dX8_book_81 : decode cX8_book 81 = .ok (.ifCond .eq 7, 3) := by decide +kernel
theorem dX8_book_84 : decode cX8_book 84 = .ok (.iconst 1, 1) := by decide +kernel
theorem dX8_book_85 : decode cX8_book 85 = .ok (.goto 4, 3) := by decide +kernel
theorem dX8_book_88 : decode cX8_book 88 = .ok (.iconst 0, 1) := by decide +kernel
theorem dX8_book_89 : decode cX8_book 89 = .ok (.ireturn, 1) := by decide +kernel
theorem dX8_book_90 : decode cX8_book 90 = .ok (.bipush (-2), 2) := by decide +kernel
theorem dX8_book_92 : decode cX8_book 92 = .ok (.ireturn, 1) := by decide +kernel
def f_X8_book (F : Nat) (S0 : mS) (t : Nat) (a1 : Int32) (a2 : Int32) : Option Int32 := if a1 = (-1 : Int32) then (some (S0.1 (t + 40 + 1) 4)) else (if (f_X8_isWithin S0 a1 (0 : Int32) ((S0.1 (t + 40 + 1) 4) - (1 : Int32))) = true then (if a2 = (0 : Int32) then (bd (f_X6_dayOfKnock F S0 (t + 40 + 1) a1) fun q2 => some q2) else (if a2 = (1 : Int32) then (bd (f_X6_houseOfKnock F S0 (t + 40 + 1) a1) fun q4 => some q4) else (if a2 = (2 : Int32) then (bd (f_X6_wasShut F S0 (t + 40 + 1) a1) fun q6 => if q6 = true then (some (1 : Int32)) else (some (0 : Int32))) else (some (-2 : Int32))))) else (some (-2 : Int32)))
set_option maxHeartbeats 4000000 in
set_option maxRecDepth 100000 in
theorem c_X8_book {F : Nat} {S0 : mS} {t : Nat} {a1 : Int32} {a2 : Int32} {R : Int32} (ht : kd0 t = 8) (h : f_X8_book F S0 t a1 a2 = some R) : mCt μX8_book 3 0 0 E0 S0 [.ref (t), .int (a1), .int (a2)] (mQe S0 (some (.int R))) := by
  unfold f_X8_book at h
  refine mCt.of (by decide) (Nat.le_of_ble_eq_true rfl) ?_
  intro x
  refine mG.aload_n 0 dX8_book_0 rfl ?_
  refine mG.get (v := .ref (t + 40)) dX8_book_1 mfX8_41 ht (lr8_now ht) ?_
  refine mG.get (v := .ref (t + 40 + 1)) dX8_book_4 mfX8_88 (lk8_now ht) (lr7_town (lk8_now ht)) ?_
  refine mG.astore_n (lv2 := [(3, .ref (t + 40 + 1)), (0, .ref (t)), (1, .int (a1)), (2, .int (a2))]) dX8_book_7 rfl (by decide) rfl ?_
  refine mG.iload_n 2 dX8_book_8 rfl ?_
  refine mG.iconst (v := (-1)) dX8_book_9 rfl ?_
  refine mG.icmp_ne 18 dX8_book_10 (by decide) (fun c9 => ?_) (fun c9 => ?_)
  · replace h := itn c9 h
    refine mG.iload_n 2 dX8_book_18 rfl ?_
    refine mG.iconst (v := 0) dX8_book_19 rfl ?_
    refine mG.aload_n 0 dX8_book_20 rfl ?_
    refine mG.get (v := .int (S0.1 (t + 40 + 1) 4)) dX8_book_21 mfX8_224 (lk7_town (lk8_now ht)) rfl ?_
    refine mG.iconst (v := 1) dX8_book_24 rfl ?_
    refine mG.isub dX8_book_25 ?_
    refine mG.callS0 (as := [.int (a1), .int 0, .int ((S0.1 (t + 40 + 1) 4) - (1 : Int32))]) (st := []) (S2 := S0) (r := some (.int (bI (f_X8_isWithin S0 a1 (0 : Int32) ((S0.1 (t + 40 + 1) 4) - (1 : Int32)))))) dX8_book_26 mbX8_isWithin wk6_19 wk6_18 rfl rfl (by decide) (Nat.le_of_ble_eq_true rfl) (c_X8_isWithin  rfl) ?_
    refine mG.ifz_ne (b := f_X8_isWithin S0 a1 (0 : Int32) ((S0.1 (t + 40 + 1) 4) - (1 : Int32))) 35 dX8_book_29 (by decide) (fun c8 => ?_) (fun c8 => ?_)
    · replace h := itp c8 h
      refine mG.iload_n 3 dX8_book_35 rfl ?_
      by_cases c1 : a2 = (0 : Int32)
      · replace h := itp c1 h
        refine mG.tblIn (28) 64 dX8_book_36 (by rw [c1]; decide) (by rw [c1]; decide) (by rw [c1]; decide) (by decide) ?_
        refine mG.aload_n 0 dX8_book_64 rfl ?_
        refine mG.iload_n 2 dX8_book_65 rfl ?_
        obtain ⟨q2, hq2, h⟩ := bdp h
        refine mG.callV0 (as := [.int (a1)]) (st := []) (S2 := S0) (r := some (.int (q2))) dX8_book_66 mvX6_dayOfKnock wk45_23 rfl (lk7_town (lk8_now ht)) rfl (by decide) (Nat.le_of_ble_eq_true rfl) (c_X6_dayOfKnock (lk7_town (lk8_now ht)) hq2) ?_
        obtain rfl := Option.some.inj h
        exact mG.iret dX8_book_69 rfl ⟨rfl, rfl, rfl⟩
      replace h := itn c1 h
      by_cases c3 : a2 = (1 : Int32)
      · replace h := itp c3 h
        refine mG.tblIn (34) 70 dX8_book_36 (by rw [c3]; decide) (by rw [c3]; decide) (by rw [c3]; decide) (by decide) ?_
        refine mG.aload_n 0 dX8_book_70 rfl ?_
        refine mG.iload_n 2 dX8_book_71 rfl ?_
        obtain ⟨q4, hq4, h⟩ := bdp h
        refine mG.callV0 (as := [.int (a1)]) (st := []) (S2 := S0) (r := some (.int (q4))) dX8_book_72 mvX6_houseOfKnock wk46_3 rfl (lk7_town (lk8_now ht)) rfl (by decide) (Nat.le_of_ble_eq_true rfl) (c_X6_houseOfKnock (lk7_town (lk8_now ht)) hq4) ?_
        obtain rfl := Option.some.inj h
        exact mG.iret dX8_book_75 rfl ⟨rfl, rfl, rfl⟩
      replace h := itn c3 h
      by_cases c5 : a2 = (2 : Int32)
      · replace h := itp c5 h
        refine mG.tblIn (40) 76 dX8_book_36 (by rw [c5]; decide) (by rw [c5]; decide) (by rw [c5]; decide) (by decide) ?_
        refine mG.aload_n 0 dX8_book_76 rfl ?_
        refine mG.iload_n 2 dX8_book_77 rfl ?_
        obtain ⟨q6, hq6, h⟩ := bdp h
        refine mG.callV0 (as := [.int (a1)]) (st := []) (S2 := S0) (r := some (.int (bI (q6)))) dX8_book_78 mvX6_wasShut wk46_7 rfl (lk7_town (lk8_now ht)) rfl (by decide) (Nat.le_of_ble_eq_true rfl) (c_X6_wasShut (lk7_town (lk8_now ht)) hq6) ?_
        refine mG.ifz_eq (b := q6) 88 dX8_book_81 (by decide) (fun c7 => ?_) (fun c7 => ?_)
        · replace h := itn c7 h
          refine mG.iconst (v := 0) dX8_book_88 rfl ?_
          obtain rfl := Option.some.inj h
          exact mG.iret dX8_book_89 rfl ⟨rfl, rfl, rfl⟩
        · replace h := itp c7 h
          refine mG.iconst (v := 1) dX8_book_84 rfl ?_
          refine mG.goto 89 dX8_book_85 (by decide) ?_
          obtain rfl := Option.some.inj h
          exact mG.iret dX8_book_89 rfl ⟨rfl, rfl, rfl⟩
      replace h := itn c5 h
      refine mG.tblOut 90 dX8_book_36 (by have e0 : Int32.toInt a2 ≠ 0 := fun q => c1 (Int32.toInt_inj.mp (q.trans (by decide))); have e1 : Int32.toInt a2 ≠ 1 := fun q => c3 (Int32.toInt_inj.mp (q.trans (by decide))); have e2 : Int32.toInt a2 ≠ 2 := fun q => c5 (Int32.toInt_inj.mp (q.trans (by decide))); omega) (by decide) ?_
      refine mG.bipush (v := (-2)) dX8_book_90 (by decide) ?_
      obtain rfl := Option.some.inj h
      exact mG.iret dX8_book_92 rfl ⟨rfl, rfl, rfl⟩
    · replace h := itn c8 h
      refine mG.bipush (v := (-2)) dX8_book_32 (by decide) ?_
      obtain rfl := Option.some.inj h
      exact mG.iret dX8_book_34 rfl ⟨rfl, rfl, rfl⟩
  · replace h := itp c9 h
    refine mG.aload_n 0 dX8_book_13 rfl ?_
    refine mG.get (v := .int (S0.1 (t + 40 + 1) 4)) dX8_book_14 mfX8_224 (lk7_town (lk8_now ht)) rfl ?_
    obtain rfl := Option.some.inj h
    exact mG.iret dX8_book_17 rfl ⟨rfl, rfl, rfl⟩
theorem dX8_tryDays_0 : decode cX8_tryDays 0 = .ok (.aload_n 0, 1) := by decide +kernel
theorem dX8_tryDays_1 : decode cX8_tryDays 1 = .ok (.getfield 51, 3) := by decide +kernel
theorem dX8_tryDays_4 : decode cX8_tryDays 4 = .ok (.aload_n 0, 1) := by decide +kernel
theorem dX8_tryDays_5 : decode cX8_tryDays 5 = .ok (.getfield 41, 3) := by decide +kernel
theorem dX8_tryDays_8 : decode cX8_tryDays 8 = .ok (.getfield 88, 3) := by decide +kernel
theorem dX8_tryDays_11 : decode cX8_tryDays 11 = .ok (.invokevirtual 378, 3) := by decide +kernel
theorem dX8_tryDays_14 : decode cX8_tryDays 14 = .ok (.iconst 0, 1) := by decide +kernel
theorem dX8_tryDays_15 : decode cX8_tryDays 15 = .ok (.istore_n 3, 1) := by decide +kernel
theorem dX8_tryDays_16 : decode cX8_tryDays 16 = .ok (.iload_n 3, 1) := by decide +kernel
theorem dX8_tryDays_17 : decode cX8_tryDays 17 = .ok (.iload_n 1, 1) := by decide +kernel
theorem dX8_tryDays_18 : decode cX8_tryDays 18 = .ok (.if_icmp .ge 34, 3) := by decide +kernel
theorem dX8_tryDays_21 : decode cX8_tryDays 21 = .ok (.aload_n 0, 1) := by decide +kernel
theorem dX8_tryDays_22 : decode cX8_tryDays 22 = .ok (.getfield 51, 3) := by decide +kernel
theorem dX8_tryDays_25 : decode cX8_tryDays 25 = .ok (.getfield 166, 3) := by decide +kernel
theorem dX8_tryDays_28 : decode cX8_tryDays 28 = .ok (.sipush 9999, 3) := by decide +kernel
theorem dX8_tryDays_31 : decode cX8_tryDays 31 = .ok (.if_icmp .ge 21, 3) := by decide +kernel
theorem dX8_tryDays_34 : decode cX8_tryDays 34 = .ok (.aload_n 0, 1) := by decide +kernel
theorem dX8_tryDays_35 : decode cX8_tryDays 35 = .ok (.getfield 34, 3) := by decide +kernel
theorem dX8_tryDays_38 : decode cX8_tryDays 38 = .ok (.aload_n 2, 1) := by decide +kernel
theorem dX8_tryDays_39 : decode cX8_tryDays 39 = .ok (.aload_n 0, 1) := by decide +kernel
theorem dX8_tryDays_40 : decode cX8_tryDays 40 = .ok (.getfield 51, 3) := by decide +kernel
theorem dX8_tryDays_43 : decode cX8_tryDays 43 = .ok (.invokevirtual 374, 3) := by decide +kernel
theorem dX8_tryDays_46 : decode cX8_tryDays 46 = .ok (.iinc 3 1, 3) := by decide +kernel
theorem dX8_tryDays_49 : decode cX8_tryDays 49 = .ok (.goto (-33), 3) := by decide +kernel
theorem dX8_tryDays_52 : decode cX8_tryDays 52 = .ok (.return_, 1) := by decide +kernel
def lX8_tryDays_16 (F : Nat)  (t : Nat) (a1 : Int32) (a2 : Nat) : Nat → mS → Int32 → Option mS
  | 0, _, _ => none
  | n + 1, S, v3 => if a1 ≤ v3 then (some S) else (if (9999 : Int32) ≤ (S.1 (t + 364) 7) then (some S) else (bd (f_X3_passDay F S (t + 37) a2 (t + 364)) fun q1 => lX8_tryDays_16 F  t a1 a2 n q1 (v3 + 1)))
set_option maxHeartbeats 4000000 in
set_option maxRecDepth 100000 in
theorem gX8_tryDays_16 {x : mX} {F : Nat} {t : Nat} {a1 : Int32} {a2 : Nat}   {R : mS} (ht : kd0 t = 8) (ha2 : kd0 a2 = 5)  : ∀ (n : Nat) (S : mS) (v3 : Int32), lX8_tryDays_16 F  t a1 a2 n S v3 = some R → mG x μX8_tryDays 6 0 0 (mQe R none) 0 0 E0 S 16 [(0, .ref (t)), (1, .int (a1)), (2, .ref (a2)), (3, .int (v3))] [] := by
  intro n
  induction n with
  | zero =>
    intro S v3 h
    cases h
  | succ n ih =>
    intro S v3 h
    unfold lX8_tryDays_16 at h
    refine mG.iload_n 3 dX8_tryDays_16 rfl ?_
    refine mG.iload_n 1 dX8_tryDays_17 rfl ?_
    refine mG.icmp_ge 52 dX8_tryDays_18 (by decide) (fun c3 => ?_) (fun c3 => ?_)
    · replace h := itp c3 h
      obtain rfl := Option.some.inj h
      exact mG.vret dX8_tryDays_52 rfl ⟨rfl, rfl, rfl⟩
    · replace h := itn c3 h
      refine mG.aload_n 0 dX8_tryDays_21 rfl ?_
      refine mG.get (v := .ref (t + 364)) dX8_tryDays_22 mfX8_51 ht (lr8_trial ht) ?_
      refine mG.get (v := .int (S.1 (t + 364) 7)) dX8_tryDays_25 mfX8_166 (lk8_trial ht) rfl ?_
      refine mG.sipush (v := 9999) dX8_tryDays_28 (by decide) ?_
      refine mG.icmp_ge 52 dX8_tryDays_31 (by decide) (fun c2 => ?_) (fun c2 => ?_)
      · replace h := itp c2 h
        obtain rfl := Option.some.inj h
        exact mG.vret dX8_tryDays_52 rfl ⟨rfl, rfl, rfl⟩
      · replace h := itn c2 h
        refine mG.aload_n 0 dX8_tryDays_34 rfl ?_
        refine mG.get (v := .ref (t + 37)) dX8_tryDays_35 mfX8_34 ht (lr8_laws ht) ?_
        refine mG.aload_n 2 dX8_tryDays_38 rfl ?_
        refine mG.aload_n 0 dX8_tryDays_39 rfl ?_
        refine mG.get (v := .ref (t + 364)) dX8_tryDays_40 mfX8_51 ht (lr8_trial ht) ?_
        obtain ⟨q1, hq1, h⟩ := bdp h
        refine mG.callV0 (as := [.ref (a2), .ref (t + 364)]) (st := []) (S2 := q1) (r := none) dX8_tryDays_43 mvX3_passDay wk39_20 rfl (lk8_laws ht) rfl (by decide) (Nat.le_of_ble_eq_true rfl) (c_X3_passDay (lk8_laws ht) ha2 (lk8_trial ht) hq1) ?_
        refine mG.iinc 3 (u := v3 + 1) (lv2 := [(3, .int (v3 + 1)), (0, .ref (t)), (1, .int (a1)), (2, .ref (a2))]) dX8_tryDays_46 rfl rfl (by decide) rfl ?_
        refine mG.goto 16 dX8_tryDays_49 (by decide) ?_
        refine mG.sub (lv2 := [(0, .ref (t)), (1, .int (a1)), (2, .ref (a2)), (3, .int (v3 + 1))]) [1, 2, 3, 0] rfl ?_
        exact ih q1 (v3 + 1)  h
def f_X8_tryDays (F : Nat) (S : mS) (t : Nat) (a1 : Int32) (a2 : Nat) : Option mS := bd (f_X6_copyFrom F S (t + 364) (t + 40 + 1)) fun q1 => lX8_tryDays_16 F  t a1 a2 F q1 (0 : Int32)
set_option maxHeartbeats 4000000 in
set_option maxRecDepth 100000 in
theorem c_X8_tryDays {F : Nat} {S : mS} {t : Nat} {a1 : Int32} {a2 : Nat} {R : mS} (ht : kd0 t = 8) (ha2 : kd0 a2 = 5) (h : f_X8_tryDays F S t a1 a2 = some R) : mCt μX8_tryDays 6 0 0 E0 S [.ref (t), .int (a1), .ref (a2)] (mQe R none) := by
  unfold f_X8_tryDays at h
  refine mCt.of (by decide) (Nat.le_of_ble_eq_true rfl) ?_
  intro x
  refine mG.aload_n 0 dX8_tryDays_0 rfl ?_
  refine mG.get (v := .ref (t + 364)) dX8_tryDays_1 mfX8_51 ht (lr8_trial ht) ?_
  refine mG.aload_n 0 dX8_tryDays_4 rfl ?_
  refine mG.get (v := .ref (t + 40)) dX8_tryDays_5 mfX8_41 ht (lr8_now ht) ?_
  refine mG.get (v := .ref (t + 40 + 1)) dX8_tryDays_8 mfX8_88 (lk8_now ht) (lr7_town (lk8_now ht)) ?_
  obtain ⟨q1, hq1, h⟩ := bdp h
  refine mG.callV0 (as := [.ref (t + 40 + 1)]) (st := []) (S2 := q1) (r := none) dX8_tryDays_11 mvX6_copyFrom wk47_3 rfl (lk8_trial ht) rfl (by decide) (Nat.le_of_ble_eq_true rfl) (c_X6_copyFrom (lk8_trial ht) (lk7_town (lk8_now ht)) hq1) ?_
  refine mG.iconst (v := 0) dX8_tryDays_14 rfl ?_
  refine mG.istore_n (lv2 := [(3, .int 0), (0, .ref (t)), (1, .int (a1)), (2, .ref (a2))]) dX8_tryDays_15 rfl (by decide) rfl ?_
  refine mG.sub (lv2 := [(0, .ref (t)), (1, .int (a1)), (2, .ref (a2)), (3, .int 0)]) [1, 2, 3, 0] rfl ?_
  exact gX8_tryDays_16 ht ha2  F q1 (0 : Int32)  h
theorem dX8_foretold_0 : decode cX8_foretold 0 = .ok (.iload_n 1, 1) := by decide +kernel
theorem dX8_foretold_1 : decode cX8_foretold 1 = .ok (.iconst 1, 1) := by decide +kernel
theorem dX8_foretold_2 : decode cX8_foretold 2 = .ok (.bipush 60, 2) := by decide +kernel
theorem dX8_foretold_4 : decode cX8_foretold 4 = .ok (.invokestatic 84, 3) := by decide +kernel
theorem dX8_foretold_7 : decode cX8_foretold 7 = .ok (.ifCond .eq 17, 3) := by decide +kernel
theorem dX8_foretold_10 : decode cX8_foretold 10 = .ok (.aload_n 0, 1) := by decide +kernel
theorem dX8_foretold_11 : decode cX8_foretold 11 = .ok (.getfield 41, 3) := by decide +kernel
theorem dX8_foretold_14 : decode cX8_foretold 14 = .ok (.getfield 88, 3) := by decide +kernel
theorem dX8_foretold_17 : decode cX8_foretold 17 = .ok (.iload_n 2, 1) := by decide +kernel
theorem dX8_foretold_18 : decode cX8_foretold 18 = .ok (.invokevirtual 195, 3) := by decide +kernel
theorem dX8_foretold_21 : decode cX8_foretold 21 = .ok (.ifCond .ne 5, 3) := by decide +kernel
theorem dX8_foretold_24 : decode cX8_foretold 24 = .ok (.iconst (-1), 1) := by decide +kernel
theorem dX8_foretold_25 : decode cX8_foretold 25 = .ok (.ireturn, 1) := by decide +kernel
theorem dX8_foretold_26 : decode cX8_foretold 26 = .ok (.aload_n 0, 1) := by decide +kernel
theorem dX8_foretold_27 : decode cX8_foretold 27 = .ok (.iload_n 1, 1) := by decide +kernel
theorem dX8_foretold_28 : decode cX8_foretold 28 = .ok (.aload_n 0, 1) := by decide +kernel
theorem dX8_foretold_29 : decode cX8_foretold 29 = .ok (.invokevirtual 236, 3) := by decide +kernel
theorem dX8_foretold_32 : decode cX8_foretold 32 = .ok (.invokevirtual 240, 3) := by decide +kernel
theorem dX8_foretold_35 : decode cX8_foretold 35 = .ok (.aload_n 0, 1) := by decide +kernel
theorem dX8_foretold_36 : decode cX8_foretold 36 = .ok (.getfield 51, 3) := by decide +kernel
theorem dX8_foretold_39 : decode cX8_foretold 39 = .ok (.getfield 201, 3) := by decide +kernel
theorem dX8_foretold_42 : decode cX8_foretold 42 = .ok (.iload_n 2, 1) := by decide +kernel
theorem dX8_foretold_43 : decode cX8_foretold 43 = .ok (.iaload, 1) := by decide +kernel
theorem dX8_foretold_44 : decode cX8_foretold 44 = .ok (.ireturn, 1) := by decide +kernel
def f_X8_foretold (F : Nat) (S : mS) (t : Nat) (a1 : Int32) (a2 : Int32) : Option (mS × Int32) := if (f_X8_isWithin S a1 (1 : Int32) (60 : Int32)) = true then (if (f_X6_told S (t + 40 + 1) a2) = true then (bd (f_X8_rule F S t) fun q1 => bd (f_X8_tryDays F S t a1 q1) fun q2 => ck (inb a2 7) (some (q2, q2.1 (t + 364 + 2) a2.toNatClampNeg))) else (some (S, (-1 : Int32)))) else (some (S, (-1 : Int32)))
set_option maxHeartbeats 4000000 in
set_option maxRecDepth 100000 in
theorem c_X8_foretold {F : Nat} {S : mS} {t : Nat} {a1 : Int32} {a2 : Int32} {R : mS × Int32} (ht : kd0 t = 8) (h : f_X8_foretold F S t a1 a2 = some R) : mCt μX8_foretold 7 0 0 E0 S [.ref (t), .int (a1), .int (a2)] (mQe R.1 (some (.int R.2))) := by
  unfold f_X8_foretold at h
  refine mCt.of (by decide) (Nat.le_of_ble_eq_true rfl) ?_
  intro x
  refine mG.iload_n 1 dX8_foretold_0 rfl ?_
  refine mG.iconst (v := 1) dX8_foretold_1 rfl ?_
  refine mG.bipush (v := 60) dX8_foretold_2 (by decide) ?_
  refine mG.callS0 (as := [.int (a1), .int 1, .int 60]) (st := []) (S2 := S) (r := some (.int (bI (f_X8_isWithin S a1 (1 : Int32) (60 : Int32))))) dX8_foretold_4 mbX8_isWithin wk6_19 wk6_18 rfl rfl (by decide) (Nat.le_of_ble_eq_true rfl) (c_X8_isWithin  rfl) ?_
  refine mG.ifz_eq (b := f_X8_isWithin S a1 (1 : Int32) (60 : Int32)) 24 dX8_foretold_7 (by decide) (fun c5 => ?_) (fun c5 => ?_)
  · replace h := itn c5 h
    refine mG.iconst (v := (-1)) dX8_foretold_24 rfl ?_
    obtain rfl := Option.some.inj h
    exact mG.iret dX8_foretold_25 rfl ⟨rfl, rfl, rfl⟩
  · replace h := itp c5 h
    refine mG.aload_n 0 dX8_foretold_10 rfl ?_
    refine mG.get (v := .ref (t + 40)) dX8_foretold_11 mfX8_41 ht (lr8_now ht) ?_
    refine mG.get (v := .ref (t + 40 + 1)) dX8_foretold_14 mfX8_88 (lk8_now ht) (lr7_town (lk8_now ht)) ?_
    refine mG.iload_n 2 dX8_foretold_17 rfl ?_
    refine mG.callV0 (as := [.int (a2)]) (st := []) (S2 := S) (r := some (.int (bI (f_X6_told S (t + 40 + 1) a2)))) dX8_foretold_18 mvX6_told wk44_19 rfl (lk7_town (lk8_now ht)) rfl (by decide) (Nat.le_of_ble_eq_true rfl) (c_X6_told (lk7_town (lk8_now ht)) rfl) ?_
    refine mG.ifz_ne (b := f_X6_told S (t + 40 + 1) a2) 26 dX8_foretold_21 (by decide) (fun c4 => ?_) (fun c4 => ?_)
    · replace h := itp c4 h
      refine mG.aload_n 0 dX8_foretold_26 rfl ?_
      refine mG.iload_n 1 dX8_foretold_27 rfl ?_
      refine mG.aload_n 0 dX8_foretold_28 rfl ?_
      obtain ⟨q1, hq1, h⟩ := bdp h
      refine mG.callV0 (as := []) (st := [.int (a1), .ref (t)]) (S2 := S) (r := some (.ref (q1))) dX8_foretold_29 mvX8_rule wk30_12 rfl ht rfl (by decide) (Nat.le_of_ble_eq_true rfl) (c_X8_rule ht hq1) ?_
      obtain ⟨q2, hq2, h⟩ := bdp h
      refine mG.callV0 (as := [.int (a1), .ref (q1)]) (st := []) (S2 := q2) (r := none) dX8_foretold_32 mvX8_tryDays wk46_23 rfl ht rfl (by decide) (Nat.le_of_ble_eq_true rfl) (c_X8_tryDays ht (rk_X8_rule ht hq1) hq2) ?_
      refine mG.aload_n 0 dX8_foretold_35 rfl ?_
      refine mG.get (v := .ref (t + 364)) dX8_foretold_36 mfX8_51 ht (lr8_trial ht) ?_
      refine mG.get (v := .ref (t + 364 + 2)) dX8_foretold_39 mfX8_201 (lk8_trial ht) (lr6_purse (lk8_trial ht)) ?_
      refine mG.iload_n 2 dX8_foretold_42 rfl ?_
      obtain ⟨b3, h⟩ := ckp h
      refine mG.iald dX8_foretold_43 (lk6_purse (lk8_trial ht)) (ll6_purse (lk8_trial ht)) (inbp b3) ?_
      obtain rfl := Option.some.inj h
      exact mG.iret dX8_foretold_44 rfl ⟨rfl, rfl, rfl⟩
    · replace h := itn c4 h
      refine mG.iconst (v := (-1)) dX8_foretold_24 rfl ?_
      obtain rfl := Option.some.inj h
      exact mG.iret dX8_foretold_25 rfl ⟨rfl, rfl, rfl⟩
theorem dX8_indoors_0 : decode cX8_indoors 0 = .ok (.iload_n 1, 1) := by decide +kernel
theorem dX8_indoors_1 : decode cX8_indoors 1 = .ok (.iconst 1, 1) := by decide +kernel
theorem dX8_indoors_2 : decode cX8_indoors 2 = .ok (.bipush 7, 2) := by decide +kernel
theorem dX8_indoors_4 : decode cX8_indoors 4 = .ok (.invokestatic 84, 3) := by decide +kernel
theorem dX8_indoors_7 : decode cX8_indoors 7 = .ok (.ifCond .ne 5, 3) := by decide +kernel
theorem dX8_indoors_10 : decode cX8_indoors 10 = .ok (.iconst (-1), 1) := by decide +kernel
theorem dX8_indoors_11 : decode cX8_indoors 11 = .ok (.ireturn, 1) := by decide +kernel
theorem dX8_indoors_12 : decode cX8_indoors 12 = .ok (.iconst 0, 1) := by decide +kernel
theorem dX8_indoors_13 : decode cX8_indoors 13 = .ok (.istore_n 2, 1) := by decide +kernel
theorem dX8_indoors_14 : decode cX8_indoors 14 = .ok (.iload_n 2, 1) := by decide +kernel
theorem dX8_indoors_15 : decode cX8_indoors 15 = .ok (.bipush 60, 2) := by decide +kernel
theorem dX8_indoors_17 : decode cX8_indoors 17 = .ok (.if_icmp .gt 40, 3) := by decide +kernel
theorem dX8_indoors_20 : decode cX8_indoors 20 = .ok (.aload_n 0, 1) := by decide +kernel
theorem dX8_indoors_21 : decode cX8_indoors 21 = .ok (.getfield 41, 3) := by decide +kernel
theorem dX8_indoors_24 : decode cX8_indoors 24 = .ok (.getfield 88, 3) := by decide +kernel
theorem dX8_indoors_27 : decode cX8_indoors 27 = .ok (.aload_n 0, 1) := by decide +kernel
theorem dX8_indoors_28 : decode cX8_indoors 28 = .ok (.getfield 41, 3) := by decide +kernel
theorem dX8_indoors_31 : decode cX8_indoors 31 = .ok (.getfield 88, 3) := by decide +kernel
theorem dX8_indoors_34 : decode cX8_indoors 34 = .ok (.getfield 166, 3) := by decide +kernel
theorem dX8_indoors_37 : decode cX8_indoors 37 = .ok (.iload_n 2, 1) := by decide +kernel
theorem dX8_indoors_38 : decode cX8_indoors 38 = .ok (.iadd, 1) := by decide +kernel
theorem dX8_indoors_39 : decode cX8_indoors 39 = .ok (.bipush 20, 2) := by decide +kernel
theorem dX8_indoors_41 : decode cX8_indoors 41 = .ok (.irem, 1) := by decide +kernel
theorem dX8_indoors_42 : decode cX8_indoors 42 = .ok (.invokevirtual 244, 3) := by decide +kernel
theorem dX8_indoors_45 : decode cX8_indoors 45 = .ok (.iload_n 1, 1) := by decide +kernel
theorem dX8_indoors_46 : decode cX8_indoors 46 = .ok (.if_icmp .lt 5, 3) := by decide +kernel
theorem dX8_indoors_49 : decode cX8_indoors 49 = .ok (.iload_n 2, 1) := by decide +kernel
theorem dX8_indoors_50 : decode cX8_indoors 50 = .ok (.ireturn, 1) := by decide +kernel
theorem dX8_indoors_51 : decode cX8_indoors 51 = .ok (.iinc 2 1, 3) := by decide +kernel
theorem dX8_indoors_54 : decode cX8_indoors 54 = .ok (.goto (-40), 3) := by decide +kernel
theorem dX8_indoors_57 : decode cX8_indoors 57 = .ok (.iconst (-1), 1) := by decide +kernel
theorem dX8_indoors_58 : decode cX8_indoors 58 = .ok (.ireturn, 1) := by decide +kernel
def lX8_indoors_14 (F : Nat)  (t : Nat) (a1 : Int32) : Nat → mS → Int32 → Option Int32
  | 0, _, _ => none
  | n + 1, S0, v2 => if (60 : Int32) < v2 then (some (-1 : Int32)) else (bd (f_X6_howManyShut F S0 (t + 40 + 1) (((S0.1 (t + 40 + 1) 7) + v2) - ((S0.1 (t + 40 + 1) 7) + v2) / (20 : Int32) * (20 : Int32))) fun q1 => if q1 < a1 then (lX8_indoors_14 F  t a1 n S0 (v2 + 1)) else (some v2))
set_option maxHeartbeats 4000000 in
set_option maxRecDepth 100000 in
theorem gX8_indoors_14 {x : mX} {F : Nat} {t : Nat} {a1 : Int32} {S0 : mS}   {R : Int32} (ht : kd0 t = 8)  : ∀ (n : Nat) (v2 : Int32), lX8_indoors_14 F  t a1 n S0 v2 = some R → mG x μX8_indoors 4 0 0 (mQe S0 (some (.int R))) 0 0 E0 S0 14 [(0, .ref (t)), (1, .int (a1)), (2, .int (v2))] [] := by
  intro n
  induction n with
  | zero =>
    intro v2 h
    cases h
  | succ n ih =>
    intro v2 h
    unfold lX8_indoors_14 at h
    refine mG.iload_n 2 dX8_indoors_14 rfl ?_
    refine mG.bipush (v := 60) dX8_indoors_15 (by decide) ?_
    refine mG.icmp_gt 57 dX8_indoors_17 (by decide) (fun c3 => ?_) (fun c3 => ?_)
    · replace h := itp c3 h
      refine mG.iconst (v := (-1)) dX8_indoors_57 rfl ?_
      obtain rfl := Option.some.inj h
      exact mG.iret dX8_indoors_58 rfl ⟨rfl, rfl, rfl⟩
    · replace h := itn c3 h
      refine mG.aload_n 0 dX8_indoors_20 rfl ?_
      refine mG.get (v := .ref (t + 40)) dX8_indoors_21 mfX8_41 ht (lr8_now ht) ?_
      refine mG.get (v := .ref (t + 40 + 1)) dX8_indoors_24 mfX8_88 (lk8_now ht) (lr7_town (lk8_now ht)) ?_
      refine mG.aload_n 0 dX8_indoors_27 rfl ?_
      refine mG.get (v := .ref (t + 40)) dX8_indoors_28 mfX8_41 ht (lr8_now ht) ?_
      refine mG.get (v := .ref (t + 40 + 1)) dX8_indoors_31 mfX8_88 (lk8_now ht) (lr7_town (lk8_now ht)) ?_
      refine mG.get (v := .int (S0.1 (t + 40 + 1) 7)) dX8_indoors_34 mfX8_166 (lk7_town (lk8_now ht)) rfl ?_
      refine mG.iload_n 2 dX8_indoors_37 rfl ?_
      refine mG.iadd dX8_indoors_38 ?_
      refine mG.bipush (v := 20) dX8_indoors_39 (by decide) ?_
      refine mG.irem dX8_indoors_41 (by decide) ?_
      obtain ⟨q1, hq1, h⟩ := bdp h
      refine mG.callV0 (as := [.int (((S0.1 (t + 40 + 1) 7) + v2) - ((S0.1 (t + 40 + 1) 7) + v2) / (20 : Int32) * (20 : Int32))]) (st := []) (S2 := S0) (r := some (.int (q1))) dX8_indoors_42 mvX6_howManyShut wk48_0 rfl (lk7_town (lk8_now ht)) rfl (by decide) (Nat.le_of_ble_eq_true rfl) (c_X6_howManyShut (lk7_town (lk8_now ht)) hq1) ?_
      refine mG.iload_n 1 dX8_indoors_45 rfl ?_
      refine mG.icmp_lt 51 dX8_indoors_46 (by decide) (fun c2 => ?_) (fun c2 => ?_)
      · replace h := itp c2 h
        refine mG.iinc 2 (u := v2 + 1) (lv2 := [(2, .int (v2 + 1)), (0, .ref (t)), (1, .int (a1))]) dX8_indoors_51 rfl rfl (by decide) rfl ?_
        refine mG.goto 14 dX8_indoors_54 (by decide) ?_
        refine mG.sub (lv2 := [(0, .ref (t)), (1, .int (a1)), (2, .int (v2 + 1))]) [1, 2, 0] rfl ?_
        exact ih  (v2 + 1)  h
      · replace h := itn c2 h
        refine mG.iload_n 2 dX8_indoors_49 rfl ?_
        obtain rfl := Option.some.inj h
        exact mG.iret dX8_indoors_50 rfl ⟨rfl, rfl, rfl⟩
def f_X8_indoors (F : Nat) (S0 : mS) (t : Nat) (a1 : Int32) : Option Int32 := if (f_X8_isWithin S0 a1 (1 : Int32) (7 : Int32)) = true then (lX8_indoors_14 F  t a1 F S0 (0 : Int32)) else (some (-1 : Int32))
set_option maxHeartbeats 4000000 in
set_option maxRecDepth 100000 in
theorem c_X8_indoors {F : Nat} {S0 : mS} {t : Nat} {a1 : Int32} {R : Int32} (ht : kd0 t = 8) (h : f_X8_indoors F S0 t a1 = some R) : mCt μX8_indoors 4 0 0 E0 S0 [.ref (t), .int (a1)] (mQe S0 (some (.int R))) := by
  unfold f_X8_indoors at h
  refine mCt.of (by decide) (Nat.le_of_ble_eq_true rfl) ?_
  intro x
  refine mG.iload_n 1 dX8_indoors_0 rfl ?_
  refine mG.iconst (v := 1) dX8_indoors_1 rfl ?_
  refine mG.bipush (v := 7) dX8_indoors_2 (by decide) ?_
  refine mG.callS0 (as := [.int (a1), .int 1, .int 7]) (st := []) (S2 := S0) (r := some (.int (bI (f_X8_isWithin S0 a1 (1 : Int32) (7 : Int32))))) dX8_indoors_4 mbX8_isWithin wk6_19 wk6_18 rfl rfl (by decide) (Nat.le_of_ble_eq_true rfl) (c_X8_isWithin  rfl) ?_
  refine mG.ifz_ne (b := f_X8_isWithin S0 a1 (1 : Int32) (7 : Int32)) 12 dX8_indoors_7 (by decide) (fun c1 => ?_) (fun c1 => ?_)
  · replace h := itp c1 h
    refine mG.iconst (v := 0) dX8_indoors_12 rfl ?_
    refine mG.istore_n (lv2 := [(2, .int 0), (0, .ref (t)), (1, .int (a1))]) dX8_indoors_13 rfl (by decide) rfl ?_
    refine mG.sub (lv2 := [(0, .ref (t)), (1, .int (a1)), (2, .int 0)]) [1, 2, 0] rfl ?_
    exact gX8_indoors_14 ht  F  (0 : Int32)  h
  · replace h := itn c1 h
    refine mG.iconst (v := (-1)) dX8_indoors_10 rfl ?_
    obtain rfl := Option.some.inj h
    exact mG.iret dX8_indoors_11 rfl ⟨rfl, rfl, rfl⟩
theorem dX8_crowded_0 : decode cX8_crowded 0 = .ok (.iconst 0, 1) := by decide +kernel
theorem dX8_crowded_1 : decode cX8_crowded 1 = .ok (.istore_n 2, 1) := by decide +kernel
theorem dX8_crowded_2 : decode cX8_crowded 2 = .ok (.iconst 1, 1) := by decide +kernel
theorem dX8_crowded_3 : decode cX8_crowded 3 = .ok (.istore_n 3, 1) := by decide +kernel
theorem dX8_crowded_4 : decode cX8_crowded 4 = .ok (.iload_n 3, 1) := by decide +kernel
theorem dX8_crowded_5 : decode cX8_crowded 5 = .ok (.bipush 20, 2) := by decide +kernel
theorem dX8_crowded_7 : decode cX8_crowded 7 = .ok (.if_icmp .ge 36, 3) := by decide +kernel
theorem dX8_crowded_10 : decode cX8_crowded 10 = .ok (.aload_n 0, 1) := by decide +kernel
theorem dX8_crowded_11 : decode cX8_crowded 11 = .ok (.getfield 41, 3) := by decide +kernel
theorem dX8_crowded_14 : decode cX8_crowded 14 = .ok (.getfield 88, 3) := by decide +kernel
theorem dX8_crowded_17 : decode cX8_crowded 17 = .ok (.iload_n 3, 1) := by decide +kernel
theorem dX8_crowded_18 : decode cX8_crowded 18 = .ok (.invokevirtual 244, 3) := by decide +kernel
theorem dX8_crowded_21 : decode cX8_crowded 21 = .ok (.aload_n 0, 1) := by decide +kernel
theorem dX8_crowded_22 : decode cX8_crowded 22 = .ok (.getfield 41, 3) := by decide +kernel
theorem dX8_crowded_25 : decode cX8_crowded 25 = .ok (.getfield 88, 3) := by decide +kernel
theorem dX8_crowded_28 : decode cX8_crowded 28 = .ok (.iload_n 2, 1) := by decide +kernel
theorem dX8_crowded_29 : decode cX8_crowded 29 = .ok (.invokevirtual 244, 3) := by decide +kernel
theorem dX8_crowded_32 : decode cX8_crowded 32 = .ok (.if_icmp .le 5, 3) := by decide +kernel
theorem dX8_crowded_35 : decode cX8_crowded 35 = .ok (.iload_n 3, 1) := by decide +kernel
theorem dX8_crowded_36 : decode cX8_crowded 36 = .ok (.istore_n 2, 1) := by decide +kernel
theorem dX8_crowded_37 : decode cX8_crowded 37 = .ok (.iinc 3 1, 3) := by decide +kernel
theorem dX8_crowded_40 : decode cX8_crowded 40 = .ok (.goto (-36), 3) := by decide +kernel
theorem dX8_crowded_43 : decode cX8_crowded 43 = .ok (.iload_n 1, 1) := by decide +kernel
theorem dX8_crowded_44 : decode cX8_crowded 44 = .ok (.ifCond .eq 17, 3) := by decide +kernel
theorem dX8_crowded_47 : decode cX8_crowded 47 = .ok (.aload_n 0, 1) := by decide +kernel
theorem dX8_crowded_48 : decode cX8_crowded 48 = .ok (.getfield 41, 3) := by decide +kernel
theorem dX8_crowded_51 : decode cX8_crowded 51 = .ok (.getfield 88, 3) := by decide +kernel
theorem dX8_crowded_54 : decode cX8_crowded 54 = .ok (.iload_n 2, 1) := by decide +kernel
theorem dX8_crowded_55 : decode cX8_crowded 55 = .ok (.invokevirtual 244, 3) := by decide +kernel
theorem dX8_crowded_58 : decode cX8_crowded 58 = .ok (.goto 4, 3) := by decide +kernel
theorem dX8_crowded_61 : decode cX8_crowded 61 = .ok (.iload_n 2, 1) := by decide +kernel
theorem dX8_crowded_62 : decode cX8_crowded 62 = .ok (.ireturn, 1) := by decide +kernel
def lX8_crowded_4 (F : Nat)  (t : Nat) (a1 : Int32) : Nat → mS → Int32 → Int32 → Option Int32
  | 0, _, _, _ => none
  | n + 1, S0, v2, v3 => if (20 : Int32) ≤ v3 then (if a1 = 0 then (some v2) else (bd (f_X6_howManyShut F S0 (t + 40 + 1) v2) fun q1 => some q1)) else (bd (f_X6_howManyShut F S0 (t + 40 + 1) v3) fun q3 => bd (f_X6_howManyShut F S0 (t + 40 + 1) v2) fun q4 => if q3 ≤ q4 then (lX8_crowded_4 F  t a1 n S0 v2 (v3 + 1)) else (lX8_crowded_4 F  t a1 n S0 v3 (v3 + 1)))
set_option maxHeartbeats 4000000 in
set_option maxRecDepth 100000 in
theorem gX8_crowded_4 {x : mX} {F : Nat} {t : Nat} {a1 : Int32} {S0 : mS}   {R : Int32} (ht : kd0 t = 8)  : ∀ (n : Nat) (v2 : Int32) (v3 : Int32), lX8_crowded_4 F  t a1 n S0 v2 v3 = some R → mG x μX8_crowded 4 0 0 (mQe S0 (some (.int R))) 0 0 E0 S0 4 [(0, .ref (t)), (1, .int (a1)), (2, .int (v2)), (3, .int (v3))] [] := by
  intro n
  induction n with
  | zero =>
    intro v2 v3 h
    cases h
  | succ n ih =>
    intro v2 v3 h
    unfold lX8_crowded_4 at h
    refine mG.iload_n 3 dX8_crowded_4 rfl ?_
    refine mG.bipush (v := 20) dX8_crowded_5 (by decide) ?_
    refine mG.icmp_ge 43 dX8_crowded_7 (by decide) (fun c6 => ?_) (fun c6 => ?_)
    · replace h := itp c6 h
      refine mG.iload_n 1 dX8_crowded_43 rfl ?_
      refine mG.if_eq 61 dX8_crowded_44 (by decide) (fun c2 => ?_) (fun c2 => ?_)
      · replace h := itp c2 h
        refine mG.iload_n 2 dX8_crowded_61 rfl ?_
        obtain rfl := Option.some.inj h
        exact mG.iret dX8_crowded_62 rfl ⟨rfl, rfl, rfl⟩
      · replace h := itn c2 h
        refine mG.aload_n 0 dX8_crowded_47 rfl ?_
        refine mG.get (v := .ref (t + 40)) dX8_crowded_48 mfX8_41 ht (lr8_now ht) ?_
        refine mG.get (v := .ref (t + 40 + 1)) dX8_crowded_51 mfX8_88 (lk8_now ht) (lr7_town (lk8_now ht)) ?_
        refine mG.iload_n 2 dX8_crowded_54 rfl ?_
        obtain ⟨q1, hq1, h⟩ := bdp h
        refine mG.callV0 (as := [.int (v2)]) (st := []) (S2 := S0) (r := some (.int (q1))) dX8_crowded_55 mvX6_howManyShut wk48_0 rfl (lk7_town (lk8_now ht)) rfl (by decide) (Nat.le_of_ble_eq_true rfl) (c_X6_howManyShut (lk7_town (lk8_now ht)) hq1) ?_
        refine mG.goto 62 dX8_crowded_58 (by decide) ?_
        obtain rfl := Option.some.inj h
        exact mG.iret dX8_crowded_62 rfl ⟨rfl, rfl, rfl⟩
    · replace h := itn c6 h
      refine mG.aload_n 0 dX8_crowded_10 rfl ?_
      refine mG.get (v := .ref (t + 40)) dX8_crowded_11 mfX8_41 ht (lr8_now ht) ?_
      refine mG.get (v := .ref (t + 40 + 1)) dX8_crowded_14 mfX8_88 (lk8_now ht) (lr7_town (lk8_now ht)) ?_
      refine mG.iload_n 3 dX8_crowded_17 rfl ?_
      obtain ⟨q3, hq3, h⟩ := bdp h
      refine mG.callV0 (as := [.int (v3)]) (st := []) (S2 := S0) (r := some (.int (q3))) dX8_crowded_18 mvX6_howManyShut wk48_0 rfl (lk7_town (lk8_now ht)) rfl (by decide) (Nat.le_of_ble_eq_true rfl) (c_X6_howManyShut (lk7_town (lk8_now ht)) hq3) ?_
      refine mG.aload_n 0 dX8_crowded_21 rfl ?_
      refine mG.get (v := .ref (t + 40)) dX8_crowded_22 mfX8_41 ht (lr8_now ht) ?_
      refine mG.get (v := .ref (t + 40 + 1)) dX8_crowded_25 mfX8_88 (lk8_now ht) (lr7_town (lk8_now ht)) ?_
      refine mG.iload_n 2 dX8_crowded_28 rfl ?_
      obtain ⟨q4, hq4, h⟩ := bdp h
      refine mG.callV0 (as := [.int (v2)]) (st := [.int (q3)]) (S2 := S0) (r := some (.int (q4))) dX8_crowded_29 mvX6_howManyShut wk48_0 rfl (lk7_town (lk8_now ht)) rfl (by decide) (Nat.le_of_ble_eq_true rfl) (c_X6_howManyShut (lk7_town (lk8_now ht)) hq4) ?_
      refine mG.icmp_le 37 dX8_crowded_32 (by decide) (fun c5 => ?_) (fun c5 => ?_)
      · replace h := itp c5 h
        refine mG.iinc 3 (u := v3 + 1) (lv2 := [(3, .int (v3 + 1)), (0, .ref (t)), (1, .int (a1)), (2, .int (v2))]) dX8_crowded_37 rfl rfl (by decide) rfl ?_
        refine mG.goto 4 dX8_crowded_40 (by decide) ?_
        refine mG.sub (lv2 := [(0, .ref (t)), (1, .int (a1)), (2, .int (v2)), (3, .int (v3 + 1))]) [1, 2, 3, 0] rfl ?_
        exact ih  v2 (v3 + 1)  h
      · replace h := itn c5 h
        refine mG.iload_n 3 dX8_crowded_35 rfl ?_
        refine mG.istore_n (lv2 := [(2, .int (v3)), (0, .ref (t)), (1, .int (a1)), (3, .int (v3))]) dX8_crowded_36 rfl (by decide) rfl ?_
        refine mG.iinc 3 (u := v3 + 1) (lv2 := [(3, .int (v3 + 1)), (2, .int (v3)), (0, .ref (t)), (1, .int (a1))]) dX8_crowded_37 rfl rfl (by decide) rfl ?_
        refine mG.goto 4 dX8_crowded_40 (by decide) ?_
        refine mG.sub (lv2 := [(0, .ref (t)), (1, .int (a1)), (2, .int (v3)), (3, .int (v3 + 1))]) [2, 3, 1, 0] rfl ?_
        exact ih  v3 (v3 + 1)  h
def f_X8_crowded (F : Nat) (S0 : mS) (t : Nat) (a1 : Int32) : Option Int32 := lX8_crowded_4 F  t a1 F S0 (0 : Int32) (1 : Int32)
set_option maxHeartbeats 4000000 in
set_option maxRecDepth 100000 in
theorem c_X8_crowded {F : Nat} {S0 : mS} {t : Nat} {a1 : Int32} {R : Int32} (ht : kd0 t = 8) (h : f_X8_crowded F S0 t a1 = some R) : mCt μX8_crowded 4 0 0 E0 S0 [.ref (t), .int (a1)] (mQe S0 (some (.int R))) := by
  unfold f_X8_crowded at h
  refine mCt.of (by decide) (Nat.le_of_ble_eq_true rfl) ?_
  intro x
  refine mG.iconst (v := 0) dX8_crowded_0 rfl ?_
  refine mG.istore_n (lv2 := [(2, .int 0), (0, .ref (t)), (1, .int (a1))]) dX8_crowded_1 rfl (by decide) rfl ?_
  refine mG.iconst (v := 1) dX8_crowded_2 rfl ?_
  refine mG.istore_n (lv2 := [(3, .int 1), (2, .int 0), (0, .ref (t)), (1, .int (a1))]) dX8_crowded_3 rfl (by decide) rfl ?_
  refine mG.sub (lv2 := [(0, .ref (t)), (1, .int (a1)), (2, .int 0), (3, .int 1)]) [2, 3, 1, 0] rfl ?_
  exact gX8_crowded_4 ht  F  (0 : Int32) (1 : Int32)  h
theorem dX8_feast_0 : decode cX8_feast 0 = .ok (.iconst 0, 1) := by decide +kernel
theorem dX8_feast_1 : decode cX8_feast 1 = .ok (.istore_n 2, 1) := by decide +kernel
theorem dX8_feast_2 : decode cX8_feast 2 = .ok (.iconst 1, 1) := by decide +kernel
theorem dX8_feast_3 : decode cX8_feast 3 = .ok (.istore_n 3, 1) := by decide +kernel
theorem dX8_feast_4 : decode cX8_feast 4 = .ok (.iload_n 3, 1) := by decide +kernel
theorem dX8_feast_5 : decode cX8_feast 5 = .ok (.bipush 20, 2) := by decide +kernel
theorem dX8_feast_7 : decode cX8_feast 7 = .ok (.if_icmp .ge 36, 3) := by decide +kernel
theorem dX8_feast_10 : decode cX8_feast 10 = .ok (.aload_n 0, 1) := by decide +kernel
theorem dX8_feast_11 : decode cX8_feast 11 = .ok (.getfield 41, 3) := by decide +kernel
theorem dX8_feast_14 : decode cX8_feast 14 = .ok (.getfield 88, 3) := by decide +kernel
theorem dX8_feast_17 : decode cX8_feast 17 = .ok (.iload_n 3, 1) := by decide +kernel
theorem dX8_feast_18 : decode cX8_feast 18 = .ok (.invokevirtual 247, 3) := by decide +kernel
theorem dX8_feast_21 : decode cX8_feast 21 = .ok (.aload_n 0, 1) := by decide +kernel
theorem dX8_feast_22 : decode cX8_feast 22 = .ok (.getfield 41, 3) := by decide +kernel
theorem dX8_feast_25 : decode cX8_feast 25 = .ok (.getfield 88, 3) := by decide +kernel
theorem dX8_feast_28 : decode cX8_feast 28 = .ok (.iload_n 2, 1) := by decide +kernel
theorem dX8_feast_29 : decode cX8_feast 29 = .ok (.invokevirtual 247, 3) := by decide +kernel
theorem dX8_feast_32 : decode cX8_feast 32 = .ok (.if_icmp .le 5, 3) := by decide +kernel
theorem dX8_feast_35 : decode cX8_feast 35 = .ok (.iload_n 3, 1) := by decide +kernel
theorem dX8_feast_36 : decode cX8_feast 36 = .ok (.istore_n 2, 1) := by decide +kernel
theorem dX8_feast_37 : decode cX8_feast 37 = .ok (.iinc 3 1, 3) := by decide +kernel
theorem dX8_feast_40 : decode cX8_feast 40 = .ok (.goto (-36), 3) := by decide +kernel
theorem dX8_feast_43 : decode cX8_feast 43 = .ok (.iload_n 1, 1) := by decide +kernel
theorem dX8_feast_44 : decode cX8_feast 44 = .ok (.ifCond .eq 17, 3) := by decide +kernel
theorem dX8_feast_47 : decode cX8_feast 47 = .ok (.aload_n 0, 1) := by decide +kernel
theorem dX8_feast_48 : decode cX8_feast 48 = .ok (.getfield 41, 3) := by decide +kernel
theorem dX8_feast_51 : decode cX8_feast 51 = .ok (.getfield 88, 3) := by decide +kernel
theorem dX8_feast_54 : decode cX8_feast 54 = .ok (.iload_n 2, 1) := by decide +kernel
theorem dX8_feast_55 : decode cX8_feast 55 = .ok (.invokevirtual 247, 3) := by decide +kernel
theorem dX8_feast_58 : decode cX8_feast 58 = .ok (.goto 4, 3) := by decide +kernel
theorem dX8_feast_61 : decode cX8_feast 61 = .ok (.iload_n 2, 1) := by decide +kernel
theorem dX8_feast_62 : decode cX8_feast 62 = .ok (.ireturn, 1) := by decide +kernel
def lX8_feast_4 (F : Nat)  (t : Nat) (a1 : Int32) : Nat → mS → Int32 → Int32 → Option Int32
  | 0, _, _, _ => none
  | n + 1, S0, v2, v3 => if (20 : Int32) ≤ v3 then (if a1 = 0 then (some v2) else (bd (f_X6_guestsOn F S0 (t + 40 + 1) v2) fun q1 => some q1)) else (bd (f_X6_guestsOn F S0 (t + 40 + 1) v3) fun q3 => bd (f_X6_guestsOn F S0 (t + 40 + 1) v2) fun q4 => if q3 ≤ q4 then (lX8_feast_4 F  t a1 n S0 v2 (v3 + 1)) else (lX8_feast_4 F  t a1 n S0 v3 (v3 + 1)))
set_option maxHeartbeats 4000000 in
set_option maxRecDepth 100000 in
theorem gX8_feast_4 {x : mX} {F : Nat} {t : Nat} {a1 : Int32} {S0 : mS}   {R : Int32} (ht : kd0 t = 8)  : ∀ (n : Nat) (v2 : Int32) (v3 : Int32), lX8_feast_4 F  t a1 n S0 v2 v3 = some R → mG x μX8_feast 5 0 0 (mQe S0 (some (.int R))) 0 0 E0 S0 4 [(0, .ref (t)), (1, .int (a1)), (2, .int (v2)), (3, .int (v3))] [] := by
  intro n
  induction n with
  | zero =>
    intro v2 v3 h
    cases h
  | succ n ih =>
    intro v2 v3 h
    unfold lX8_feast_4 at h
    refine mG.iload_n 3 dX8_feast_4 rfl ?_
    refine mG.bipush (v := 20) dX8_feast_5 (by decide) ?_
    refine mG.icmp_ge 43 dX8_feast_7 (by decide) (fun c6 => ?_) (fun c6 => ?_)
    · replace h := itp c6 h
      refine mG.iload_n 1 dX8_feast_43 rfl ?_
      refine mG.if_eq 61 dX8_feast_44 (by decide) (fun c2 => ?_) (fun c2 => ?_)
      · replace h := itp c2 h
        refine mG.iload_n 2 dX8_feast_61 rfl ?_
        obtain rfl := Option.some.inj h
        exact mG.iret dX8_feast_62 rfl ⟨rfl, rfl, rfl⟩
      · replace h := itn c2 h
        refine mG.aload_n 0 dX8_feast_47 rfl ?_
        refine mG.get (v := .ref (t + 40)) dX8_feast_48 mfX8_41 ht (lr8_now ht) ?_
        refine mG.get (v := .ref (t + 40 + 1)) dX8_feast_51 mfX8_88 (lk8_now ht) (lr7_town (lk8_now ht)) ?_
        refine mG.iload_n 2 dX8_feast_54 rfl ?_
        obtain ⟨q1, hq1, h⟩ := bdp h
        refine mG.callV0 (as := [.int (v2)]) (st := []) (S2 := S0) (r := some (.int (q1))) dX8_feast_55 mvX6_guestsOn wk49_0 rfl (lk7_town (lk8_now ht)) rfl (by decide) (Nat.le_of_ble_eq_true rfl) (c_X6_guestsOn (lk7_town (lk8_now ht)) hq1) ?_
        refine mG.goto 62 dX8_feast_58 (by decide) ?_
        obtain rfl := Option.some.inj h
        exact mG.iret dX8_feast_62 rfl ⟨rfl, rfl, rfl⟩
    · replace h := itn c6 h
      refine mG.aload_n 0 dX8_feast_10 rfl ?_
      refine mG.get (v := .ref (t + 40)) dX8_feast_11 mfX8_41 ht (lr8_now ht) ?_
      refine mG.get (v := .ref (t + 40 + 1)) dX8_feast_14 mfX8_88 (lk8_now ht) (lr7_town (lk8_now ht)) ?_
      refine mG.iload_n 3 dX8_feast_17 rfl ?_
      obtain ⟨q3, hq3, h⟩ := bdp h
      refine mG.callV0 (as := [.int (v3)]) (st := []) (S2 := S0) (r := some (.int (q3))) dX8_feast_18 mvX6_guestsOn wk49_0 rfl (lk7_town (lk8_now ht)) rfl (by decide) (Nat.le_of_ble_eq_true rfl) (c_X6_guestsOn (lk7_town (lk8_now ht)) hq3) ?_
      refine mG.aload_n 0 dX8_feast_21 rfl ?_
      refine mG.get (v := .ref (t + 40)) dX8_feast_22 mfX8_41 ht (lr8_now ht) ?_
      refine mG.get (v := .ref (t + 40 + 1)) dX8_feast_25 mfX8_88 (lk8_now ht) (lr7_town (lk8_now ht)) ?_
      refine mG.iload_n 2 dX8_feast_28 rfl ?_
      obtain ⟨q4, hq4, h⟩ := bdp h
      refine mG.callV0 (as := [.int (v2)]) (st := [.int (q3)]) (S2 := S0) (r := some (.int (q4))) dX8_feast_29 mvX6_guestsOn wk49_0 rfl (lk7_town (lk8_now ht)) rfl (by decide) (Nat.le_of_ble_eq_true rfl) (c_X6_guestsOn (lk7_town (lk8_now ht)) hq4) ?_
      refine mG.icmp_le 37 dX8_feast_32 (by decide) (fun c5 => ?_) (fun c5 => ?_)
      · replace h := itp c5 h
        refine mG.iinc 3 (u := v3 + 1) (lv2 := [(3, .int (v3 + 1)), (0, .ref (t)), (1, .int (a1)), (2, .int (v2))]) dX8_feast_37 rfl rfl (by decide) rfl ?_
        refine mG.goto 4 dX8_feast_40 (by decide) ?_
        refine mG.sub (lv2 := [(0, .ref (t)), (1, .int (a1)), (2, .int (v2)), (3, .int (v3 + 1))]) [1, 2, 3, 0] rfl ?_
        exact ih  v2 (v3 + 1)  h
      · replace h := itn c5 h
        refine mG.iload_n 3 dX8_feast_35 rfl ?_
        refine mG.istore_n (lv2 := [(2, .int (v3)), (0, .ref (t)), (1, .int (a1)), (3, .int (v3))]) dX8_feast_36 rfl (by decide) rfl ?_
        refine mG.iinc 3 (u := v3 + 1) (lv2 := [(3, .int (v3 + 1)), (2, .int (v3)), (0, .ref (t)), (1, .int (a1))]) dX8_feast_37 rfl rfl (by decide) rfl ?_
        refine mG.goto 4 dX8_feast_40 (by decide) ?_
        refine mG.sub (lv2 := [(0, .ref (t)), (1, .int (a1)), (2, .int (v3)), (3, .int (v3 + 1))]) [2, 3, 1, 0] rfl ?_
        exact ih  v3 (v3 + 1)  h
def f_X8_feast (F : Nat) (S0 : mS) (t : Nat) (a1 : Int32) : Option Int32 := lX8_feast_4 F  t a1 F S0 (0 : Int32) (1 : Int32)
set_option maxHeartbeats 4000000 in
set_option maxRecDepth 100000 in
theorem c_X8_feast {F : Nat} {S0 : mS} {t : Nat} {a1 : Int32} {R : Int32} (ht : kd0 t = 8) (h : f_X8_feast F S0 t a1 = some R) : mCt μX8_feast 5 0 0 E0 S0 [.ref (t), .int (a1)] (mQe S0 (some (.int R))) := by
  unfold f_X8_feast at h
  refine mCt.of (by decide) (Nat.le_of_ble_eq_true rfl) ?_
  intro x
  refine mG.iconst (v := 0) dX8_feast_0 rfl ?_
  refine mG.istore_n (lv2 := [(2, .int 0), (0, .ref (t)), (1, .int (a1))]) dX8_feast_1 rfl (by decide) rfl ?_
  refine mG.iconst (v := 1) dX8_feast_2 rfl ?_
  refine mG.istore_n (lv2 := [(3, .int 1), (2, .int 0), (0, .ref (t)), (1, .int (a1))]) dX8_feast_3 rfl (by decide) rfl ?_
  refine mG.sub (lv2 := [(0, .ref (t)), (1, .int (a1)), (2, .int 0), (3, .int 1)]) [2, 3, 1, 0] rfl ?_
  exact gX8_feast_4 ht  F  (0 : Int32) (1 : Int32)  h
theorem dX8_alone_0 : decode cX8_alone 0 = .ok (.aload_n 0, 1) := by decide +kernel
theorem dX8_alone_1 : decode cX8_alone 1 = .ok (.getfield 41, 3) := by decide +kernel
theorem dX8_alone_4 : decode cX8_alone 4 = .ok (.getfield 88, 3) := by decide +kernel
theorem dX8_alone_7 : decode cX8_alone 7 = .ok (.astore_n 1, 1) := by decide +kernel
theorem dX8_alone_8 : decode cX8_alone 8 = .ok (.iconst 0, 1) := by decide +kernel
theorem dX8_alone_9 : decode cX8_alone 9 = .ok (.istore_n 2, 1) := by decide +kernel
theorem dX8_alone_10 : decode cX8_alone 10 = .ok (.iconst 0, 1) := by decide +kernel
theorem dX8_alone_11 : decode cX8_alone 11 = .ok (.istore_n 3, 1) := by decide +kernel
theorem dX8_alone_12 : decode cX8_alone 12 = .ok (.iload_n 3, 1) := by decide +kernel
theorem dX8_alone_13 : decode cX8_alone 13 = .ok (.aload_n 1, 1) := by decide +kernel
theorem dX8_alone_14 : decode cX8_alone 14 = .ok (.getfield 183, 3) := by decide +kernel
theorem dX8_alone_17 : decode cX8_alone 17 = .ok (.if_icmp .ge 38, 3) := by decide +kernel
theorem dX8_alone_20 : decode cX8_alone 20 = .ok (.aload_n 1, 1) := by decide +kernel
theorem dX8_alone_21 : decode cX8_alone 21 = .ok (.iload_n 3, 1) := by decide +kernel
theorem dX8_alone_22 : decode cX8_alone 22 = .ok (.invokevirtual 136, 3) := by decide +kernel
theorem dX8_alone_25 : decode cX8_alone 25 = .ok (.ifCond .eq 24, 3) := by decide +kernel
theorem dX8_alone_28 : decode cX8_alone 28 = .ok (.aload_n 1, 1) := by decide +kernel
theorem dX8_alone_29 : decode cX8_alone 29 = .ok (.getfield 198, 3) := by decide +kernel
theorem dX8_alone_32 : decode cX8_alone 32 = .ok (.iload_n 3, 1) := by decide +kernel
theorem dX8_alone_33 : decode cX8_alone 33 = .ok (.iaload, 1) := by decide +kernel
theorem dX8_alone_34 : decode cX8_alone 34 = .ok (.aload_n 1, 1) := by decide +kernel
theorem dX8_alone_35 : decode cX8_alone 35 = .ok (.iload_n 3, 1) := by decide +kernel
theorem dX8_alone_36 : decode cX8_alone 36 = .ok (.invokevirtual 250, 3) := by decide +kernel
theorem dX8_alone_39 : decode cX8_alone 39 = .ok (.iand, 1) := by decide +kernel
theorem dX8_alone_40 : decode cX8_alone 40 = .ok (.ifCond .ne 9, 3) := by decide +kernel
theorem dX8_alone_43 : decode cX8_alone 43 = .ok (.iload_n 2, 1) := by decide +kernel
theorem dX8_alone_44 : decode cX8_alone 44 = .ok (.iconst 1, 1) := by decide +kernel
theorem dX8_alone_45 : decode cX8_alone 45 = .ok (.iload_n 3, 1) := by decide +kernel
theorem dX8_alone_46 : decode cX8_alone 46 = .ok (.ishl, 1) := by decide +kernel
theorem dX8_alone_47 : decode cX8_alone 47 = .ok (.ior, 1) := by decide +kernel
theorem dX8_alone_48 : decode cX8_alone 48 = .ok (.istore_n 2, 1) := by decide +kernel
theorem dX8_alone_49 : decode cX8_alone 49 = .ok (.iinc 3 1, 3) := by decide +kernel
theorem dX8_alone_52 : decode cX8_alone 52 = .ok (.goto (-40), 3) := by decide +kernel
theorem dX8_alone_55 : decode cX8_alone 55 = .ok (.iload_n 2, 1) := by decide +kernel
theorem dX8_alone_56 : decode cX8_alone 56 = .ok (.ireturn, 1) := by decide +kernel
def lX8_alone_12 (F : Nat)  (t : Nat) : Nat → mS → Int32 → Int32 → Option Int32
  | 0, _, _, _ => none
  | n + 1, S0, v2, v3 => if (S0.1 (t + 40 + 1) 5) ≤ v3 then (some v2) else (if (f_X6_lives S0 (t + 40 + 1) v3) = true then (ck (inb v3 7) (bd (f_X6_datesBut F S0 (t + 40 + 1) v3) fun q2 => if ((S0.1 (t + 40 + 1 + 1) v3.toNatClampNeg) &&& q2) = 0 then (lX8_alone_12 F  t n S0 (v2 ||| ((1 : Int32) <<< (v3 &&& 31))) (v3 + 1)) else (lX8_alone_12 F  t n S0 v2 (v3 + 1)))) else (lX8_alone_12 F  t n S0 v2 (v3 + 1)))
set_option maxHeartbeats 4000000 in
set_option maxRecDepth 100000 in
theorem gX8_alone_12 {x : mX} {F : Nat} {t : Nat} {S0 : mS}   {R : Int32} (ht : kd0 t = 8)  : ∀ (n : Nat) (v2 : Int32) (v3 : Int32) (kr1 : kd0 (t + 40 + 1) = 6), lX8_alone_12 F  t n S0 v2 v3 = some R → mG x μX8_alone 4 0 0 (mQe S0 (some (.int R))) 0 0 E0 S0 12 [(1, .ref (t + 40 + 1)), (2, .int (v2)), (3, .int (v3))] [] := by
  intro n
  induction n with
  | zero =>
    intro v2 v3 kr1 h
    cases h
  | succ n ih =>
    intro v2 v3 kr1 h
    unfold lX8_alone_12 at h
    refine mG.iload_n 2 dX8_alone_12 rfl ?_
    refine mG.aload_n 0 dX8_alone_13 rfl ?_
    refine mG.get (v := .int (S0.1 (t + 40 + 1) 5)) dX8_alone_14 mfX8_183 kr1 rfl ?_
    refine mG.icmp_ge 55 dX8_alone_17 (by decide) (fun c5 => ?_) (fun c5 => ?_)
    · replace h := itp c5 h
      refine mG.iload_n 1 dX8_alone_55 rfl ?_
      obtain rfl := Option.some.inj h
      exact mG.iret dX8_alone_56 rfl ⟨rfl, rfl, rfl⟩
    · replace h := itn c5 h
      refine mG.aload_n 0 dX8_alone_20 rfl ?_
      refine mG.iload_n 2 dX8_alone_21 rfl ?_
      refine mG.callV0 (as := [.int (v3)]) (st := []) (S2 := S0) (r := some (.int (bI (f_X6_lives S0 (t + 40 + 1) v3)))) dX8_alone_22 mvX6_lives wk27_7 rfl kr1 rfl (by decide) (Nat.le_of_ble_eq_true rfl) (c_X6_lives kr1 rfl) ?_
      refine mG.ifz_eq (b := f_X6_lives S0 (t + 40 + 1) v3) 49 dX8_alone_25 (by decide) (fun c4 => ?_) (fun c4 => ?_)
      · replace h := itn c4 h
        refine mG.iinc 2 (u := v3 + 1) (lv2 := [(3, .int (v3 + 1)), (1, .ref (t + 40 + 1)), (2, .int (v2))]) dX8_alone_49 rfl rfl (by decide) rfl ?_
        refine mG.goto 12 dX8_alone_52 (by decide) ?_
        refine mG.sub (lv2 := [(1, .ref (t + 40 + 1)), (2, .int (v2)), (3, .int (v3 + 1))]) [1, 2, 0] rfl ?_
        exact ih  v2 (v3 + 1) kr1 h
      · replace h := itp c4 h
        refine mG.aload_n 0 dX8_alone_28 rfl ?_
        refine mG.get (v := .ref (t + 40 + 1 + 1)) dX8_alone_29 mfX8_198 kr1 (lr6_shut kr1) ?_
        refine mG.iload_n 2 dX8_alone_32 rfl ?_
        obtain ⟨b1, h⟩ := ckp h
        refine mG.iald dX8_alone_33 (lk6_shut kr1) (ll6_shut kr1) (inbp b1) ?_
        refine mG.aload_n 0 dX8_alone_34 rfl ?_
        refine mG.iload_n 2 dX8_alone_35 rfl ?_
        obtain ⟨q2, hq2, h⟩ := bdp h
        refine mG.callV0 (as := [.int (v3)]) (st := [.int (S0.1 (t + 40 + 1 + 1) v3.toNatClampNeg)]) (S2 := S0) (r := some (.int (q2))) dX8_alone_36 mvX6_datesBut wk49_17 rfl kr1 rfl (by decide) (Nat.le_of_ble_eq_true rfl) (c_X6_datesBut kr1 hq2) ?_
        refine mG.iand dX8_alone_39 ?_
        refine mG.if_ne 49 dX8_alone_40 (by decide) (fun c3 => ?_) (fun c3 => ?_)
        · replace h := itn c3 h
          refine mG.iinc 2 (u := v3 + 1) (lv2 := [(3, .int (v3 + 1)), (1, .ref (t + 40 + 1)), (2, .int (v2))]) dX8_alone_49 rfl rfl (by decide) rfl ?_
          refine mG.goto 12 dX8_alone_52 (by decide) ?_
          refine mG.sub (lv2 := [(1, .ref (t + 40 + 1)), (2, .int (v2)), (3, .int (v3 + 1))]) [1, 2, 0] rfl ?_
          exact ih  v2 (v3 + 1) kr1 h
        · replace h := itp c3 h
          refine mG.iload_n 1 dX8_alone_43 rfl ?_
          refine mG.iconst (v := 1) dX8_alone_44 rfl ?_
          refine mG.iload_n 2 dX8_alone_45 rfl ?_
          refine mG.ishl dX8_alone_46 ?_
          refine mG.ior dX8_alone_47 ?_
          refine mG.istore_n (lv2 := [(2, .int (v2 ||| ((1 : Int32) <<< (v3 &&& 31)))), (1, .ref (t + 40 + 1)), (3, .int (v3))]) dX8_alone_48 rfl (by decide) rfl ?_
          refine mG.iinc 2 (u := v3 + 1) (lv2 := [(3, .int (v3 + 1)), (2, .int (v2 ||| ((1 : Int32) <<< (v3 &&& 31)))), (1, .ref (t + 40 + 1))]) dX8_alone_49 rfl rfl (by decide) rfl ?_
          refine mG.goto 12 dX8_alone_52 (by decide) ?_
          refine mG.sub (lv2 := [(1, .ref (t + 40 + 1)), (2, .int (v2 ||| ((1 : Int32) <<< (v3 &&& 31)))), (3, .int (v3 + 1))]) [2, 1, 0] rfl ?_
          exact ih  (v2 ||| ((1 : Int32) <<< (v3 &&& 31))) (v3 + 1) kr1 h
def f_X8_alone (F : Nat) (S0 : mS) (t : Nat) : Option Int32 := lX8_alone_12 F  t F S0 (0 : Int32) (0 : Int32)
set_option maxHeartbeats 4000000 in
set_option maxRecDepth 100000 in
theorem c_X8_alone {F : Nat} {S0 : mS} {t : Nat} {R : Int32} (ht : kd0 t = 8) (h : f_X8_alone F S0 t = some R) : mCt μX8_alone 4 0 0 E0 S0 [.ref (t)] (mQe S0 (some (.int R))) := by
  unfold f_X8_alone at h
  refine mCt.of (by decide) (Nat.le_of_ble_eq_true rfl) ?_
  intro x
  refine mG.aload_n 0 dX8_alone_0 rfl ?_
  refine mG.get (v := .ref (t + 40)) dX8_alone_1 mfX8_41 ht (lr8_now ht) ?_
  refine mG.get (v := .ref (t + 40 + 1)) dX8_alone_4 mfX8_88 (lk8_now ht) (lr7_town (lk8_now ht)) ?_
  refine mG.astore_n (lv2 := [(1, .ref (t + 40 + 1)), (0, .ref (t))]) dX8_alone_7 rfl (by decide) rfl ?_
  refine mG.iconst (v := 0) dX8_alone_8 rfl ?_
  refine mG.istore_n (lv2 := [(2, .int 0), (1, .ref (t + 40 + 1)), (0, .ref (t))]) dX8_alone_9 rfl (by decide) rfl ?_
  refine mG.iconst (v := 0) dX8_alone_10 rfl ?_
  refine mG.istore_n (lv2 := [(3, .int 0), (2, .int 0), (1, .ref (t + 40 + 1)), (0, .ref (t))]) dX8_alone_11 rfl (by decide) rfl ?_
  refine mG.sub (lv2 := [(1, .ref (t + 40 + 1)), (2, .int 0), (3, .int 0)]) [2, 1, 0] rfl ?_
  exact gX8_alone_12 ht  F  (0 : Int32) (0 : Int32) (lk7_town (lk8_now ht)) h
theorem dX8_nobodys_0 : decode cX8_nobodys 0 = .ok (.ldc 253, 2) := by decide +kernel
theorem dX8_nobodys_2 : decode cX8_nobodys 2 = .ok (.aload_n 0, 1) := by decide +kernel
theorem dX8_nobodys_3 : decode cX8_nobodys 3 = .ok (.getfield 41, 3) := by decide +kernel
theorem dX8_nobodys_6 : decode cX8_nobodys 6 = .ok (.getfield 88, 3) := by decide +kernel
theorem dX8_nobodys_9 : decode cX8_nobodys 9 = .ok (.iconst (-1), 1) := by decide +kernel
theorem dX8_nobodys_10 : decode cX8_nobodys 10 = .ok (.invokevirtual 250, 3) := by decide +kernel
theorem dX8_nobodys_13 : decode cX8_nobodys 13 = .ok (.iconst (-1), 1) := by decide +kernel
theorem dX8_nobodys_14 : decode cX8_nobodys 14 = .ok (.ixor, 1) := by decide +kernel
theorem dX8_nobodys_15 : decode cX8_nobodys 15 = .ok (.iand, 1) := by decide +kernel
theorem dX8_nobodys_16 : decode cX8_nobodys 16 = .ok (.ireturn, 1) := by decide +kernel
def f_X8_nobodys (F : Nat) (S0 : mS) (t : Nat) : Option Int32 := bd (f_X6_datesBut F S0 (t + 40 + 1) (-1 : Int32)) fun q1 => some ((1048575 : Int32) &&& (q1 ^^^ (-1 : Int32)))
set_option maxHeartbeats 4000000 in
set_option maxRecDepth 100000 in
theorem c_X8_nobodys {F : Nat} {S0 : mS} {t : Nat} {R : Int32} (ht : kd0 t = 8) (h : f_X8_nobodys F S0 t = some R) : mCt μX8_nobodys 4 0 0 E0 S0 [.ref (t)] (mQe S0 (some (.int R))) := by
  unfold f_X8_nobodys at h
  refine mCt.of (by decide) (Nat.le_of_ble_eq_true rfl) ?_
  intro x
  refine mG.ldc (v := 1048575) dX8_nobodys_0 wk50_5 ?_
  refine mG.aload_n 0 dX8_nobodys_2 rfl ?_
  refine mG.get (v := .ref (t + 40)) dX8_nobodys_3 mfX8_41 ht (lr8_now ht) ?_
  refine mG.get (v := .ref (t + 40 + 1)) dX8_nobodys_6 mfX8_88 (lk8_now ht) (lr7_town (lk8_now ht)) ?_
  refine mG.iconst (v := (-1)) dX8_nobodys_9 rfl ?_
  obtain ⟨q1, hq1, h⟩ := bdp h
  refine mG.callV0 (as := [.int (-1)]) (st := [.int 1048575]) (S2 := S0) (r := some (.int (q1))) dX8_nobodys_10 mvX6_datesBut wk49_17 rfl (lk7_town (lk8_now ht)) rfl (by decide) (Nat.le_of_ble_eq_true rfl) (c_X6_datesBut (lk7_town (lk8_now ht)) hq1) ?_
  refine mG.iconst (v := (-1)) dX8_nobodys_13 rfl ?_
  refine mG.ixor dX8_nobodys_14 ?_
  refine mG.iand dX8_nobodys_15 ?_
  obtain rfl := Option.some.inj h
  exact mG.iret dX8_nobodys_16 rfl ⟨rfl, rfl, rfl⟩
theorem dX8_poorest_0 : decode cX8_poorest 0 = .ok (.iload_n 1, 1) := by decide +kernel
theorem dX8_poorest_1 : decode cX8_poorest 1 = .ok (.iconst 1, 1) := by decide +kernel
theorem dX8_poorest_2 : decode cX8_poorest 2 = .ok (.bipush 60, 2) := by decide +kernel
theorem dX8_poorest_4 : decode cX8_poorest 4 = .ok (.invokestatic 84, 3) := by decide +kernel
theorem dX8_poorest_7 : decode cX8_poorest 7 = .ok (.ifCond .ne 5, 3) := by decide +kernel
theorem dX8_poorest_10 : decode cX8_poorest 10 = .ok (.iconst (-1), 1) := by decide +kernel
theorem dX8_poorest_11 : decode cX8_poorest 11 = .ok (.ireturn, 1) := by decide +kernel
theorem dX8_poorest_12 : decode cX8_poorest 12 = .ok (.aload_n 0, 1) := by decide +kernel
theorem dX8_poorest_13 : decode cX8_poorest 13 = .ok (.iload_n 1, 1) := by decide +kernel
theorem dX8_poorest_14 : decode cX8_poorest 14 = .ok (.aload_n 0, 1) := by decide +kernel
theorem dX8_poorest_15 : decode cX8_poorest 15 = .ok (.invokevirtual 236, 3) := by decide +kernel
theorem dX8_poorest_18 : decode cX8_poorest 18 = .ok (.invokevirtual 240, 3) := by decide +kernel
theorem dX8_poorest_21 : decode cX8_poorest 21 = .ok (.iconst (-1), 1) := by decide +kernel
theorem dX8_poorest_22 : decode cX8_poorest 22 = .ok (.istore_n 2, 1) := by decide +kernel
theorem dX8_poorest_23 : decode cX8_poorest 23 = .ok (.iconst 0, 1) := by decide +kernel
theorem dX8_poorest_24 : decode cX8_poorest 24 = .ok (.istore_n 3, 1) := by decide +kernel
theorem dX8_poorest_25 : decode cX8_poorest 25 = .ok (.iload_n 3, 1) := by decide +kernel
theorem dX8_poorest_26 : decode cX8_poorest 26 = .ok (.aload_n 0, 1) := by decide +kernel
theorem dX8_poorest_27 : decode cX8_poorest 27 = .ok (.getfield 51, 3) := by decide +kernel
theorem dX8_poorest_30 : decode cX8_poorest 30 = .ok (.getfield 183, 3) := by decide +kernel
theorem dX8_poorest_33 : decode cX8_poorest 33 = .ok (.if_icmp .ge 48, 3) := by decide +kernel
theorem dX8_poorest_36 : decode cX8_poorest 36 = .ok (.aload_n 0, 1) := by decide +kernel
theorem dX8_poorest_37 : decode cX8_poorest 37 = .ok (.getfield 51, 3) := by decide +kernel
theorem dX8_poorest_40 : decode cX8_poorest 40 = .ok (.iload_n 3, 1) := by decide +kernel
theorem dX8_poorest_41 : decode cX8_poorest 41 = .ok (.invokevirtual 136, 3) := by decide +kernel
theorem dX8_poorest_44 : decode cX8_poorest 44 = .ok (.ifCond .eq 31, 3) := by decide +kernel
theorem dX8_poorest_47 : decode cX8_poorest 47 = .ok (.iload_n 2, 1) := by decide +kernel
theorem dX8_poorest_48 : decode cX8_poorest 48 = .ok (.iconst (-1), 1) := by decide +kernel
theorem dX8_poorest_49 : decode cX8_poorest 49 = .ok (.if_icmp .eq 24, 3) := by decide +kernel
theorem dX8_poorest_52 : decode cX8_poorest 52 = .ok (.aload_n 0, 1) := by decide +kernel
theorem dX8_poorest_53 : decode cX8_poorest 53 = .ok (.getfield 51, 3) := by decide +kernel
theorem dX8_poorest_56 : decode cX8_poorest 56 = .ok (.getfield 201, 3) := by decide +kernel
theorem dX8_poorest_59 : decode cX8_poorest 59 = .ok (.iload_n 3, 1) := by decide +kernel
theorem dX8_poorest_60 : decode cX8_poorest 60 = .ok (.iaload, 1) := by decide +kernel
theorem dX8_poorest_61 : decode cX8_poorest 61 = .ok (.aload_n 0, 1) := by decide +kernel
theorem dX8_poorest_62 : decode cX8_poorest 62 = .ok (.getfield 51, 3) := by decide +kernel
theorem dX8_poorest_65 : decode cX8_poorest 65 = .ok (.getfield 201, 3) := by decide +kernel
theorem dX8_poorest_68 : decode cX8_poorest 68 = .ok (.iload_n 2, 1) := by decide +kernel
theorem dX8_poorest_69 : decode cX8_poorest 69 = .ok (.iaload, 1) := by decide +kernel
theorem dX8_poorest_70 : decode cX8_poorest 70 = .ok (.if_icmp .ge 5, 3) := by decide +kernel
theorem dX8_poorest_73 : decode cX8_poorest 73 = .ok (.iload_n 3, 1) := by decide +kernel
theorem dX8_poorest_74 : decode cX8_poorest 74 = .ok (.istore_n 2, 1) := by decide +kernel
theorem dX8_poorest_75 : decode cX8_poorest 75 = .ok (.iinc 3 1, 3) := by decide +kernel
theorem dX8_poorest_78 : decode cX8_poorest 78 = .ok (.goto (-53), 3) := by decide +kernel
theorem dX8_poorest_81 : decode cX8_poorest 81 = .ok (.iload_n 2, 1) := by decide +kernel
theorem dX8_poorest_82 : decode cX8_poorest 82 = .ok (.ireturn, 1) := by decide +kernel
def lX8_poorest_25 (F : Nat)  (t : Nat) (a1 : Int32) : Nat → mS → Int32 → Int32 → Option (mS × Int32)
  | 0, _, _, _ => none
  | n + 1, S, v2, v3 => if (S.1 (t + 364) 5) ≤ v3 then (some (S, v2)) else (if (f_X6_lives S (t + 364) v3) = true then (if v2 = (-1 : Int32) then (lX8_poorest_25 F  t a1 n S v3 (v3 + 1)) else (ck (inb v3 7) (ck (inb v2 7) (if (S.1 (t + 364 + 2) v2.toNatClampNeg) ≤ (S.1 (t + 364 + 2) v3.toNatClampNeg) then (lX8_poorest_25 F  t a1 n S v2 (v3 + 1)) else (lX8_poorest_25 F  t a1 n S v3 (v3 + 1)))))) else (lX8_poorest_25 F  t a1 n S v2 (v3 + 1)))
set_option maxHeartbeats 4000000 in
set_option maxRecDepth 100000 in
theorem gX8_poorest_25 {x : mX} {F : Nat} {t : Nat} {a1 : Int32}   {R : mS × Int32} (ht : kd0 t = 8)  : ∀ (n : Nat) (S : mS) (v2 : Int32) (v3 : Int32), lX8_poorest_25 F  t a1 n S v2 v3 = some R → mG x μX8_poorest 7 0 0 (mQe R.1 (some (.int R.2))) 0 0 E0 S 25 [(0, .ref (t)), (2, .int (v2)), (3, .int (v3))] [] := by
  intro n
  induction n with
  | zero =>
    intro S v2 v3 h
    cases h
  | succ n ih =>
    intro S v2 v3 h
    unfold lX8_poorest_25 at h
    refine mG.iload_n 2 dX8_poorest_25 rfl ?_
    refine mG.aload_n 0 dX8_poorest_26 rfl ?_
    refine mG.get (v := .ref (t + 364)) dX8_poorest_27 mfX8_51 ht (lr8_trial ht) ?_
    refine mG.get (v := .int (S.1 (t + 364) 5)) dX8_poorest_30 mfX8_183 (lk8_trial ht) rfl ?_
    refine mG.icmp_ge 81 dX8_poorest_33 (by decide) (fun c6 => ?_) (fun c6 => ?_)
    · replace h := itp c6 h
      refine mG.iload_n 1 dX8_poorest_81 rfl ?_
      obtain rfl := Option.some.inj h
      exact mG.iret dX8_poorest_82 rfl ⟨rfl, rfl, rfl⟩
    · replace h := itn c6 h
      refine mG.aload_n 0 dX8_poorest_36 rfl ?_
      refine mG.get (v := .ref (t + 364)) dX8_poorest_37 mfX8_51 ht (lr8_trial ht) ?_
      refine mG.iload_n 2 dX8_poorest_40 rfl ?_
      refine mG.callV0 (as := [.int (v3)]) (st := []) (S2 := S) (r := some (.int (bI (f_X6_lives S (t + 364) v3)))) dX8_poorest_41 mvX6_lives wk27_7 rfl (lk8_trial ht) rfl (by decide) (Nat.le_of_ble_eq_true rfl) (c_X6_lives (lk8_trial ht) rfl) ?_
      refine mG.ifz_eq (b := f_X6_lives S (t + 364) v3) 75 dX8_poorest_44 (by decide) (fun c5 => ?_) (fun c5 => ?_)
      · replace h := itn c5 h
        refine mG.iinc 2 (u := v3 + 1) (lv2 := [(3, .int (v3 + 1)), (0, .ref (t)), (2, .int (v2))]) dX8_poorest_75 rfl rfl (by decide) rfl ?_
        refine mG.goto 25 dX8_poorest_78 (by decide) ?_
        refine mG.sub (lv2 := [(0, .ref (t)), (2, .int (v2)), (3, .int (v3 + 1))]) [1, 2, 0] rfl ?_
        exact ih S v2 (v3 + 1)  h
      · replace h := itp c5 h
        refine mG.iload_n 1 dX8_poorest_47 rfl ?_
        refine mG.iconst (v := (-1)) dX8_poorest_48 rfl ?_
        refine mG.icmp_eq 73 dX8_poorest_49 (by decide) (fun c4 => ?_) (fun c4 => ?_)
        · replace h := itp c4 h
          refine mG.iload_n 2 dX8_poorest_73 rfl ?_
          refine mG.istore_n (lv2 := [(2, .int (v3)), (0, .ref (t)), (3, .int (v3))]) dX8_poorest_74 rfl (by decide) rfl ?_
          refine mG.iinc 2 (u := v3 + 1) (lv2 := [(3, .int (v3 + 1)), (2, .int (v3)), (0, .ref (t))]) dX8_poorest_75 rfl rfl (by decide) rfl ?_
          refine mG.goto 25 dX8_poorest_78 (by decide) ?_
          refine mG.sub (lv2 := [(0, .ref (t)), (2, .int (v3)), (3, .int (v3 + 1))]) [2, 1, 0] rfl ?_
          exact ih S v3 (v3 + 1)  h
        · replace h := itn c4 h
          refine mG.aload_n 0 dX8_poorest_52 rfl ?_
          refine mG.get (v := .ref (t + 364)) dX8_poorest_53 mfX8_51 ht (lr8_trial ht) ?_
          refine mG.get (v := .ref (t + 364 + 2)) dX8_poorest_56 mfX8_201 (lk8_trial ht) (lr6_purse (lk8_trial ht)) ?_
          refine mG.iload_n 2 dX8_poorest_59 rfl ?_
          obtain ⟨b1, h⟩ := ckp h
          refine mG.iald dX8_poorest_60 (lk6_purse (lk8_trial ht)) (ll6_purse (lk8_trial ht)) (inbp b1) ?_
          refine mG.aload_n 0 dX8_poorest_61 rfl ?_
          refine mG.get (v := .ref (t + 364)) dX8_poorest_62 mfX8_51 ht (lr8_trial ht) ?_
          refine mG.get (v := .ref (t + 364 + 2)) dX8_poorest_65 mfX8_201 (lk8_trial ht) (lr6_purse (lk8_trial ht)) ?_
          refine mG.iload_n 1 dX8_poorest_68 rfl ?_
          obtain ⟨b2, h⟩ := ckp h
          refine mG.iald dX8_poorest_69 (lk6_purse (lk8_trial ht)) (ll6_purse (lk8_trial ht)) (inbp b2) ?_
          refine mG.icmp_ge 75 dX8_poorest_70 (by decide) (fun c3 => ?_) (fun c3 => ?_)
          · replace h := itp c3 h
            refine mG.iinc 2 (u := v3 + 1) (lv2 := [(3, .int (v3 + 1)), (0, .ref (t)), (2, .int (v2))]) dX8_poorest_75 rfl rfl (by decide) rfl ?_
            refine mG.goto 25 dX8_poorest_78 (by decide) ?_
            refine mG.sub (lv2 := [(0, .ref (t)), (2, .int (v2)), (3, .int (v3 + 1))]) [1, 2, 0] rfl ?_
            exact ih S v2 (v3 + 1)  h
          · replace h := itn c3 h
            refine mG.iload_n 2 dX8_poorest_73 rfl ?_
            refine mG.istore_n (lv2 := [(2, .int (v3)), (0, .ref (t)), (3, .int (v3))]) dX8_poorest_74 rfl (by decide) rfl ?_
            refine mG.iinc 2 (u := v3 + 1) (lv2 := [(3, .int (v3 + 1)), (2, .int (v3)), (0, .ref (t))]) dX8_poorest_75 rfl rfl (by decide) rfl ?_
            refine mG.goto 25 dX8_poorest_78 (by decide) ?_
            refine mG.sub (lv2 := [(0, .ref (t)), (2, .int (v3)), (3, .int (v3 + 1))]) [2, 1, 0] rfl ?_
            exact ih S v3 (v3 + 1)  h
def f_X8_poorest (F : Nat) (S : mS) (t : Nat) (a1 : Int32) : Option (mS × Int32) := if (f_X8_isWithin S a1 (1 : Int32) (60 : Int32)) = true then (bd (f_X8_rule F S t) fun q1 => bd (f_X8_tryDays F S t a1 q1) fun q2 => lX8_poorest_25 F  t a1 F q2 (-1 : Int32) (0 : Int32)) else (some (S, (-1 : Int32)))
set_option maxHeartbeats 4000000 in
set_option maxRecDepth 100000 in
theorem c_X8_poorest {F : Nat} {S : mS} {t : Nat} {a1 : Int32} {R : mS × Int32} (ht : kd0 t = 8) (h : f_X8_poorest F S t a1 = some R) : mCt μX8_poorest 7 0 0 E0 S [.ref (t), .int (a1)] (mQe R.1 (some (.int R.2))) := by
  unfold f_X8_poorest at h
  refine mCt.of (by decide) (Nat.le_of_ble_eq_true rfl) ?_
  intro x
  refine mG.iload_n 1 dX8_poorest_0 rfl ?_
  refine mG.iconst (v := 1) dX8_poorest_1 rfl ?_
  refine mG.bipush (v := 60) dX8_poorest_2 (by decide) ?_
  refine mG.callS0 (as := [.int (a1), .int 1, .int 60]) (st := []) (S2 := S) (r := some (.int (bI (f_X8_isWithin S a1 (1 : Int32) (60 : Int32))))) dX8_poorest_4 mbX8_isWithin wk6_19 wk6_18 rfl rfl (by decide) (Nat.le_of_ble_eq_true rfl) (c_X8_isWithin  rfl) ?_
  refine mG.ifz_ne (b := f_X8_isWithin S a1 (1 : Int32) (60 : Int32)) 12 dX8_poorest_7 (by decide) (fun c3 => ?_) (fun c3 => ?_)
  · replace h := itp c3 h
    refine mG.aload_n 0 dX8_poorest_12 rfl ?_
    refine mG.iload_n 1 dX8_poorest_13 rfl ?_
    refine mG.aload_n 0 dX8_poorest_14 rfl ?_
    obtain ⟨q1, hq1, h⟩ := bdp h
    refine mG.callV0 (as := []) (st := [.int (a1), .ref (t)]) (S2 := S) (r := some (.ref (q1))) dX8_poorest_15 mvX8_rule wk30_12 rfl ht rfl (by decide) (Nat.le_of_ble_eq_true rfl) (c_X8_rule ht hq1) ?_
    obtain ⟨q2, hq2, h⟩ := bdp h
    refine mG.callV0 (as := [.int (a1), .ref (q1)]) (st := []) (S2 := q2) (r := none) dX8_poorest_18 mvX8_tryDays wk46_23 rfl ht rfl (by decide) (Nat.le_of_ble_eq_true rfl) (c_X8_tryDays ht (rk_X8_rule ht hq1) hq2) ?_
    refine mG.iconst (v := (-1)) dX8_poorest_21 rfl ?_
    refine mG.istore_n (lv2 := [(2, .int (-1)), (0, .ref (t)), (1, .int (a1))]) dX8_poorest_22 rfl (by decide) rfl ?_
    refine mG.iconst (v := 0) dX8_poorest_23 rfl ?_
    refine mG.istore_n (lv2 := [(3, .int 0), (2, .int (-1)), (0, .ref (t)), (1, .int (a1))]) dX8_poorest_24 rfl (by decide) rfl ?_
    refine mG.sub (lv2 := [(0, .ref (t)), (2, .int (-1)), (3, .int 0)]) [2, 1, 0] rfl ?_
    exact gX8_poorest_25 ht  F q2 (-1 : Int32) (0 : Int32)  h
  · replace h := itn c3 h
    refine mG.iconst (v := (-1)) dX8_poorest_10 rfl ?_
    obtain rfl := Option.some.inj h
    exact mG.iret dX8_poorest_11 rfl ⟨rfl, rfl, rfl⟩
theorem dX8_seen_0 : decode cX8_seen 0 = .ok (.iload_n 1, 1) := by decide +kernel
theorem dX8_seen_1 : decode cX8_seen 1 = .ok (.iconst (-1), 1) := by decide +kernel
theorem dX8_seen_2 : decode cX8_seen 2 = .ok (.if_icmp .ne 13, 3) := by decide +kernel
theorem dX8_seen_5 : decode cX8_seen 5 = .ok (.aload_n 0, 1) := by decide +kernel
theorem dX8_seen_6 : decode cX8_seen 6 = .ok (.getfield 41, 3) := by decide +kernel
theorem dX8_seen_9 : decode cX8_seen 9 = .ok (.iconst 0, 1) := by decide +kernel
theorem dX8_seen_10 : decode cX8_seen 10 = .ok (.putfield 254, 3) := by decide +kernel
theorem dX8_seen_13 : decode cX8_seen 13 = .ok (.iconst 0, 1) := by decide +kernel
theorem dX8_seen_14 : decode cX8_seen 14 = .ok (.ireturn, 1) := by decide +kernel
theorem dX8_seen_15 : decode cX8_seen 15 = .ok (.aload_n 0, 1) := by decide +kernel
theorem dX8_seen_16 : decode cX8_seen 16 = .ok (.getfield 41, 3) := by decide +kernel
theorem dX8_seen_19 : decode cX8_seen 19 = .ok (.getfield 88, 3) := by decide +kernel
theorem dX8_seen_22 : decode cX8_seen 22 = .ok (.iload_n 1, 1) := by decide +kernel
theorem dX8_seen_23 : decode cX8_seen 23 = .ok (.invokevirtual 195, 3) := by decide +kernel
theorem dX8_seen_26 : decode cX8_seen 26 = .ok (.ifCond .eq 22, 3) := by decide +kernel
theorem dX8_seen_29 : decode cX8_seen 29 = .ok (.iload_n 2, 1) := by decide +kernel
theorem dX8_seen_30 : decode cX8_seen 30 = .ok (.invokestatic 257, 3) := by decide +kernel
theorem dX8_seen_33 : decode cX8_seen 33 = .ok (.ifCond .eq 15, 3) := by decide +kernel
theorem dX8_seen_36 : decode cX8_seen 36 = .ok (.aload_n 0, 1) := by decide +kernel
theorem dX8_seen_37 : decode cX8_seen 37 = .ok (.getfield 41, 3) := by decide +kernel
theorem dX8_seen_40 : decode cX8_seen 40 = .ok (.getfield 254, 3) := by decide +kernel
theorem dX8_seen_43 : decode cX8_seen 43 = .ok (.bipush 8, 2) := by decide +kernel
theorem dX8_seen_45 : decode cX8_seen 45 = .ok (.if_icmp .lt 6, 3) := by decide +kernel
theorem dX8_seen_48 : decode cX8_seen 48 = .ok (.bipush (-2), 2) := by decide +kernel
theorem dX8_seen_50 : decode cX8_seen 50 = .ok (.ireturn, 1) := by decide +kernel
theorem dX8_seen_51 : decode cX8_seen 51 = .ok (.aload_n 0, 1) := by decide +kernel
theorem dX8_seen_52 : decode cX8_seen 52 = .ok (.getfield 41, 3) := by decide +kernel
theorem dX8_seen_55 : decode cX8_seen 55 = .ok (.getfield 260, 3) := by decide +kernel
theorem dX8_seen_58 : decode cX8_seen 58 = .ok (.aload_n 0, 1) := by decide +kernel
theorem dX8_seen_59 : decode cX8_seen 59 = .ok (.getfield 41, 3) := by decide +kernel
theorem dX8_seen_62 : decode cX8_seen 62 = .ok (.getfield 254, 3) := by decide +kernel
theorem dX8_seen_65 : decode cX8_seen 65 = .ok (.iload_n 1, 1) := by decide +kernel
theorem dX8_seen_66 : decode cX8_seen 66 = .ok (.iastore, 1) := by decide +kernel
theorem dX8_seen_67 : decode cX8_seen 67 = .ok (.aload_n 0, 1) := by decide +kernel
theorem dX8_seen_68 : decode cX8_seen 68 = .ok (.getfield 41, 3) := by decide +kernel
theorem dX8_seen_71 : decode cX8_seen 71 = .ok (.getfield 263, 3) := by decide +kernel
theorem dX8_seen_74 : decode cX8_seen 74 = .ok (.aload_n 0, 1) := by decide +kernel
theorem dX8_seen_75 : decode cX8_seen 75 = .ok (.getfield 41, 3) := by decide +kernel
theorem dX8_seen_78 : decode cX8_seen 78 = .ok (.getfield 254, 3) := by decide +kernel
theorem dX8_seen_81 : decode cX8_seen 81 = .ok (.iload_n 2, 1) := by decide +kernel
theorem dX8_seen_82 : decode cX8_seen 82 = .ok (.iastore, 1) := by decide +kernel
theorem dX8_seen_83 : decode cX8_seen 83 = .ok (.aload_n 0, 1) := by decide +kernel
theorem dX8_seen_84 : decode cX8_seen 84 = .ok (.getfield 41, 3) := by decide +kernel
theorem dX8_seen_87 : decode cX8_seen 87 = .ok (.getfield 266, 3) := by decide +kernel
theorem dX8_seen_90 : decode cX8_seen 90 = .ok (.aload_n 0, 1) := by decide +kernel
theorem dX8_seen_91 : decode cX8_seen 91 = .ok (.getfield 41, 3) := by decide +kernel
theorem dX8_seen_94 : decode cX8_seen 94 = .ok (.getfield 254, 3) := by decide +kernel
theorem dX8_seen_97 : decode cX8_seen 97 = .ok (.iload_n 3, 1) := by decide +kernel
theorem dX8_seen_98 : decode cX8_seen 98 = .ok (.ifCond .eq 7, 3) := by decide +kernel
theorem dX8_seen_101 : decode cX8_seen 101 = .ok (.iconst 1, 1) := by decide +kernel
theorem dX8_seen_102 : decode cX8_seen 102 = .ok (.goto 4, 3) := by decide +kernel
theorem dX8_seen_105 : decode cX8_seen 105 = .ok (.iconst 0, 1) := by decide +kernel
theorem dX8_seen_106 : decode cX8_seen 106 = .ok (.iastore, 1) := by decide +kernel
theorem dX8_seen_107 : decode cX8_seen 107 = .ok (.aload_n 0, 1) := by decide +kernel
theorem dX8_seen_108 : decode cX8_seen 108 = .ok (.getfield 41, 3) := by decide +kernel
theorem dX8_seen_111 : decode cX8_seen 111 = .ok (.dup, 1) := by decide +kernel
theorem dX8_seen_112 : decode cX8_seen 112 = .ok (.getfield 254, 3) := by decide +kernel
theorem dX8_seen_115 : decode cX8_seen 115 = .ok (.iconst 1, 1) := by decide +kernel
theorem dX8_seen_116 : decode cX8_seen 116 = .ok (.iadd, 1) := by decide +kernel
theorem dX8_seen_117 : decode cX8_seen 117 = .ok (.putfield 254, 3) := by decide +kernel
theorem dX8_seen_120 : decode cX8_seen 120 = .ok (.aload_n 0, 1) := by decide +kernel
theorem dX8_seen_121 : decode cX8_seen 121 = .ok (.getfield 41, 3) := by decide +kernel
theorem dX8_seen_124 : decode cX8_seen 124 = .ok (.getfield 254, 3) := by decide +kernel
theorem dX8_seen_127 : decode cX8_seen 127 = .ok (.ireturn, 1) := by decide +kernel
def f_X8_seen (F : Nat) (S : mS) (t : Nat) (a1 : Int32) (a2 : Int32) (a3 : Int32) : Option (mS × Int32) := if a1 = (-1 : Int32) then (stp (sI S (t + 40) 9 (0 : Int32)) fun S15 => some (S15, (0 : Int32))) else (if (f_X6_told S (t + 40 + 1) a1) = true then (if (f_X8_isDate S a2) = true then (if (S.1 (t + 40) 9) < (8 : Int32) then (ck (inb (S.1 (t + 40) 9) 8) (stp (sI S (t + 40 + 7) (S.1 (t + 40) 9).toNatClampNeg a1) fun S2 => ck (inb (S2.1 (t + 40) 9) 8) (stp (sI S2 (t + 40 + 8) (S2.1 (t + 40) 9).toNatClampNeg a2) fun S4 => if a3 = 0 then (ck (inb (S4.1 (t + 40) 9) 8) (stp (sI S4 (t + 40 + 9) (S4.1 (t + 40) 9).toNatClampNeg (0 : Int32)) fun S6 => stp (sI S6 (t + 40) 9 ((S6.1 (t + 40) 9) + (1 : Int32))) fun S7 => some (S7, S7.1 (t + 40) 9))) else (ck (inb (S4.1 (t + 40) 9) 8) (stp (sI S4 (t + 40 + 9) (S4.1 (t + 40) 9).toNatClampNeg (1 : Int32)) fun S9 => stp (sI S9 (t + 40) 9 ((S9.1 (t + 40) 9) + (1 : Int32))) fun S10 => some (S10, S10.1 (t + 40) 9)))))) else (some (S, (-2 : Int32)))) else (some (S, (-2 : Int32)))) else (some (S, (-2 : Int32))))
set_option maxHeartbeats 4000000 in
set_option maxRecDepth 100000 in
theorem c_X8_seen {F : Nat} {S : mS} {t : Nat} {a1 : Int32} {a2 : Int32} {a3 : Int32} {R : mS × Int32} (ht : kd0 t = 8) (h : f_X8_seen F S t a1 a2 a3 = some R) : mCt μX8_seen 3 0 0 E0 S [.ref (t), .int (a1), .int (a2), .int (a3)] (mQe R.1 (some (.int R.2))) := by
  unfold f_X8_seen at h
  refine mCt.of (by decide) (Nat.le_of_ble_eq_true rfl) ?_
  intro x
  refine mG.iload_n 1 dX8_seen_0 rfl ?_
  refine mG.iconst (v := (-1)) dX8_seen_1 rfl ?_
  refine mG.icmp_ne 15 dX8_seen_2 (by decide) (fun c16 => ?_) (fun c16 => ?_)
  · replace h := itn c16 h
    refine mG.aload_n 0 dX8_seen_15 rfl ?_
    refine mG.get (v := .ref (t + 40)) dX8_seen_16 mfX8_41 ht (lr8_now ht) ?_
    refine mG.get (v := .ref (t + 40 + 1)) dX8_seen_19 mfX8_88 (lk8_now ht) (lr7_town (lk8_now ht)) ?_
    refine mG.iload_n 1 dX8_seen_22 rfl ?_
    refine mG.callV0 (as := [.int (a1)]) (st := []) (S2 := S) (r := some (.int (bI (f_X6_told S (t + 40 + 1) a1)))) dX8_seen_23 mvX6_told wk44_19 rfl (lk7_town (lk8_now ht)) rfl (by decide) (Nat.le_of_ble_eq_true rfl) (c_X6_told (lk7_town (lk8_now ht)) rfl) ?_
    refine mG.ifz_eq (b := f_X6_told S (t + 40 + 1) a1) 48 dX8_seen_26 (by decide) (fun c14 => ?_) (fun c14 => ?_)
    · replace h := itn c14 h
      refine mG.bipush (v := (-2)) dX8_seen_48 (by decide) ?_
      obtain rfl := Option.some.inj h
      exact mG.iret dX8_seen_50 rfl ⟨rfl, rfl, rfl⟩
    · replace h := itp c14 h
      refine mG.iload_n 2 dX8_seen_29 rfl ?_
      refine mG.callS0 (as := [.int (a2)]) (st := []) (S2 := S) (r := some (.int (bI (f_X8_isDate S a2)))) dX8_seen_30 mbX8_isDate wk6_16 wk6_15 rfl rfl (by decide) (Nat.le_of_ble_eq_true rfl) (c_X8_isDate  rfl) ?_
      refine mG.ifz_eq (b := f_X8_isDate S a2) 48 dX8_seen_33 (by decide) (fun c13 => ?_) (fun c13 => ?_)
      · replace h := itn c13 h
        refine mG.bipush (v := (-2)) dX8_seen_48 (by decide) ?_
        obtain rfl := Option.some.inj h
        exact mG.iret dX8_seen_50 rfl ⟨rfl, rfl, rfl⟩
      · replace h := itp c13 h
        refine mG.aload_n 0 dX8_seen_36 rfl ?_
        refine mG.get (v := .ref (t + 40)) dX8_seen_37 mfX8_41 ht (lr8_now ht) ?_
        refine mG.get (v := .int (S.1 (t + 40) 9)) dX8_seen_40 mfX8_254 (lk8_now ht) rfl ?_
        refine mG.bipush (v := 8) dX8_seen_43 (by decide) ?_
        refine mG.icmp_lt 51 dX8_seen_45 (by decide) (fun c12 => ?_) (fun c12 => ?_)
        · replace h := itp c12 h
          refine mG.aload_n 0 dX8_seen_51 rfl ?_
          refine mG.get (v := .ref (t + 40)) dX8_seen_52 mfX8_41 ht (lr8_now ht) ?_
          refine mG.get (v := .ref (t + 40 + 7)) dX8_seen_55 mfX8_260 (lk8_now ht) (lr7_seenHouse (lk8_now ht)) ?_
          refine mG.aload_n 0 dX8_seen_58 rfl ?_
          refine mG.get (v := .ref (t + 40)) dX8_seen_59 mfX8_41 ht (lr8_now ht) ?_
          refine mG.get (v := .int (S.1 (t + 40) 9)) dX8_seen_62 mfX8_254 (lk8_now ht) rfl ?_
          refine mG.iload_n 1 dX8_seen_65 rfl ?_
          obtain ⟨b1, h⟩ := ckp h
          obtain ⟨S2, hS2, h⟩ := stpp h
          refine mG.iast dX8_seen_66 (lk7_seenHouse (lk8_now ht)) (ll7_seenHouse (lk8_now ht)) (inbp b1) hS2 ?_
          refine mG.aload_n 0 dX8_seen_67 rfl ?_
          refine mG.get (v := .ref (t + 40)) dX8_seen_68 mfX8_41 ht (lr8_now ht) ?_
          refine mG.get (v := .ref (t + 40 + 8)) dX8_seen_71 mfX8_263 (lk8_now ht) (lr7_seenDate (lk8_now ht)) ?_
          refine mG.aload_n 0 dX8_seen_74 rfl ?_
          refine mG.get (v := .ref (t + 40)) dX8_seen_75 mfX8_41 ht (lr8_now ht) ?_
          refine mG.get (v := .int (S2.1 (t + 40) 9)) dX8_seen_78 mfX8_254 (lk8_now ht) rfl ?_
          refine mG.iload_n 2 dX8_seen_81 rfl ?_
          obtain ⟨b3, h⟩ := ckp h
          obtain ⟨S4, hS4, h⟩ := stpp h
          refine mG.iast dX8_seen_82 (lk7_seenDate (lk8_now ht)) (ll7_seenDate (lk8_now ht)) (inbp b3) hS4 ?_
          refine mG.aload_n 0 dX8_seen_83 rfl ?_
          refine mG.get (v := .ref (t + 40)) dX8_seen_84 mfX8_41 ht (lr8_now ht) ?_
          refine mG.get (v := .ref (t + 40 + 9)) dX8_seen_87 mfX8_266 (lk8_now ht) (lr7_seenShut (lk8_now ht)) ?_
          refine mG.aload_n 0 dX8_seen_90 rfl ?_
          refine mG.get (v := .ref (t + 40)) dX8_seen_91 mfX8_41 ht (lr8_now ht) ?_
          refine mG.get (v := .int (S4.1 (t + 40) 9)) dX8_seen_94 mfX8_254 (lk8_now ht) rfl ?_
          refine mG.iload_n 3 dX8_seen_97 rfl ?_
          refine mG.if_eq 105 dX8_seen_98 (by decide) (fun c11 => ?_) (fun c11 => ?_)
          · replace h := itp c11 h
            refine mG.iconst (v := 0) dX8_seen_105 rfl ?_
            obtain ⟨b5, h⟩ := ckp h
            obtain ⟨S6, hS6, h⟩ := stpp h
            refine mG.iast dX8_seen_106 (lk7_seenShut (lk8_now ht)) (ll7_seenShut (lk8_now ht)) (inbp b5) hS6 ?_
            refine mG.aload_n 0 dX8_seen_107 rfl ?_
            refine mG.get (v := .ref (t + 40)) dX8_seen_108 mfX8_41 ht (lr8_now ht) ?_
            refine mG.dup dX8_seen_111 rfl ?_
            refine mG.get (v := .int (S6.1 (t + 40) 9)) dX8_seen_112 mfX8_254 (lk8_now ht) rfl ?_
            refine mG.iconst (v := 1) dX8_seen_115 rfl ?_
            refine mG.iadd dX8_seen_116 ?_
            obtain ⟨S7, hS7, h⟩ := stpp h
            refine mG.putI dX8_seen_117 mfX8_254 rfl (Or.inl rfl) (lk8_now ht) hS7 ?_
            refine mG.aload_n 0 dX8_seen_120 rfl ?_
            refine mG.get (v := .ref (t + 40)) dX8_seen_121 mfX8_41 ht (lr8_now ht) ?_
            refine mG.get (v := .int (S7.1 (t + 40) 9)) dX8_seen_124 mfX8_254 (lk8_now ht) rfl ?_
            obtain rfl := Option.some.inj h
            exact mG.iret dX8_seen_127 rfl ⟨rfl, rfl, rfl⟩
          · replace h := itn c11 h
            refine mG.iconst (v := 1) dX8_seen_101 rfl ?_
            refine mG.goto 106 dX8_seen_102 (by decide) ?_
            obtain ⟨b8, h⟩ := ckp h
            obtain ⟨S9, hS9, h⟩ := stpp h
            refine mG.iast dX8_seen_106 (lk7_seenShut (lk8_now ht)) (ll7_seenShut (lk8_now ht)) (inbp b8) hS9 ?_
            refine mG.aload_n 0 dX8_seen_107 rfl ?_
            refine mG.get (v := .ref (t + 40)) dX8_seen_108 mfX8_41 ht (lr8_now ht) ?_
            refine mG.dup dX8_seen_111 rfl ?_
            refine mG.get (v := .int (S9.1 (t + 40) 9)) dX8_seen_112 mfX8_254 (lk8_now ht) rfl ?_
            refine mG.iconst (v := 1) dX8_seen_115 rfl ?_
            refine mG.iadd dX8_seen_116 ?_
            obtain ⟨S10, hS10, h⟩ := stpp h
            refine mG.putI dX8_seen_117 mfX8_254 rfl (Or.inl rfl) (lk8_now ht) hS10 ?_
            refine mG.aload_n 0 dX8_seen_120 rfl ?_
            refine mG.get (v := .ref (t + 40)) dX8_seen_121 mfX8_41 ht (lr8_now ht) ?_
            refine mG.get (v := .int (S10.1 (t + 40) 9)) dX8_seen_124 mfX8_254 (lk8_now ht) rfl ?_
            obtain rfl := Option.some.inj h
            exact mG.iret dX8_seen_127 rfl ⟨rfl, rfl, rfl⟩
        · replace h := itn c12 h
          refine mG.bipush (v := (-2)) dX8_seen_48 (by decide) ?_
          obtain rfl := Option.some.inj h
          exact mG.iret dX8_seen_50 rfl ⟨rfl, rfl, rfl⟩
  · replace h := itp c16 h
    refine mG.aload_n 0 dX8_seen_5 rfl ?_
    refine mG.get (v := .ref (t + 40)) dX8_seen_6 mfX8_41 ht (lr8_now ht) ?_
    refine mG.iconst (v := 0) dX8_seen_9 rfl ?_
    obtain ⟨S15, hS15, h⟩ := stpp h
    refine mG.putI dX8_seen_10 mfX8_254 rfl (Or.inl rfl) (lk8_now ht) hS15 ?_
    refine mG.iconst (v := 0) dX8_seen_13 rfl ?_
    obtain rfl := Option.some.inj h
    exact mG.iret dX8_seen_14 rfl ⟨rfl, rfl, rfl⟩
theorem dX8_isGuess_0 : decode cX8_isGuess 0 = .ok (.aload_n 0, 1) := by decide +kernel
theorem dX8_isGuess_1 : decode cX8_isGuess 1 = .ok (.getfield 41, 3) := by decide +kernel
theorem dX8_isGuess_4 : decode cX8_isGuess 4 = .ok (.getfield 88, 3) := by decide +kernel
theorem dX8_isGuess_7 : decode cX8_isGuess 7 = .ok (.iload_n 1, 1) := by decide +kernel
theorem dX8_isGuess_8 : decode cX8_isGuess 8 = .ok (.invokevirtual 195, 3) := by decide +kernel
theorem dX8_isGuess_11 : decode cX8_isGuess 11 = .ok (.ifCond .eq 16, 3) := by decide +kernel
theorem dX8_isGuess_14 : decode cX8_isGuess 14 = .ok (.iload_n 2, 1) := by decide +kernel
theorem dX8_isGuess_15 : decode cX8_isGuess 15 = .ok (.iconst 1, 1) := by decide +kernel
theorem dX8_isGuess_16 : decode cX8_isGuess 16 = .ok (.iconst 3, 1) := by decide +kernel
theorem dX8_isGuess_17 : decode cX8_isGuess 17 = .ok (.invokestatic 84, 3) := by decide +kernel
theorem dX8_isGuess_20 : decode cX8_isGuess 20 = .ok (.ifCond .eq 7, 3) := by decide +kernel
theorem dX8_isGuess_23 : decode cX8_isGuess 23 = .ok (.iconst 1, 1) := by decide +kernel
theorem dX8_isGuess_24 : decode cX8_isGuess 24 = .ok (.goto 4, 3) := by decide +kernel
theorem dX8_isGuess_27 : decode cX8_isGuess 27 = .ok (.iconst 0, 1) := by decide +kernel
theorem dX8_isGuess_28 : decode cX8_isGuess 28 = .ok (.ireturn, 1) := by decide +kernel
def f_X8_isGuess (S0 : mS) (t : Nat) (a1 : Int32) (a2 : Int32) : Bool := if (f_X6_told S0 (t + 40 + 1) a1) = true then (if (f_X8_isWithin S0 a2 (1 : Int32) (3 : Int32)) = true then (true) else (false)) else (false)
set_option maxHeartbeats 4000000 in
set_option maxRecDepth 100000 in
theorem c_X8_isGuess {S0 : mS} {t : Nat} {a1 : Int32} {a2 : Int32} {R : Bool} (ht : kd0 t = 8) (h : f_X8_isGuess S0 t a1 a2 = R) : mCt μX8_isGuess 2 0 0 E0 S0 [.ref (t), .int (a1), .int (a2)] (mQe S0 (some (.int (bI R)))) := by
  unfold f_X8_isGuess at h
  refine mCt.of (by decide) (Nat.le_of_ble_eq_true rfl) ?_
  intro x
  refine mG.aload_n 0 dX8_isGuess_0 rfl ?_
  refine mG.get (v := .ref (t + 40)) dX8_isGuess_1 mfX8_41 ht (lr8_now ht) ?_
  refine mG.get (v := .ref (t + 40 + 1)) dX8_isGuess_4 mfX8_88 (lk8_now ht) (lr7_town (lk8_now ht)) ?_
  refine mG.iload_n 1 dX8_isGuess_7 rfl ?_
  refine mG.callV0 (as := [.int (a1)]) (st := []) (S2 := S0) (r := some (.int (bI (f_X6_told S0 (t + 40 + 1) a1)))) dX8_isGuess_8 mvX6_told wk44_19 rfl (lk7_town (lk8_now ht)) rfl (by decide) (Nat.le_of_ble_eq_true rfl) (c_X6_told (lk7_town (lk8_now ht)) rfl) ?_
  refine mG.ifz_eq (b := f_X6_told S0 (t + 40 + 1) a1) 27 dX8_isGuess_11 (by decide) (fun c2 => ?_) (fun c2 => ?_)
  · replace h := itn c2 h
    refine mG.iconst (v := 0) dX8_isGuess_27 rfl ?_
    subst h
    exact mG.zret (b := false) dX8_isGuess_28 rfl rfl ⟨rfl, rfl, rfl⟩
  · replace h := itp c2 h
    refine mG.iload_n 2 dX8_isGuess_14 rfl ?_
    refine mG.iconst (v := 1) dX8_isGuess_15 rfl ?_
    refine mG.iconst (v := 3) dX8_isGuess_16 rfl ?_
    refine mG.callS0 (as := [.int (a2), .int 1, .int 3]) (st := []) (S2 := S0) (r := some (.int (bI (f_X8_isWithin S0 a2 (1 : Int32) (3 : Int32))))) dX8_isGuess_17 mbX8_isWithin wk6_19 wk6_18 rfl rfl (by decide) (Nat.le_of_ble_eq_true rfl) (c_X8_isWithin  rfl) ?_
    refine mG.ifz_eq (b := f_X8_isWithin S0 a2 (1 : Int32) (3 : Int32)) 27 dX8_isGuess_20 (by decide) (fun c1 => ?_) (fun c1 => ?_)
    · replace h := itn c1 h
      refine mG.iconst (v := 0) dX8_isGuess_27 rfl ?_
      subst h
      exact mG.zret (b := false) dX8_isGuess_28 rfl rfl ⟨rfl, rfl, rfl⟩
    · replace h := itp c1 h
      refine mG.iconst (v := 1) dX8_isGuess_23 rfl ?_
      refine mG.goto 28 dX8_isGuess_24 (by decide) ?_
      subst h
      exact mG.zret (b := true) dX8_isGuess_28 rfl rfl ⟨rfl, rfl, rfl⟩
theorem dX8_sets_0 : decode cX8_sets 0 = .ok (.aload_n 0, 1) := by decide +kernel
theorem dX8_sets_1 : decode cX8_sets 1 = .ok (.iload_n 1, 1) := by decide +kernel
theorem dX8_sets_2 : decode cX8_sets 2 = .ok (.iload_n 2, 1) := by decide +kernel
theorem dX8_sets_3 : decode cX8_sets 3 = .ok (.invokevirtual 269, 3) := by decide +kernel
theorem dX8_sets_6 : decode cX8_sets 6 = .ok (.ifCond .ne 5, 3) := by decide +kernel
theorem dX8_sets_9 : decode cX8_sets 9 = .ok (.iconst (-1), 1) := by decide +kernel
theorem dX8_sets_10 : decode cX8_sets 10 = .ok (.ireturn, 1) := by decide +kernel
theorem dX8_sets_11 : decode cX8_sets 11 = .ok (.aload_n 0, 1) := by decide +kernel
theorem dX8_sets_12 : decode cX8_sets 12 = .ok (.getfield 58, 3) := by decide +kernel
theorem dX8_sets_15 : decode cX8_sets 15 = .ok (.aload_n 0, 1) := by decide +kernel
theorem dX8_sets_16 : decode cX8_sets 16 = .ok (.getfield 41, 3) := by decide +kernel
theorem dX8_sets_19 : decode cX8_sets 19 = .ok (.iload_n 1, 1) := by decide +kernel
theorem dX8_sets_20 : decode cX8_sets 20 = .ok (.iload_n 2, 1) := by decide +kernel
theorem dX8_sets_21 : decode cX8_sets 21 = .ok (.invokevirtual 272, 3) := by decide +kernel
theorem dX8_sets_24 : decode cX8_sets 24 = .ok (.iload_n 3, 1) := by decide +kernel
theorem dX8_sets_25 : decode cX8_sets 25 = .ok (.ifCond .eq 13, 3) := by decide +kernel
theorem dX8_sets_28 : decode cX8_sets 28 = .ok (.aload_n 0, 1) := by decide +kernel
theorem dX8_sets_29 : decode cX8_sets 29 = .ok (.getfield 58, 3) := by decide +kernel
theorem dX8_sets_32 : decode cX8_sets 32 = .ok (.invokevirtual 276, 3) := by decide +kernel
theorem dX8_sets_35 : decode cX8_sets 35 = .ok (.goto 10, 3) := by decide +kernel
theorem dX8_sets_38 : decode cX8_sets 38 = .ok (.aload_n 0, 1) := by decide +kernel
theorem dX8_sets_39 : decode cX8_sets 39 = .ok (.getfield 58, 3) := by decide +kernel
theorem dX8_sets_42 : decode cX8_sets 42 = .ok (.getfield 279, 3) := by decide +kernel
theorem dX8_sets_45 : decode cX8_sets 45 = .ok (.ireturn, 1) := by decide +kernel
def f_X8_sets (F : Nat) (S : mS) (t : Nat) (a1 : Int32) (a2 : Int32) (a3 : Int32) : Option (mS × Int32) := if (f_X8_isGuess S t a1 a2) = true then (bd (f_X2_lookAt F S (t + 369) (t + 40) a1 a2) fun q1 => if a3 = 0 then (some (q1, q1.1 (t + 369) 0)) else (bd (f_X2_inAll F q1 (t + 369)) fun q2 => some (q1, q2))) else (some (S, (-1 : Int32)))
set_option maxHeartbeats 4000000 in
set_option maxRecDepth 100000 in
theorem c_X8_sets {F : Nat} {S : mS} {t : Nat} {a1 : Int32} {a2 : Int32} {a3 : Int32} {R : mS × Int32} (ht : kd0 t = 8) (h : f_X8_sets F S t a1 a2 a3 = some R) : mCt μX8_sets 4 0 0 E0 S [.ref (t), .int (a1), .int (a2), .int (a3)] (mQe R.1 (some (.int R.2))) := by
  unfold f_X8_sets at h
  refine mCt.of (by decide) (Nat.le_of_ble_eq_true rfl) ?_
  intro x
  refine mG.aload_n 0 dX8_sets_0 rfl ?_
  refine mG.iload_n 1 dX8_sets_1 rfl ?_
  refine mG.iload_n 2 dX8_sets_2 rfl ?_
  refine mG.callV0 (as := [.int (a1), .int (a2)]) (st := []) (S2 := S) (r := some (.int (bI (f_X8_isGuess S t a1 a2)))) dX8_sets_3 mvX8_isGuess wk51_11 rfl ht rfl (by decide) (Nat.le_of_ble_eq_true rfl) (c_X8_isGuess ht rfl) ?_
  refine mG.ifz_ne (b := f_X8_isGuess S t a1 a2) 11 dX8_sets_6 (by decide) (fun c4 => ?_) (fun c4 => ?_)
  · replace h := itp c4 h
    refine mG.aload_n 0 dX8_sets_11 rfl ?_
    refine mG.get (v := .ref (t + 369)) dX8_sets_12 mfX8_58 ht (lr8_guess ht) ?_
    refine mG.aload_n 0 dX8_sets_15 rfl ?_
    refine mG.get (v := .ref (t + 40)) dX8_sets_16 mfX8_41 ht (lr8_now ht) ?_
    refine mG.iload_n 1 dX8_sets_19 rfl ?_
    refine mG.iload_n 2 dX8_sets_20 rfl ?_
    obtain ⟨q1, hq1, h⟩ := bdp h
    refine mG.callV0 (as := [.ref (t + 40), .int (a1), .int (a2)]) (st := []) (S2 := q1) (r := none) dX8_sets_21 mvX2_lookAt wk51_15 rfl (lk8_guess ht) rfl (by decide) (Nat.le_of_ble_eq_true rfl) (c_X2_lookAt (lk8_guess ht) (lk8_now ht) hq1) ?_
    refine mG.iload_n 3 dX8_sets_24 rfl ?_
    refine mG.if_eq 38 dX8_sets_25 (by decide) (fun c3 => ?_) (fun c3 => ?_)
    · replace h := itp c3 h
      refine mG.aload_n 0 dX8_sets_38 rfl ?_
      refine mG.get (v := .ref (t + 369)) dX8_sets_39 mfX8_58 ht (lr8_guess ht) ?_
      refine mG.get (v := .int (q1.1 (t + 369) 0)) dX8_sets_42 mfX8_279 (lk8_guess ht) rfl ?_
      obtain rfl := Option.some.inj h
      exact mG.iret dX8_sets_45 rfl ⟨rfl, rfl, rfl⟩
    · replace h := itn c3 h
      refine mG.aload_n 0 dX8_sets_28 rfl ?_
      refine mG.get (v := .ref (t + 369)) dX8_sets_29 mfX8_58 ht (lr8_guess ht) ?_
      obtain ⟨q2, hq2, h⟩ := bdp h
      refine mG.callV0 (as := []) (st := []) (S2 := q1) (r := some (.int (q2))) dX8_sets_32 mvX2_inAll wk52_17 rfl (lk8_guess ht) rfl (by decide) (Nat.le_of_ble_eq_true rfl) (c_X2_inAll (lk8_guess ht) hq2) ?_
      refine mG.goto 45 dX8_sets_35 (by decide) ?_
      obtain rfl := Option.some.inj h
      exact mG.iret dX8_sets_45 rfl ⟨rfl, rfl, rfl⟩
  · replace h := itn c4 h
    refine mG.iconst (v := (-1)) dX8_sets_9 rfl ?_
    obtain rfl := Option.some.inj h
    exact mG.iret dX8_sets_10 rfl ⟨rfl, rfl, rfl⟩
theorem dX8_odds_0 : decode cX8_odds 0 = .ok (.aload_n 0, 1) := by decide +kernel
theorem dX8_odds_1 : decode cX8_odds 1 = .ok (.iload_n 1, 1) := by decide +kernel
theorem dX8_odds_2 : decode cX8_odds 2 = .ok (.iload_n 2, 1) := by decide +kernel
theorem dX8_odds_3 : decode cX8_odds 3 = .ok (.invokevirtual 269, 3) := by decide +kernel
theorem dX8_odds_6 : decode cX8_odds 6 = .ok (.ifCond .eq 10, 3) := by decide +kernel
theorem dX8_odds_9 : decode cX8_odds 9 = .ok (.iload_n 3, 1) := by decide +kernel
theorem dX8_odds_10 : decode cX8_odds 10 = .ok (.invokestatic 257, 3) := by decide +kernel
theorem dX8_odds_13 : decode cX8_odds 13 = .ok (.ifCond .ne 5, 3) := by decide +kernel
theorem dX8_odds_16 : decode cX8_odds 16 = .ok (.iconst (-1), 1) := by decide +kernel
theorem dX8_odds_17 : decode cX8_odds 17 = .ok (.ireturn, 1) := by decide +kernel
theorem dX8_odds_18 : decode cX8_odds 18 = .ok (.aload_n 0, 1) := by decide +kernel
theorem dX8_odds_19 : decode cX8_odds 19 = .ok (.getfield 58, 3) := by decide +kernel
theorem dX8_odds_22 : decode cX8_odds 22 = .ok (.aload_n 0, 1) := by decide +kernel
theorem dX8_odds_23 : decode cX8_odds 23 = .ok (.getfield 41, 3) := by decide +kernel
theorem dX8_odds_26 : decode cX8_odds 26 = .ok (.iload_n 1, 1) := by decide +kernel
theorem dX8_odds_27 : decode cX8_odds 27 = .ok (.iload_n 2, 1) := by decide +kernel
theorem dX8_odds_28 : decode cX8_odds 28 = .ok (.invokevirtual 272, 3) := by decide +kernel
theorem dX8_odds_31 : decode cX8_odds 31 = .ok (.aload_n 0, 1) := by decide +kernel
theorem dX8_odds_32 : decode cX8_odds 32 = .ok (.getfield 58, 3) := by decide +kernel
theorem dX8_odds_35 : decode cX8_odds 35 = .ok (.getfield 279, 3) := by decide +kernel
theorem dX8_odds_38 : decode cX8_odds 38 = .ok (.ifCond .ne 14, 3) := by decide +kernel
theorem dX8_odds_41 : decode cX8_odds 41 = .ok (.iload 4, 2) := by decide +kernel
theorem dX8_odds_43 : decode cX8_odds 43 = .ok (.ifCond .eq 7, 3) := by decide +kernel
theorem dX8_odds_46 : decode cX8_odds 46 = .ok (.iconst 1, 1) := by decide +kernel
theorem dX8_odds_47 : decode cX8_odds 47 = .ok (.goto 4, 3) := by decide +kernel
theorem dX8_odds_50 : decode cX8_odds 50 = .ok (.iconst 0, 1) := by decide +kernel
theorem dX8_odds_51 : decode cX8_odds 51 = .ok (.ireturn, 1) := by decide +kernel
theorem dX8_odds_52 : decode cX8_odds 52 = .ok (.aload_n 0, 1) := by decide +kernel
theorem dX8_odds_53 : decode cX8_odds 53 = .ok (.getfield 58, 3) := by decide +kernel
theorem dX8_odds_56 : decode cX8_odds 56 = .ok (.iload_n 3, 1) := by decide +kernel
theorem dX8_odds_57 : decode cX8_odds 57 = .ok (.invokevirtual 282, 3) := by decide +kernel
theorem dX8_odds_60 : decode cX8_odds 60 = .ok (.istore 5, 2) := by decide +kernel
theorem dX8_odds_62 : decode cX8_odds 62 = .ok (.aload_n 0, 1) := by decide +kernel
theorem dX8_odds_63 : decode cX8_odds 63 = .ok (.getfield 58, 3) := by decide +kernel
theorem dX8_odds_66 : decode cX8_odds 66 = .ok (.getfield 279, 3) := by decide +kernel
theorem dX8_odds_69 : decode cX8_odds 69 = .ok (.iload 5, 2) := by decide +kernel
theorem dX8_odds_71 : decode cX8_odds 71 = .ok (.invokestatic 285, 3) := by decide +kernel
theorem dX8_odds_74 : decode cX8_odds 74 = .ok (.istore 6, 2) := by decide +kernel
theorem dX8_odds_76 : decode cX8_odds 76 = .ok (.iload 6, 2) := by decide +kernel
theorem dX8_odds_78 : decode cX8_odds 78 = .ok (.ifCond .ne 5, 3) := by decide +kernel
theorem dX8_odds_81 : decode cX8_odds 81 = .ok (.iconst (-1), 1) := by decide +kernel
theorem dX8_odds_82 : decode cX8_odds 82 = .ok (.ireturn, 1) := by decide +kernel
theorem dX8_odds_83 : decode cX8_odds 83 = .ok (.iload 4, 2) := by decide +kernel
theorem dX8_odds_85 : decode cX8_odds 85 = .ok (.ifCond .eq 13, 3) := by decide +kernel
theorem dX8_odds_88 : decode cX8_odds 88 = .ok (.aload_n 0, 1) := by decide +kernel
theorem dX8_odds_89 : decode cX8_odds 89 = .ok (.getfield 58, 3) := by decide +kernel
theorem dX8_odds_92 : decode cX8_odds 92 = .ok (.getfield 279, 3) := by decide +kernel
theorem dX8_odds_95 : decode cX8_odds 95 = .ok (.goto 5, 3) := by decide +kernel
theorem dX8_odds_98 : decode cX8_odds 98 = .ok (.iload 5, 2) := by decide +kernel
theorem dX8_odds_100 : decode cX8_odds 100 = .ok (.iload 6, 2) := by decide +kernel
theorem dX8_odds_102 : decode cX8_odds 102 = .ok (.idiv, 1) := by decide +kernel
theorem dX8_odds_103 : decode cX8_odds 103 = .ok (.ireturn, 1) := by decide +kernel
def f_X8_odds (F : Nat) (S : mS) (t : Nat) (a1 : Int32) (a2 : Int32) (a3 : Int32) (a4 : Int32) : Option (mS × Int32) := if (f_X8_isGuess S t a1 a2) = true then (if (f_X8_isDate S a3) = true then (bd (f_X2_lookAt F S (t + 369) (t + 40) a1 a2) fun q1 => if (q1.1 (t + 369) 0) = 0 then (if a4 = 0 then (some (q1, (0 : Int32))) else (some (q1, (1 : Int32)))) else (bd (f_X8_commonDivisor F q1 (q1.1 (t + 369) 0) (f_X2_countWith q1 (t + 369) a3)) fun q2 => if q2 = 0 then (some (q1, (-1 : Int32))) else (if a4 = 0 then (ck (nz q2) (some (q1, (f_X2_countWith q1 (t + 369) a3) / q2))) else (ck (nz q2) (some (q1, (q1.1 (t + 369) 0) / q2)))))) else (some (S, (-1 : Int32)))) else (some (S, (-1 : Int32)))
set_option maxHeartbeats 4000000 in
set_option maxRecDepth 100000 in
theorem c_X8_odds {F : Nat} {S : mS} {t : Nat} {a1 : Int32} {a2 : Int32} {a3 : Int32} {a4 : Int32} {R : mS × Int32} (ht : kd0 t = 8) (h : f_X8_odds F S t a1 a2 a3 a4 = some R) : mCt μX8_odds 4 0 0 E0 S [.ref (t), .int (a1), .int (a2), .int (a3), .int (a4)] (mQe R.1 (some (.int R.2))) := by
  unfold f_X8_odds at h
  refine mCt.of (by decide) (Nat.le_of_ble_eq_true rfl) ?_
  intro x
  refine mG.aload_n 0 dX8_odds_0 rfl ?_
  refine mG.iload_n 1 dX8_odds_1 rfl ?_
  refine mG.iload_n 2 dX8_odds_2 rfl ?_
  refine mG.callV0 (as := [.int (a1), .int (a2)]) (st := []) (S2 := S) (r := some (.int (bI (f_X8_isGuess S t a1 a2)))) dX8_odds_3 mvX8_isGuess wk51_11 rfl ht rfl (by decide) (Nat.le_of_ble_eq_true rfl) (c_X8_isGuess ht rfl) ?_
  refine mG.ifz_eq (b := f_X8_isGuess S t a1 a2) 16 dX8_odds_6 (by decide) (fun c10 => ?_) (fun c10 => ?_)
  · replace h := itn c10 h
    refine mG.iconst (v := (-1)) dX8_odds_16 rfl ?_
    obtain rfl := Option.some.inj h
    exact mG.iret dX8_odds_17 rfl ⟨rfl, rfl, rfl⟩
  · replace h := itp c10 h
    refine mG.iload_n 3 dX8_odds_9 rfl ?_
    refine mG.callS0 (as := [.int (a3)]) (st := []) (S2 := S) (r := some (.int (bI (f_X8_isDate S a3)))) dX8_odds_10 mbX8_isDate wk6_16 wk6_15 rfl rfl (by decide) (Nat.le_of_ble_eq_true rfl) (c_X8_isDate  rfl) ?_
    refine mG.ifz_ne (b := f_X8_isDate S a3) 18 dX8_odds_13 (by decide) (fun c9 => ?_) (fun c9 => ?_)
    · replace h := itp c9 h
      refine mG.aload_n 0 dX8_odds_18 rfl ?_
      refine mG.get (v := .ref (t + 369)) dX8_odds_19 mfX8_58 ht (lr8_guess ht) ?_
      refine mG.aload_n 0 dX8_odds_22 rfl ?_
      refine mG.get (v := .ref (t + 40)) dX8_odds_23 mfX8_41 ht (lr8_now ht) ?_
      refine mG.iload_n 1 dX8_odds_26 rfl ?_
      refine mG.iload_n 2 dX8_odds_27 rfl ?_
      obtain ⟨q1, hq1, h⟩ := bdp h
      refine mG.callV0 (as := [.ref (t + 40), .int (a1), .int (a2)]) (st := []) (S2 := q1) (r := none) dX8_odds_28 mvX2_lookAt wk51_15 rfl (lk8_guess ht) rfl (by decide) (Nat.le_of_ble_eq_true rfl) (c_X2_lookAt (lk8_guess ht) (lk8_now ht) hq1) ?_
      refine mG.aload_n 0 dX8_odds_31 rfl ?_
      refine mG.get (v := .ref (t + 369)) dX8_odds_32 mfX8_58 ht (lr8_guess ht) ?_
      refine mG.get (v := .int (q1.1 (t + 369) 0)) dX8_odds_35 mfX8_279 (lk8_guess ht) rfl ?_
      refine mG.if_ne 52 dX8_odds_38 (by decide) (fun c8 => ?_) (fun c8 => ?_)
      · replace h := itn c8 h
        refine mG.aload_n 0 dX8_odds_52 rfl ?_
        refine mG.get (v := .ref (t + 369)) dX8_odds_53 mfX8_58 ht (lr8_guess ht) ?_
        refine mG.iload_n 3 dX8_odds_56 rfl ?_
        refine mG.callV0 (as := [.int (a3)]) (st := []) (S2 := q1) (r := some (.int (f_X2_countWith q1 (t + 369) a3))) dX8_odds_57 mvX2_countWith wk54_2 rfl (lk8_guess ht) rfl (by decide) (Nat.le_of_ble_eq_true rfl) (c_X2_countWith (lk8_guess ht) rfl) ?_
        refine mG.istore (lv2 := [(5, .int (f_X2_countWith q1 (t + 369) a3)), (0, .ref (t)), (1, .int (a1)), (2, .int (a2)), (3, .int (a3)), (4, .int (a4))]) dX8_odds_60 (by decide) rfl ?_
        refine mG.aload_n 1 dX8_odds_62 rfl ?_
        refine mG.get (v := .ref (t + 369)) dX8_odds_63 mfX8_58 ht (lr8_guess ht) ?_
        refine mG.get (v := .int (q1.1 (t + 369) 0)) dX8_odds_66 mfX8_279 (lk8_guess ht) rfl ?_
        refine mG.iload 0 dX8_odds_69 rfl ?_
        obtain ⟨q2, hq2, h⟩ := bdp h
        refine mG.callS0 (as := [.int (q1.1 (t + 369) 0), .int (f_X2_countWith q1 (t + 369) a3)]) (st := []) (S2 := q1) (r := some (.int (q2))) dX8_odds_71 mbX8_commonDivisor wk54_4 wk54_3 rfl rfl (by decide) (Nat.le_of_ble_eq_true rfl) (c_X8_commonDivisor  hq2) ?_
        refine mG.istore (lv2 := [(6, .int (q2)), (5, .int (f_X2_countWith q1 (t + 369) a3)), (0, .ref (t)), (1, .int (a1)), (2, .int (a2)), (3, .int (a3)), (4, .int (a4))]) dX8_odds_74 (by decide) rfl ?_
        refine mG.iload 0 dX8_odds_76 rfl ?_
        refine mG.if_ne 83 dX8_odds_78 (by decide) (fun c6 => ?_) (fun c6 => ?_)
        · replace h := itn c6 h
          refine mG.iload 6 dX8_odds_83 rfl ?_
          refine mG.if_eq 98 dX8_odds_85 (by decide) (fun c5 => ?_) (fun c5 => ?_)
          · replace h := itp c5 h
            refine mG.iload 1 dX8_odds_98 rfl ?_
            refine mG.iload 0 dX8_odds_100 rfl ?_
            obtain ⟨b3, h⟩ := ckp h
            refine mG.idiv dX8_odds_102 (nzp b3) ?_
            obtain rfl := Option.some.inj h
            exact mG.iret dX8_odds_103 rfl ⟨rfl, rfl, rfl⟩
          · replace h := itn c5 h
            refine mG.aload_n 2 dX8_odds_88 rfl ?_
            refine mG.get (v := .ref (t + 369)) dX8_odds_89 mfX8_58 ht (lr8_guess ht) ?_
            refine mG.get (v := .int (q1.1 (t + 369) 0)) dX8_odds_92 mfX8_279 (lk8_guess ht) rfl ?_
            refine mG.goto 100 dX8_odds_95 (by decide) ?_
            refine mG.iload 0 dX8_odds_100 rfl ?_
            obtain ⟨b4, h⟩ := ckp h
            refine mG.idiv dX8_odds_102 (nzp b4) ?_
            obtain rfl := Option.some.inj h
            exact mG.iret dX8_odds_103 rfl ⟨rfl, rfl, rfl⟩
        · replace h := itp c6 h
          refine mG.iconst (v := (-1)) dX8_odds_81 rfl ?_
          obtain rfl := Option.some.inj h
          exact mG.iret dX8_odds_82 rfl ⟨rfl, rfl, rfl⟩
      · replace h := itp c8 h
        refine mG.iload 4 dX8_odds_41 rfl ?_
        refine mG.if_eq 50 dX8_odds_43 (by decide) (fun c7 => ?_) (fun c7 => ?_)
        · replace h := itp c7 h
          refine mG.iconst (v := 0) dX8_odds_50 rfl ?_
          obtain rfl := Option.some.inj h
          exact mG.iret dX8_odds_51 rfl ⟨rfl, rfl, rfl⟩
        · replace h := itn c7 h
          refine mG.iconst (v := 1) dX8_odds_46 rfl ?_
          refine mG.goto 51 dX8_odds_47 (by decide) ?_
          obtain rfl := Option.some.inj h
          exact mG.iret dX8_odds_51 rfl ⟨rfl, rfl, rfl⟩
    · replace h := itn c9 h
      refine mG.iconst (v := (-1)) dX8_odds_16 rfl ?_
      obtain rfl := Option.some.inj h
      exact mG.iret dX8_odds_17 rfl ⟨rfl, rfl, rfl⟩
theorem dX8_nextKnock_0 : decode cX8_nextKnock 0 = .ok (.aload_n 0, 1) := by decide +kernel
theorem dX8_nextKnock_1 : decode cX8_nextKnock 1 = .ok (.iload_n 1, 1) := by decide +kernel
theorem dX8_nextKnock_2 : decode cX8_nextKnock 2 = .ok (.iload_n 2, 1) := by decide +kernel
theorem dX8_nextKnock_3 : decode cX8_nextKnock 3 = .ok (.invokevirtual 269, 3) := by decide +kernel
theorem dX8_nextKnock_6 : decode cX8_nextKnock 6 = .ok (.ifCond .ne 5, 3) := by decide +kernel
theorem dX8_nextKnock_9 : decode cX8_nextKnock 9 = .ok (.iconst (-1), 1) := by decide +kernel
theorem dX8_nextKnock_10 : decode cX8_nextKnock 10 = .ok (.ireturn, 1) := by decide +kernel
theorem dX8_nextKnock_11 : decode cX8_nextKnock 11 = .ok (.aload_n 0, 1) := by decide +kernel
theorem dX8_nextKnock_12 : decode cX8_nextKnock 12 = .ok (.getfield 58, 3) := by decide +kernel
theorem dX8_nextKnock_15 : decode cX8_nextKnock 15 = .ok (.aload_n 0, 1) := by decide +kernel
theorem dX8_nextKnock_16 : decode cX8_nextKnock 16 = .ok (.getfield 41, 3) := by decide +kernel
theorem dX8_nextKnock_19 : decode cX8_nextKnock 19 = .ok (.iload_n 1, 1) := by decide +kernel
theorem dX8_nextKnock_20 : decode cX8_nextKnock 20 = .ok (.iload_n 2, 1) := by decide +kernel
theorem dX8_nextKnock_21 : decode cX8_nextKnock 21 = .ok (.invokevirtual 272, 3) := by decide +kernel
theorem dX8_nextKnock_24 : decode cX8_nextKnock 24 = .ok (.iconst (-1), 1) := by decide +kernel
theorem dX8_nextKnock_25 : decode cX8_nextKnock 25 = .ok (.istore_n 3, 1) := by decide +kernel
theorem dX8_nextKnock_26 : decode cX8_nextKnock 26 = .ok (.iconst 0, 1) := by decide +kernel
theorem dX8_nextKnock_27 : decode cX8_nextKnock 27 = .ok (.istore 4, 2) := by decide +kernel
theorem dX8_nextKnock_29 : decode cX8_nextKnock 29 = .ok (.iload 4, 2) := by decide +kernel
theorem dX8_nextKnock_31 : decode cX8_nextKnock 31 = .ok (.bipush 20, 2) := by decide +kernel
theorem dX8_nextKnock_33 : decode cX8_nextKnock 33 = .ok (.if_icmp .ge 65, 3) := by decide +kernel
theorem dX8_nextKnock_36 : decode cX8_nextKnock 36 = .ok (.aload_n 0, 1) := by decide +kernel
theorem dX8_nextKnock_37 : decode cX8_nextKnock 37 = .ok (.getfield 58, 3) := by decide +kernel
theorem dX8_nextKnock_40 : decode cX8_nextKnock 40 = .ok (.iload 4, 2) := by decide +kernel
theorem dX8_nextKnock_42 : decode cX8_nextKnock 42 = .ok (.invokevirtual 282, 3) := by decide +kernel
theorem dX8_nextKnock_45 : decode cX8_nextKnock 45 = .ok (.istore 5, 2) := by decide +kernel
theorem dX8_nextKnock_47 : decode cX8_nextKnock 47 = .ok (.iload 5, 2) := by decide +kernel
theorem dX8_nextKnock_49 : decode cX8_nextKnock 49 = .ok (.ifCond .le 43, 3) := by decide +kernel
theorem dX8_nextKnock_52 : decode cX8_nextKnock 52 = .ok (.iload 5, 2) := by decide +kernel
theorem dX8_nextKnock_54 : decode cX8_nextKnock 54 = .ok (.aload_n 0, 1) := by decide +kernel
theorem dX8_nextKnock_55 : decode cX8_nextKnock 55 = .ok (.getfield 58, 3) := by decide +kernel
theorem dX8_nextKnock_58 : decode cX8_nextKnock 58 = .ok (.getfield 279, 3) := by decide +kernel
theorem dX8_nextKnock_61 : decode cX8_nextKnock 61 = .ok (.if_icmp .ge 31, 3) := by decide +kernel
theorem dX8_nextKnock_64 : decode cX8_nextKnock 64 = .ok (.iload_n 3, 1) := by decide +kernel
theorem dX8_nextKnock_65 : decode cX8_nextKnock 65 = .ok (.iconst (-1), 1) := by decide +kernel
theorem dX8_nextKnock_66 : decode cX8_nextKnock 66 = .ok (.if_icmp .eq 23, 3) := by decide +kernel
theorem dX8_nextKnock_69 : decode cX8_nextKnock 69 = .ok (.aload_n 0, 1) := by decide +kernel
theorem dX8_nextKnock_70 : decode cX8_nextKnock 70 = .ok (.getfield 58, 3) := by decide +kernel
theorem dX8_nextKnock_73 : decode cX8_nextKnock 73 = .ok (.iload 4, 2) := by decide +kernel
theorem dX8_nextKnock_75 : decode cX8_nextKnock 75 = .ok (.invokevirtual 288, 3) := by decide +kernel
theorem dX8_nextKnock_78 : decode cX8_nextKnock 78 = .ok (.aload_n 0, 1) := by decide +kernel
theorem dX8_nextKnock_79 : decode cX8_nextKnock 79 = .ok (.getfield 58, 3) := by decide +kernel
theorem dX8_nextKnock_82 : decode cX8_nextKnock 82 = .ok (.iload_n 3, 1) := by decide +kernel
theorem dX8_nextKnock_83 : decode cX8_nextKnock 83 = .ok (.invokevirtual 288, 3) := by decide +kernel
theorem dX8_nextKnock_86 : decode cX8_nextKnock 86 = .ok (.if_icmp .ge 6, 3) := by decide +kernel
theorem dX8_nextKnock_89 : decode cX8_nextKnock 89 = .ok (.iload 4, 2) := by decide +kernel
theorem dX8_nextKnock_91 : decode cX8_nextKnock 91 = .ok (.istore_n 3, 1) := by decide +kernel
theorem dX8_nextKnock_92 : decode cX8_nextKnock 92 = .ok (.iinc 4 1, 3) := by decide +kernel
theorem dX8_nextKnock_95 : decode cX8_nextKnock 95 = .ok (.goto (-66), 3) := by decide +kernel
theorem dX8_nextKnock_98 : decode cX8_nextKnock 98 = .ok (.iload_n 3, 1) := by decide +kernel
theorem dX8_nextKnock_99 : decode cX8_nextKnock 99 = .ok (.ireturn, 1) := by decide +kernel
def lX8_nextKnock_29 (F : Nat)  (t : Nat) (a1 : Int32) (a2 : Int32) : Nat → mS → Int32 → Int32 → Option (mS × Int32)
  | 0, _, _, _ => none
  | n + 1, S, v3, v4 => if (20 : Int32) ≤ v4 then (some (S, v3)) else (if (f_X2_countWith S (t + 369) v4) ≤ 0 then (lX8_nextKnock_29 F  t a1 a2 n S v3 (v4 + 1)) else (if (S.1 (t + 369) 0) ≤ (f_X2_countWith S (t + 369) v4) then (lX8_nextKnock_29 F  t a1 a2 n S v3 (v4 + 1)) else (if v3 = (-1 : Int32) then (lX8_nextKnock_29 F  t a1 a2 n S v4 (v4 + 1)) else (if (f_X2_offHalf S (t + 369) v3) ≤ (f_X2_offHalf S (t + 369) v4) then (lX8_nextKnock_29 F  t a1 a2 n S v3 (v4 + 1)) else (lX8_nextKnock_29 F  t a1 a2 n S v4 (v4 + 1))))))
set_option maxHeartbeats 4000000 in
set_option maxRecDepth 100000 in
theorem gX8_nextKnock_29 {x : mX} {F : Nat} {t : Nat} {a1 : Int32} {a2 : Int32}   {R : mS × Int32} (ht : kd0 t = 8)  : ∀ (n : Nat) (S : mS) (v3 : Int32) (v4 : Int32), lX8_nextKnock_29 F  t a1 a2 n S v3 v4 = some R → mG x μX8_nextKnock 4 0 0 (mQe R.1 (some (.int R.2))) 0 0 E0 S 29 [(0, .ref (t)), (3, .int (v3)), (4, .int (v4))] [] := by
  intro n
  induction n with
  | zero =>
    intro S v3 v4 h
    cases h
  | succ n ih =>
    intro S v3 v4 h
    unfold lX8_nextKnock_29 at h
    refine mG.iload 2 dX8_nextKnock_29 rfl ?_
    refine mG.bipush (v := 20) dX8_nextKnock_31 (by decide) ?_
    refine mG.icmp_ge 98 dX8_nextKnock_33 (by decide) (fun c5 => ?_) (fun c5 => ?_)
    · replace h := itp c5 h
      refine mG.iload_n 1 dX8_nextKnock_98 rfl ?_
      obtain rfl := Option.some.inj h
      exact mG.iret dX8_nextKnock_99 rfl ⟨rfl, rfl, rfl⟩
    · replace h := itn c5 h
      refine mG.aload_n 0 dX8_nextKnock_36 rfl ?_
      refine mG.get (v := .ref (t + 369)) dX8_nextKnock_37 mfX8_58 ht (lr8_guess ht) ?_
      refine mG.iload 2 dX8_nextKnock_40 rfl ?_
      refine mG.callV0 (as := [.int (v4)]) (st := []) (S2 := S) (r := some (.int (f_X2_countWith S (t + 369) v4))) dX8_nextKnock_42 mvX2_countWith wk54_2 rfl (lk8_guess ht) rfl (by decide) (Nat.le_of_ble_eq_true rfl) (c_X2_countWith (lk8_guess ht) rfl) ?_
      refine mG.istore (lv2 := [(5, .int (f_X2_countWith S (t + 369) v4)), (0, .ref (t)), (3, .int (v3)), (4, .int (v4))]) dX8_nextKnock_45 (by decide) rfl ?_
      refine mG.iload 0 dX8_nextKnock_47 rfl ?_
      refine mG.if_le 92 dX8_nextKnock_49 (by decide) (fun c4 => ?_) (fun c4 => ?_)
      · replace h := itp c4 h
        refine mG.iinc 3 (u := v4 + 1) (lv2 := [(4, .int (v4 + 1)), (5, .int (f_X2_countWith S (t + 369) v4)), (0, .ref (t)), (3, .int (v3))]) dX8_nextKnock_92 rfl rfl (by decide) rfl ?_
        refine mG.goto 29 dX8_nextKnock_95 (by decide) ?_
        refine mG.sub (lv2 := [(0, .ref (t)), (3, .int (v3)), (4, .int (v4 + 1))]) [2, 3, 0] rfl ?_
        exact ih S v3 (v4 + 1)  h
      · replace h := itn c4 h
        refine mG.iload 0 dX8_nextKnock_52 rfl ?_
        refine mG.aload_n 1 dX8_nextKnock_54 rfl ?_
        refine mG.get (v := .ref (t + 369)) dX8_nextKnock_55 mfX8_58 ht (lr8_guess ht) ?_
        refine mG.get (v := .int (S.1 (t + 369) 0)) dX8_nextKnock_58 mfX8_279 (lk8_guess ht) rfl ?_
        refine mG.icmp_ge 92 dX8_nextKnock_61 (by decide) (fun c3 => ?_) (fun c3 => ?_)
        · replace h := itp c3 h
          refine mG.iinc 3 (u := v4 + 1) (lv2 := [(4, .int (v4 + 1)), (5, .int (f_X2_countWith S (t + 369) v4)), (0, .ref (t)), (3, .int (v3))]) dX8_nextKnock_92 rfl rfl (by decide) rfl ?_
          refine mG.goto 29 dX8_nextKnock_95 (by decide) ?_
          refine mG.sub (lv2 := [(0, .ref (t)), (3, .int (v3)), (4, .int (v4 + 1))]) [2, 3, 0] rfl ?_
          exact ih S v3 (v4 + 1)  h
        · replace h := itn c3 h
          refine mG.iload_n 2 dX8_nextKnock_64 rfl ?_
          refine mG.iconst (v := (-1)) dX8_nextKnock_65 rfl ?_
          refine mG.icmp_eq 89 dX8_nextKnock_66 (by decide) (fun c2 => ?_) (fun c2 => ?_)
          · replace h := itp c2 h
            refine mG.iload 3 dX8_nextKnock_89 rfl ?_
            refine mG.istore_n (lv2 := [(3, .int (v4)), (5, .int (f_X2_countWith S (t + 369) v4)), (0, .ref (t)), (4, .int (v4))]) dX8_nextKnock_91 rfl (by decide) rfl ?_
            refine mG.iinc 3 (u := v4 + 1) (lv2 := [(4, .int (v4 + 1)), (3, .int (v4)), (5, .int (f_X2_countWith S (t + 369) v4)), (0, .ref (t))]) dX8_nextKnock_92 rfl rfl (by decide) rfl ?_
            refine mG.goto 29 dX8_nextKnock_95 (by decide) ?_
            refine mG.sub (lv2 := [(0, .ref (t)), (3, .int (v4)), (4, .int (v4 + 1))]) [3, 1, 0] rfl ?_
            exact ih S v4 (v4 + 1)  h
          · replace h := itn c2 h
            refine mG.aload_n 1 dX8_nextKnock_69 rfl ?_
            refine mG.get (v := .ref (t + 369)) dX8_nextKnock_70 mfX8_58 ht (lr8_guess ht) ?_
            refine mG.iload 3 dX8_nextKnock_73 rfl ?_
            refine mG.callV0 (as := [.int (v4)]) (st := []) (S2 := S) (r := some (.int (f_X2_offHalf S (t + 369) v4))) dX8_nextKnock_75 mvX2_offHalf wk54_17 rfl (lk8_guess ht) rfl (by decide) (Nat.le_of_ble_eq_true rfl) (c_X2_offHalf (lk8_guess ht) rfl) ?_
            refine mG.aload_n 1 dX8_nextKnock_78 rfl ?_
            refine mG.get (v := .ref (t + 369)) dX8_nextKnock_79 mfX8_58 ht (lr8_guess ht) ?_
            refine mG.iload_n 2 dX8_nextKnock_82 rfl ?_
            refine mG.callV0 (as := [.int (v3)]) (st := [.int (f_X2_offHalf S (t + 369) v4)]) (S2 := S) (r := some (.int (f_X2_offHalf S (t + 369) v3))) dX8_nextKnock_83 mvX2_offHalf wk54_17 rfl (lk8_guess ht) rfl (by decide) (Nat.le_of_ble_eq_true rfl) (c_X2_offHalf (lk8_guess ht) rfl) ?_
            refine mG.icmp_ge 92 dX8_nextKnock_86 (by decide) (fun c1 => ?_) (fun c1 => ?_)
            · replace h := itp c1 h
              refine mG.iinc 3 (u := v4 + 1) (lv2 := [(4, .int (v4 + 1)), (5, .int (f_X2_countWith S (t + 369) v4)), (0, .ref (t)), (3, .int (v3))]) dX8_nextKnock_92 rfl rfl (by decide) rfl ?_
              refine mG.goto 29 dX8_nextKnock_95 (by decide) ?_
              refine mG.sub (lv2 := [(0, .ref (t)), (3, .int (v3)), (4, .int (v4 + 1))]) [2, 3, 0] rfl ?_
              exact ih S v3 (v4 + 1)  h
            · replace h := itn c1 h
              refine mG.iload 3 dX8_nextKnock_89 rfl ?_
              refine mG.istore_n (lv2 := [(3, .int (v4)), (5, .int (f_X2_countWith S (t + 369) v4)), (0, .ref (t)), (4, .int (v4))]) dX8_nextKnock_91 rfl (by decide) rfl ?_
              refine mG.iinc 3 (u := v4 + 1) (lv2 := [(4, .int (v4 + 1)), (3, .int (v4)), (5, .int (f_X2_countWith S (t + 369) v4)), (0, .ref (t))]) dX8_nextKnock_92 rfl rfl (by decide) rfl ?_
              refine mG.goto 29 dX8_nextKnock_95 (by decide) ?_
              refine mG.sub (lv2 := [(0, .ref (t)), (3, .int (v4)), (4, .int (v4 + 1))]) [3, 1, 0] rfl ?_
              exact ih S v4 (v4 + 1)  h
def f_X8_nextKnock (F : Nat) (S : mS) (t : Nat) (a1 : Int32) (a2 : Int32) : Option (mS × Int32) := if (f_X8_isGuess S t a1 a2) = true then (bd (f_X2_lookAt F S (t + 369) (t + 40) a1 a2) fun q1 => lX8_nextKnock_29 F  t a1 a2 F q1 (-1 : Int32) (0 : Int32)) else (some (S, (-1 : Int32)))
set_option maxHeartbeats 4000000 in
set_option maxRecDepth 100000 in
theorem c_X8_nextKnock {F : Nat} {S : mS} {t : Nat} {a1 : Int32} {a2 : Int32} {R : mS × Int32} (ht : kd0 t = 8) (h : f_X8_nextKnock F S t a1 a2 = some R) : mCt μX8_nextKnock 4 0 0 E0 S [.ref (t), .int (a1), .int (a2)] (mQe R.1 (some (.int R.2))) := by
  unfold f_X8_nextKnock at h
  refine mCt.of (by decide) (Nat.le_of_ble_eq_true rfl) ?_
  intro x
  refine mG.aload_n 0 dX8_nextKnock_0 rfl ?_
  refine mG.iload_n 1 dX8_nextKnock_1 rfl ?_
  refine mG.iload_n 2 dX8_nextKnock_2 rfl ?_
  refine mG.callV0 (as := [.int (a1), .int (a2)]) (st := []) (S2 := S) (r := some (.int (bI (f_X8_isGuess S t a1 a2)))) dX8_nextKnock_3 mvX8_isGuess wk51_11 rfl ht rfl (by decide) (Nat.le_of_ble_eq_true rfl) (c_X8_isGuess ht rfl) ?_
  refine mG.ifz_ne (b := f_X8_isGuess S t a1 a2) 11 dX8_nextKnock_6 (by decide) (fun c2 => ?_) (fun c2 => ?_)
  · replace h := itp c2 h
    refine mG.aload_n 0 dX8_nextKnock_11 rfl ?_
    refine mG.get (v := .ref (t + 369)) dX8_nextKnock_12 mfX8_58 ht (lr8_guess ht) ?_
    refine mG.aload_n 0 dX8_nextKnock_15 rfl ?_
    refine mG.get (v := .ref (t + 40)) dX8_nextKnock_16 mfX8_41 ht (lr8_now ht) ?_
    refine mG.iload_n 1 dX8_nextKnock_19 rfl ?_
    refine mG.iload_n 2 dX8_nextKnock_20 rfl ?_
    obtain ⟨q1, hq1, h⟩ := bdp h
    refine mG.callV0 (as := [.ref (t + 40), .int (a1), .int (a2)]) (st := []) (S2 := q1) (r := none) dX8_nextKnock_21 mvX2_lookAt wk51_15 rfl (lk8_guess ht) rfl (by decide) (Nat.le_of_ble_eq_true rfl) (c_X2_lookAt (lk8_guess ht) (lk8_now ht) hq1) ?_
    refine mG.iconst (v := (-1)) dX8_nextKnock_24 rfl ?_
    refine mG.istore_n (lv2 := [(3, .int (-1)), (0, .ref (t)), (1, .int (a1)), (2, .int (a2))]) dX8_nextKnock_25 rfl (by decide) rfl ?_
    refine mG.iconst (v := 0) dX8_nextKnock_26 rfl ?_
    refine mG.istore (lv2 := [(4, .int 0), (3, .int (-1)), (0, .ref (t)), (1, .int (a1)), (2, .int (a2))]) dX8_nextKnock_27 (by decide) rfl ?_
    refine mG.sub (lv2 := [(0, .ref (t)), (3, .int (-1)), (4, .int 0)]) [2, 1, 0] rfl ?_
    exact gX8_nextKnock_29 ht  F q1 (-1 : Int32) (0 : Int32)  h
  · replace h := itn c2 h
    refine mG.iconst (v := (-1)) dX8_nextKnock_9 rfl ?_
    obtain rfl := Option.some.inj h
    exact mG.iret dX8_nextKnock_10 rfl ⟨rfl, rfl, rfl⟩
theorem dX8_thieves_0 : decode cX8_thieves 0 = .ok (.iload_n 1, 1) := by decide +kernel
theorem dX8_thieves_1 : decode cX8_thieves 1 = .ok (.invokestatic 257, 3) := by decide +kernel
theorem dX8_thieves_4 : decode cX8_thieves 4 = .ok (.ifCond .eq 13, 3) := by decide +kernel
theorem dX8_thieves_7 : decode cX8_thieves 7 = .ok (.iload_n 2, 1) := by decide +kernel
theorem dX8_thieves_8 : decode cX8_thieves 8 = .ok (.iconst 1, 1) := by decide +kernel
theorem dX8_thieves_9 : decode cX8_thieves 9 = .ok (.bipush 7, 2) := by decide +kernel
theorem dX8_thieves_11 : decode cX8_thieves 11 = .ok (.invokestatic 84, 3) := by decide +kernel
theorem dX8_thieves_14 : decode cX8_thieves 14 = .ok (.ifCond .ne 6, 3) := by decide +kernel
theorem dX8_thieves_17 : decode cX8_thieves 17 = .ok (.bipush (-2), 2) := by decide +kernel
theorem dX8_thieves_19 : decode cX8_thieves 19 = .ok (.ireturn, 1) := by decide +kernel
theorem dX8_thieves_20 : decode cX8_thieves 20 = .ok (.aload_n 0, 1) := by decide +kernel
theorem dX8_thieves_21 : decode cX8_thieves 21 = .ok (.getfield 41, 3) := by decide +kernel
theorem dX8_thieves_24 : decode cX8_thieves 24 = .ok (.getfield 88, 3) := by decide +kernel
theorem dX8_thieves_27 : decode cX8_thieves 27 = .ok (.iload_n 1, 1) := by decide +kernel
theorem dX8_thieves_28 : decode cX8_thieves 28 = .ok (.iload_n 2, 1) := by decide +kernel
theorem dX8_thieves_29 : decode cX8_thieves 29 = .ok (.invokevirtual 291, 3) := by decide +kernel
theorem dX8_thieves_32 : decode cX8_thieves 32 = .ok (.istore 4, 2) := by decide +kernel
theorem dX8_thieves_34 : decode cX8_thieves 34 = .ok (.iload_n 3, 1) := by decide +kernel
theorem dX8_thieves_35 : decode cX8_thieves 35 = .ok (.ifCond .eq 8, 3) := by decide +kernel
theorem dX8_thieves_38 : decode cX8_thieves 38 = .ok (.iload 4, 2) := by decide +kernel
theorem dX8_thieves_40 : decode cX8_thieves 40 = .ok (.goto 17, 3) := by decide +kernel
theorem dX8_thieves_43 : decode cX8_thieves 43 = .ok (.aload_n 0, 1) := by decide +kernel
theorem dX8_thieves_44 : decode cX8_thieves 44 = .ok (.getfield 41, 3) := by decide +kernel
theorem dX8_thieves_47 : decode cX8_thieves 47 = .ok (.getfield 88, 3) := by decide +kernel
theorem dX8_thieves_50 : decode cX8_thieves 50 = .ok (.iload 4, 2) := by decide +kernel
theorem dX8_thieves_52 : decode cX8_thieves 52 = .ok (.iload_n 1, 1) := by decide +kernel
theorem dX8_thieves_53 : decode cX8_thieves 53 = .ok (.iload_n 2, 1) := by decide +kernel
theorem dX8_thieves_54 : decode cX8_thieves 54 = .ok (.invokevirtual 294, 3) := by decide +kernel
theorem dX8_thieves_57 : decode cX8_thieves 57 = .ok (.ireturn, 1) := by decide +kernel
def f_X8_thieves (F : Nat) (S0 : mS) (t : Nat) (a1 : Int32) (a2 : Int32) (a3 : Int32) : Option Int32 := if (f_X8_isDate S0 a1) = true then (if (f_X8_isWithin S0 a2 (1 : Int32) (7 : Int32)) = true then (bd (f_X6_robbedFirst F S0 (t + 40 + 1) a1 a2) fun q1 => if a3 = 0 then (bd (f_X6_loot F S0 (t + 40 + 1) q1 a1 a2) fun q2 => some q2) else (some q1)) else (some (-2 : Int32))) else (some (-2 : Int32))
set_option maxHeartbeats 4000000 in
set_option maxRecDepth 100000 in
theorem c_X8_thieves {F : Nat} {S0 : mS} {t : Nat} {a1 : Int32} {a2 : Int32} {a3 : Int32} {R : Int32} (ht : kd0 t = 8) (h : f_X8_thieves F S0 t a1 a2 a3 = some R) : mCt μX8_thieves 5 0 0 E0 S0 [.ref (t), .int (a1), .int (a2), .int (a3)] (mQe S0 (some (.int R))) := by
  unfold f_X8_thieves at h
  refine mCt.of (by decide) (Nat.le_of_ble_eq_true rfl) ?_
  intro x
  refine mG.iload_n 1 dX8_thieves_0 rfl ?_
  refine mG.callS0 (as := [.int (a1)]) (st := []) (S2 := S0) (r := some (.int (bI (f_X8_isDate S0 a1)))) dX8_thieves_1 mbX8_isDate wk6_16 wk6_15 rfl rfl (by decide) (Nat.le_of_ble_eq_true rfl) (c_X8_isDate  rfl) ?_
  refine mG.ifz_eq (b := f_X8_isDate S0 a1) 17 dX8_thieves_4 (by decide) (fun c5 => ?_) (fun c5 => ?_)
  · replace h := itn c5 h
    refine mG.bipush (v := (-2)) dX8_thieves_17 (by decide) ?_
    obtain rfl := Option.some.inj h
    exact mG.iret dX8_thieves_19 rfl ⟨rfl, rfl, rfl⟩
  · replace h := itp c5 h
    refine mG.iload_n 2 dX8_thieves_7 rfl ?_
    refine mG.iconst (v := 1) dX8_thieves_8 rfl ?_
    refine mG.bipush (v := 7) dX8_thieves_9 (by decide) ?_
    refine mG.callS0 (as := [.int (a2), .int 1, .int 7]) (st := []) (S2 := S0) (r := some (.int (bI (f_X8_isWithin S0 a2 (1 : Int32) (7 : Int32))))) dX8_thieves_11 mbX8_isWithin wk6_19 wk6_18 rfl rfl (by decide) (Nat.le_of_ble_eq_true rfl) (c_X8_isWithin  rfl) ?_
    refine mG.ifz_ne (b := f_X8_isWithin S0 a2 (1 : Int32) (7 : Int32)) 20 dX8_thieves_14 (by decide) (fun c4 => ?_) (fun c4 => ?_)
    · replace h := itp c4 h
      refine mG.aload_n 0 dX8_thieves_20 rfl ?_
      refine mG.get (v := .ref (t + 40)) dX8_thieves_21 mfX8_41 ht (lr8_now ht) ?_
      refine mG.get (v := .ref (t + 40 + 1)) dX8_thieves_24 mfX8_88 (lk8_now ht) (lr7_town (lk8_now ht)) ?_
      refine mG.iload_n 1 dX8_thieves_27 rfl ?_
      refine mG.iload_n 2 dX8_thieves_28 rfl ?_
      obtain ⟨q1, hq1, h⟩ := bdp h
      refine mG.callV0 (as := [.int (a1), .int (a2)]) (st := []) (S2 := S0) (r := some (.int (q1))) dX8_thieves_29 mvX6_robbedFirst wk55_7 rfl (lk7_town (lk8_now ht)) rfl (by decide) (Nat.le_of_ble_eq_true rfl) (c_X6_robbedFirst (lk7_town (lk8_now ht)) hq1) ?_
      refine mG.istore (lv2 := [(4, .int (q1)), (0, .ref (t)), (1, .int (a1)), (2, .int (a2)), (3, .int (a3))]) dX8_thieves_32 (by decide) rfl ?_
      refine mG.iload_n 4 dX8_thieves_34 rfl ?_
      refine mG.if_eq 43 dX8_thieves_35 (by decide) (fun c3 => ?_) (fun c3 => ?_)
      · replace h := itp c3 h
        refine mG.aload_n 1 dX8_thieves_43 rfl ?_
        refine mG.get (v := .ref (t + 40)) dX8_thieves_44 mfX8_41 ht (lr8_now ht) ?_
        refine mG.get (v := .ref (t + 40 + 1)) dX8_thieves_47 mfX8_88 (lk8_now ht) (lr7_town (lk8_now ht)) ?_
        refine mG.iload 0 dX8_thieves_50 rfl ?_
        refine mG.iload_n 2 dX8_thieves_52 rfl ?_
        refine mG.iload_n 3 dX8_thieves_53 rfl ?_
        obtain ⟨q2, hq2, h⟩ := bdp h
        refine mG.callV0 (as := [.int (q1), .int (a1), .int (a2)]) (st := []) (S2 := S0) (r := some (.int (q2))) dX8_thieves_54 mvX6_loot wk55_15 rfl (lk7_town (lk8_now ht)) rfl (by decide) (Nat.le_of_ble_eq_true rfl) (c_X6_loot (lk7_town (lk8_now ht)) hq2) ?_
        obtain rfl := Option.some.inj h
        exact mG.iret dX8_thieves_57 rfl ⟨rfl, rfl, rfl⟩
      · replace h := itn c3 h
        refine mG.iload 0 dX8_thieves_38 rfl ?_
        refine mG.goto 57 dX8_thieves_40 (by decide) ?_
        obtain rfl := Option.some.inj h
        exact mG.iret dX8_thieves_57 rfl ⟨rfl, rfl, rfl⟩
    · replace h := itn c4 h
      refine mG.bipush (v := (-2)) dX8_thieves_17 (by decide) ?_
      obtain rfl := Option.some.inj h
      exact mG.iret dX8_thieves_19 rfl ⟨rfl, rfl, rfl⟩
theorem dX8_night_0 : decode cX8_night 0 = .ok (.iload_n 1, 1) := by decide +kernel
theorem dX8_night_1 : decode cX8_night 1 = .ok (.iconst 1, 1) := by decide +kernel
theorem dX8_night_2 : decode cX8_night 2 = .ok (.bipush 7, 2) := by decide +kernel
theorem dX8_night_4 : decode cX8_night 4 = .ok (.invokestatic 84, 3) := by decide +kernel
theorem dX8_night_7 : decode cX8_night 7 = .ok (.ifCond .ne 5, 3) := by decide +kernel
theorem dX8_night_10 : decode cX8_night 10 = .ok (.iconst (-1), 1) := by decide +kernel
theorem dX8_night_11 : decode cX8_night 11 = .ok (.ireturn, 1) := by decide +kernel
theorem dX8_night_12 : decode cX8_night 12 = .ok (.iconst 0, 1) := by decide +kernel
theorem dX8_night_13 : decode cX8_night 13 = .ok (.istore_n 2, 1) := by decide +kernel
theorem dX8_night_14 : decode cX8_night 14 = .ok (.iconst (-1), 1) := by decide +kernel
theorem dX8_night_15 : decode cX8_night 15 = .ok (.istore_n 3, 1) := by decide +kernel
theorem dX8_night_16 : decode cX8_night 16 = .ok (.iconst 0, 1) := by decide +kernel
theorem dX8_night_17 : decode cX8_night 17 = .ok (.istore 4, 2) := by decide +kernel
theorem dX8_night_19 : decode cX8_night 19 = .ok (.iload 4, 2) := by decide +kernel
theorem dX8_night_21 : decode cX8_night 21 = .ok (.bipush 20, 2) := by decide +kernel
theorem dX8_night_23 : decode cX8_night 23 = .ok (.if_icmp .ge 49, 3) := by decide +kernel
theorem dX8_night_26 : decode cX8_night 26 = .ok (.aload_n 0, 1) := by decide +kernel
theorem dX8_night_27 : decode cX8_night 27 = .ok (.getfield 41, 3) := by decide +kernel
theorem dX8_night_30 : decode cX8_night 30 = .ok (.getfield 88, 3) := by decide +kernel
theorem dX8_night_33 : decode cX8_night 33 = .ok (.aload_n 0, 1) := by decide +kernel
theorem dX8_night_34 : decode cX8_night 34 = .ok (.getfield 41, 3) := by decide +kernel
theorem dX8_night_37 : decode cX8_night 37 = .ok (.getfield 88, 3) := by decide +kernel
theorem dX8_night_40 : decode cX8_night 40 = .ok (.iload 4, 2) := by decide +kernel
theorem dX8_night_42 : decode cX8_night 42 = .ok (.iload_n 1, 1) := by decide +kernel
theorem dX8_night_43 : decode cX8_night 43 = .ok (.invokevirtual 291, 3) := by decide +kernel
theorem dX8_night_46 : decode cX8_night 46 = .ok (.iload 4, 2) := by decide +kernel
theorem dX8_night_48 : decode cX8_night 48 = .ok (.iload_n 1, 1) := by decide +kernel
theorem dX8_night_49 : decode cX8_night 49 = .ok (.invokevirtual 294, 3) := by decide +kernel
theorem dX8_night_52 : decode cX8_night 52 = .ok (.istore 5, 2) := by decide +kernel
theorem dX8_night_54 : decode cX8_night 54 = .ok (.iload 5, 2) := by decide +kernel
theorem dX8_night_56 : decode cX8_night 56 = .ok (.iload_n 3, 1) := by decide +kernel
theorem dX8_night_57 : decode cX8_night 57 = .ok (.if_icmp .le 9, 3) := by decide +kernel
theorem dX8_night_60 : decode cX8_night 60 = .ok (.iload 5, 2) := by decide +kernel
theorem dX8_night_62 : decode cX8_night 62 = .ok (.istore_n 3, 1) := by decide +kernel
theorem dX8_night_63 : decode cX8_night 63 = .ok (.iload 4, 2) := by decide +kernel
theorem dX8_night_65 : decode cX8_night 65 = .ok (.istore_n 2, 1) := by decide +kernel
theorem dX8_night_66 : decode cX8_night 66 = .ok (.iinc 4 1, 3) := by decide +kernel
theorem dX8_night_69 : decode cX8_night 69 = .ok (.goto (-50), 3) := by decide +kernel
theorem dX8_night_72 : decode cX8_night 72 = .ok (.iload_n 2, 1) := by decide +kernel
theorem dX8_night_73 : decode cX8_night 73 = .ok (.ireturn, 1) := by decide +kernel
def lX8_night_19 (F : Nat)  (t : Nat) (a1 : Int32) : Nat → mS → Int32 → Int32 → Int32 → Option Int32
  | 0, _, _, _, _ => none
  | n + 1, S0, v2, v3, v4 => if (20 : Int32) ≤ v4 then (some v2) else (bd (f_X6_robbedFirst F S0 (t + 40 + 1) v4 a1) fun q1 => bd (f_X6_loot F S0 (t + 40 + 1) q1 v4 a1) fun q2 => if q2 ≤ v3 then (lX8_night_19 F  t a1 n S0 v2 v3 (v4 + 1)) else (lX8_night_19 F  t a1 n S0 v4 q2 (v4 + 1)))
set_option maxHeartbeats 4000000 in
set_option maxRecDepth 100000 in
theorem gX8_night_19 {x : mX} {F : Nat} {t : Nat} {a1 : Int32} {S0 : mS}   {R : Int32} (ht : kd0 t = 8)  : ∀ (n : Nat) (v2 : Int32) (v3 : Int32) (v4 : Int32), lX8_night_19 F  t a1 n S0 v2 v3 v4 = some R → mG x μX8_night 5 0 0 (mQe S0 (some (.int R))) 0 0 E0 S0 19 [(0, .ref (t)), (1, .int (a1)), (2, .int (v2)), (3, .int (v3)), (4, .int (v4))] [] := by
  intro n
  induction n with
  | zero =>
    intro v2 v3 v4 h
    cases h
  | succ n ih =>
    intro v2 v3 v4 h
    unfold lX8_night_19 at h
    refine mG.iload 4 dX8_night_19 rfl ?_
    refine mG.bipush (v := 20) dX8_night_21 (by decide) ?_
    refine mG.icmp_ge 72 dX8_night_23 (by decide) (fun c4 => ?_) (fun c4 => ?_)
    · replace h := itp c4 h
      refine mG.iload_n 2 dX8_night_72 rfl ?_
      obtain rfl := Option.some.inj h
      exact mG.iret dX8_night_73 rfl ⟨rfl, rfl, rfl⟩
    · replace h := itn c4 h
      refine mG.aload_n 0 dX8_night_26 rfl ?_
      refine mG.get (v := .ref (t + 40)) dX8_night_27 mfX8_41 ht (lr8_now ht) ?_
      refine mG.get (v := .ref (t + 40 + 1)) dX8_night_30 mfX8_88 (lk8_now ht) (lr7_town (lk8_now ht)) ?_
      refine mG.aload_n 0 dX8_night_33 rfl ?_
      refine mG.get (v := .ref (t + 40)) dX8_night_34 mfX8_41 ht (lr8_now ht) ?_
      refine mG.get (v := .ref (t + 40 + 1)) dX8_night_37 mfX8_88 (lk8_now ht) (lr7_town (lk8_now ht)) ?_
      refine mG.iload 4 dX8_night_40 rfl ?_
      refine mG.iload_n 1 dX8_night_42 rfl ?_
      obtain ⟨q1, hq1, h⟩ := bdp h
      refine mG.callV0 (as := [.int (v4), .int (a1)]) (st := [.ref (t + 40 + 1)]) (S2 := S0) (r := some (.int (q1))) dX8_night_43 mvX6_robbedFirst wk55_7 rfl (lk7_town (lk8_now ht)) rfl (by decide) (Nat.le_of_ble_eq_true rfl) (c_X6_robbedFirst (lk7_town (lk8_now ht)) hq1) ?_
      refine mG.iload 4 dX8_night_46 rfl ?_
      refine mG.iload_n 1 dX8_night_48 rfl ?_
      obtain ⟨q2, hq2, h⟩ := bdp h
      refine mG.callV0 (as := [.int (q1), .int (v4), .int (a1)]) (st := []) (S2 := S0) (r := some (.int (q2))) dX8_night_49 mvX6_loot wk55_15 rfl (lk7_town (lk8_now ht)) rfl (by decide) (Nat.le_of_ble_eq_true rfl) (c_X6_loot (lk7_town (lk8_now ht)) hq2) ?_
      refine mG.istore (lv2 := [(5, .int (q2)), (0, .ref (t)), (1, .int (a1)), (2, .int (v2)), (3, .int (v3)), (4, .int (v4))]) dX8_night_52 (by decide) rfl ?_
      refine mG.iload 0 dX8_night_54 rfl ?_
      refine mG.iload_n 4 dX8_night_56 rfl ?_
      refine mG.icmp_le 66 dX8_night_57 (by decide) (fun c3 => ?_) (fun c3 => ?_)
      · replace h := itp c3 h
        refine mG.iinc 5 (u := v4 + 1) (lv2 := [(4, .int (v4 + 1)), (5, .int (q2)), (0, .ref (t)), (1, .int (a1)), (2, .int (v2)), (3, .int (v3))]) dX8_night_66 rfl rfl (by decide) rfl ?_
        refine mG.goto 19 dX8_night_69 (by decide) ?_
        refine mG.sub (lv2 := [(0, .ref (t)), (1, .int (a1)), (2, .int (v2)), (3, .int (v3)), (4, .int (v4 + 1))]) [2, 3, 4, 5, 0] rfl ?_
        exact ih  v2 v3 (v4 + 1)  h
      · replace h := itn c3 h
        refine mG.iload 0 dX8_night_60 rfl ?_
        refine mG.istore_n (lv2 := [(3, .int (q2)), (5, .int (q2)), (0, .ref (t)), (1, .int (a1)), (2, .int (v2)), (4, .int (v4))]) dX8_night_62 rfl (by decide) rfl ?_
        refine mG.iload 5 dX8_night_63 rfl ?_
        refine mG.istore_n (lv2 := [(2, .int (v4)), (3, .int (q2)), (5, .int (q2)), (0, .ref (t)), (1, .int (a1)), (4, .int (v4))]) dX8_night_65 rfl (by decide) rfl ?_
        refine mG.iinc 5 (u := v4 + 1) (lv2 := [(4, .int (v4 + 1)), (2, .int (v4)), (3, .int (q2)), (5, .int (q2)), (0, .ref (t)), (1, .int (a1))]) dX8_night_66 rfl rfl (by decide) rfl ?_
        refine mG.goto 19 dX8_night_69 (by decide) ?_
        refine mG.sub (lv2 := [(0, .ref (t)), (1, .int (a1)), (2, .int (v4)), (3, .int (q2)), (4, .int (v4 + 1))]) [4, 5, 1, 2, 0] rfl ?_
        exact ih  v4 q2 (v4 + 1)  h
def f_X8_night (F : Nat) (S0 : mS) (t : Nat) (a1 : Int32) : Option Int32 := if (f_X8_isWithin S0 a1 (1 : Int32) (7 : Int32)) = true then (lX8_night_19 F  t a1 F S0 (0 : Int32) (-1 : Int32) (0 : Int32)) else (some (-1 : Int32))
set_option maxHeartbeats 4000000 in
set_option maxRecDepth 100000 in
theorem c_X8_night {F : Nat} {S0 : mS} {t : Nat} {a1 : Int32} {R : Int32} (ht : kd0 t = 8) (h : f_X8_night F S0 t a1 = some R) : mCt μX8_night 5 0 0 E0 S0 [.ref (t), .int (a1)] (mQe S0 (some (.int R))) := by
  unfold f_X8_night at h
  refine mCt.of (by decide) (Nat.le_of_ble_eq_true rfl) ?_
  intro x
  refine mG.iload_n 1 dX8_night_0 rfl ?_
  refine mG.iconst (v := 1) dX8_night_1 rfl ?_
  refine mG.bipush (v := 7) dX8_night_2 (by decide) ?_
  refine mG.callS0 (as := [.int (a1), .int 1, .int 7]) (st := []) (S2 := S0) (r := some (.int (bI (f_X8_isWithin S0 a1 (1 : Int32) (7 : Int32))))) dX8_night_4 mbX8_isWithin wk6_19 wk6_18 rfl rfl (by decide) (Nat.le_of_ble_eq_true rfl) (c_X8_isWithin  rfl) ?_
  refine mG.ifz_ne (b := f_X8_isWithin S0 a1 (1 : Int32) (7 : Int32)) 12 dX8_night_7 (by decide) (fun c1 => ?_) (fun c1 => ?_)
  · replace h := itp c1 h
    refine mG.iconst (v := 0) dX8_night_12 rfl ?_
    refine mG.istore_n (lv2 := [(2, .int 0), (0, .ref (t)), (1, .int (a1))]) dX8_night_13 rfl (by decide) rfl ?_
    refine mG.iconst (v := (-1)) dX8_night_14 rfl ?_
    refine mG.istore_n (lv2 := [(3, .int (-1)), (2, .int 0), (0, .ref (t)), (1, .int (a1))]) dX8_night_15 rfl (by decide) rfl ?_
    refine mG.iconst (v := 0) dX8_night_16 rfl ?_
    refine mG.istore (lv2 := [(4, .int 0), (3, .int (-1)), (2, .int 0), (0, .ref (t)), (1, .int (a1))]) dX8_night_17 (by decide) rfl ?_
    refine mG.sub (lv2 := [(0, .ref (t)), (1, .int (a1)), (2, .int 0), (3, .int (-1)), (4, .int 0)]) [3, 4, 2, 1, 0] rfl ?_
    exact gX8_night_19 ht  F  (0 : Int32) (-1 : Int32) (0 : Int32)  h
  · replace h := itn c1 h
    refine mG.iconst (v := (-1)) dX8_night_10 rfl ?_
    obtain rfl := Option.some.inj h
    exact mG.iret dX8_night_11 rfl ⟨rfl, rfl, rfl⟩
theorem dX8_appointments_0 : decode cX8_appointments 0 = .ok (.iload_n 1, 1) := by decide +kernel
theorem dX8_appointments_1 : decode cX8_appointments 1 = .ok (.invokestatic 219, 3) := by decide +kernel
theorem dX8_appointments_4 : decode cX8_appointments 4 = .ok (.istore_n 3, 1) := by decide +kernel
theorem dX8_appointments_5 : decode cX8_appointments 5 = .ok (.iload_n 1, 1) := by decide +kernel
theorem dX8_appointments_6 : decode cX8_appointments 6 = .ok (.aload_n 0, 1) := by decide +kernel
theorem dX8_appointments_7 : decode cX8_appointments 7 = .ok (.getfield 41, 3) := by decide +kernel
theorem dX8_appointments_10 : decode cX8_appointments 10 = .ok (.getfield 88, 3) := by decide +kernel
theorem dX8_appointments_13 : decode cX8_appointments 13 = .ok (.invokevirtual 297, 3) := by decide +kernel
theorem dX8_appointments_16 : decode cX8_appointments 16 = .ok (.iconst (-1), 1) := by decide +kernel
theorem dX8_appointments_17 : decode cX8_appointments 17 = .ok (.ixor, 1) := by decide +kernel
theorem dX8_appointments_18 : decode cX8_appointments 18 = .ok (.iand, 1) := by decide +kernel
theorem dX8_appointments_19 : decode cX8_appointments 19 = .ok (.ifCond .ne 12, 3) := by decide +kernel
theorem dX8_appointments_22 : decode cX8_appointments 22 = .ok (.iload_n 3, 1) := by decide +kernel
theorem dX8_appointments_23 : decode cX8_appointments 23 = .ok (.iconst 1, 1) := by decide +kernel
theorem dX8_appointments_24 : decode cX8_appointments 24 = .ok (.iconst 5, 1) := by decide +kernel
theorem dX8_appointments_25 : decode cX8_appointments 25 = .ok (.invokestatic 84, 3) := by decide +kernel
theorem dX8_appointments_28 : decode cX8_appointments 28 = .ok (.ifCond .ne 6, 3) := by decide +kernel
theorem dX8_appointments_31 : decode cX8_appointments 31 = .ok (.bipush (-2), 2) := by decide +kernel
theorem dX8_appointments_33 : decode cX8_appointments 33 = .ok (.ireturn, 1) := by decide +kernel
theorem dX8_appointments_34 : decode cX8_appointments 34 = .ok (.iload_n 2, 1) := by decide +kernel
theorem dX8_appointments_35 : decode cX8_appointments 35 = .ok (.iconst (-1), 1) := by decide +kernel
theorem dX8_appointments_36 : decode cX8_appointments 36 = .ok (.if_icmp .eq 28, 3) := by decide +kernel
theorem dX8_appointments_39 : decode cX8_appointments 39 = .ok (.aload_n 0, 1) := by decide +kernel
theorem dX8_appointments_40 : decode cX8_appointments 40 = .ok (.getfield 41, 3) := by decide +kernel
theorem dX8_appointments_43 : decode cX8_appointments 43 = .ok (.getfield 88, 3) := by decide +kernel
theorem dX8_appointments_46 : decode cX8_appointments 46 = .ok (.iload_n 2, 1) := by decide +kernel
theorem dX8_appointments_47 : decode cX8_appointments 47 = .ok (.invokevirtual 195, 3) := by decide +kernel
theorem dX8_appointments_50 : decode cX8_appointments 50 = .ok (.ifCond .eq 11, 3) := by decide +kernel
theorem dX8_appointments_53 : decode cX8_appointments 53 = .ok (.iload_n 1, 1) := by decide +kernel
theorem dX8_appointments_54 : decode cX8_appointments 54 = .ok (.iload_n 2, 1) := by decide +kernel
theorem dX8_appointments_55 : decode cX8_appointments 55 = .ok (.ishr, 1) := by decide +kernel
theorem dX8_appointments_56 : decode cX8_appointments 56 = .ok (.iconst 1, 1) := by decide +kernel
theorem dX8_appointments_57 : decode cX8_appointments 57 = .ok (.iand, 1) := by decide +kernel
theorem dX8_appointments_58 : decode cX8_appointments 58 = .ok (.ifCond .ne 6, 3) := by decide +kernel
theorem dX8_appointments_61 : decode cX8_appointments 61 = .ok (.bipush (-2), 2) := by decide +kernel
theorem dX8_appointments_63 : decode cX8_appointments 63 = .ok (.ireturn, 1) := by decide +kernel
theorem dX8_appointments_64 : decode cX8_appointments 64 = .ok (.aload_n 0, 1) := by decide +kernel
theorem dX8_appointments_65 : decode cX8_appointments 65 = .ok (.getfield 65, 3) := by decide +kernel
theorem dX8_appointments_68 : decode cX8_appointments 68 = .ok (.aload_n 0, 1) := by decide +kernel
theorem dX8_appointments_69 : decode cX8_appointments 69 = .ok (.getfield 41, 3) := by decide +kernel
theorem dX8_appointments_72 : decode cX8_appointments 72 = .ok (.getfield 88, 3) := by decide +kernel
theorem dX8_appointments_75 : decode cX8_appointments 75 = .ok (.iload_n 1, 1) := by decide +kernel
theorem dX8_appointments_76 : decode cX8_appointments 76 = .ok (.invokevirtual 300, 3) := by decide +kernel
theorem dX8_appointments_79 : decode cX8_appointments 79 = .ok (.iload_n 2, 1) := by decide +kernel
theorem dX8_appointments_80 : decode cX8_appointments 80 = .ok (.iconst (-1), 1) := by decide +kernel
theorem dX8_appointments_81 : decode cX8_appointments 81 = .ok (.if_icmp .ne 13, 3) := by decide +kernel
theorem dX8_appointments_84 : decode cX8_appointments 84 = .ok (.aload_n 0, 1) := by decide +kernel
theorem dX8_appointments_85 : decode cX8_appointments 85 = .ok (.getfield 65, 3) := by decide +kernel
theorem dX8_appointments_88 : decode cX8_appointments 88 = .ok (.getfield 304, 3) := by decide +kernel
theorem dX8_appointments_91 : decode cX8_appointments 91 = .ok (.goto 12, 3) := by decide +kernel
theorem dX8_appointments_94 : decode cX8_appointments 94 = .ok (.aload_n 0, 1) := by decide +kernel
theorem dX8_appointments_95 : decode cX8_appointments 95 = .ok (.getfield 65, 3) := by decide +kernel
theorem dX8_appointments_98 : decode cX8_appointments 98 = .ok (.getfield 307, 3) := by decide +kernel
theorem dX8_appointments_101 : decode cX8_appointments 101 = .ok (.iload_n 2, 1) := by decide +kernel
theorem dX8_appointments_102 : decode cX8_appointments 102 = .ok (.iaload, 1) := by decide +kernel
theorem dX8_appointments_103 : decode cX8_appointments 103 = .ok (.ireturn, 1) := by decide +kernel
def lX8_appointments_64 (F : Nat)  (t : Nat) (a1 : Int32) (a2 : Int32) (S : mS)  : Option (mS × Int32) := bd (f_X1_plan F S (t + 370) (t + 40 + 1) a1) fun q1 => if a2 = (-1 : Int32) then (some (q1, q1.1 (t + 370) 1)) else (ck (inb a2 7) (some (q1, q1.1 (t + 370 + 1) a2.toNatClampNeg)))
set_option maxHeartbeats 4000000 in
set_option maxRecDepth 100000 in
theorem gX8_appointments_64 {x : mX} {F : Nat} {t : Nat} {a1 : Int32} {a2 : Int32}  {R : mS × Int32} (ht : kd0 t = 8)  (S : mS)   (h : lX8_appointments_64 F  t a1 a2 S  = some R) : mG x μX8_appointments 37 0 0 (mQe R.1 (some (.int R.2))) 0 0 E0 S 64 [(0, .ref (t)), (1, .int (a1)), (2, .int (a2))] [] := by
  unfold lX8_appointments_64 at h
  refine mG.aload_n 0 dX8_appointments_64 rfl ?_
  refine mG.get (v := .ref (t + 370)) dX8_appointments_65 mfX8_65 ht (lr8_diary ht) ?_
  refine mG.aload_n 0 dX8_appointments_68 rfl ?_
  refine mG.get (v := .ref (t + 40)) dX8_appointments_69 mfX8_41 ht (lr8_now ht) ?_
  refine mG.get (v := .ref (t + 40 + 1)) dX8_appointments_72 mfX8_88 (lk8_now ht) (lr7_town (lk8_now ht)) ?_
  refine mG.iload_n 1 dX8_appointments_75 rfl ?_
  obtain ⟨q1, hq1, h⟩ := bdp h
  refine mG.callV0 (as := [.ref (t + 40 + 1), .int (a1)]) (st := []) (S2 := q1) (r := none) dX8_appointments_76 mvX1_plan wk56_17 rfl (lk8_diary ht) rfl (by decide) (Nat.le_of_ble_eq_true rfl) (c_X1_plan (lk8_diary ht) (lk7_town (lk8_now ht)) hq1) ?_
  refine mG.iload_n 2 dX8_appointments_79 rfl ?_
  refine mG.iconst (v := (-1)) dX8_appointments_80 rfl ?_
  refine mG.icmp_ne 94 dX8_appointments_81 (by decide) (fun c3 => ?_) (fun c3 => ?_)
  · replace h := itn c3 h
    refine mG.aload_n 0 dX8_appointments_94 rfl ?_
    refine mG.get (v := .ref (t + 370)) dX8_appointments_95 mfX8_65 ht (lr8_diary ht) ?_
    refine mG.get (v := .ref (t + 370 + 1)) dX8_appointments_98 mfX8_307 (lk8_diary ht) (lr1_dayOf (lk8_diary ht)) ?_
    refine mG.iload_n 2 dX8_appointments_101 rfl ?_
    obtain ⟨b2, h⟩ := ckp h
    refine mG.iald dX8_appointments_102 (lk1_dayOf (lk8_diary ht)) (ll1_dayOf (lk8_diary ht)) (inbp b2) ?_
    obtain rfl := Option.some.inj h
    exact mG.iret dX8_appointments_103 rfl ⟨rfl, rfl, rfl⟩
  · replace h := itp c3 h
    refine mG.aload_n 0 dX8_appointments_84 rfl ?_
    refine mG.get (v := .ref (t + 370)) dX8_appointments_85 mfX8_65 ht (lr8_diary ht) ?_
    refine mG.get (v := .int (q1.1 (t + 370) 1)) dX8_appointments_88 mfX8_304 (lk8_diary ht) rfl ?_
    refine mG.goto 103 dX8_appointments_91 (by decide) ?_
    obtain rfl := Option.some.inj h
    exact mG.iret dX8_appointments_103 rfl ⟨rfl, rfl, rfl⟩
def f_X8_appointments (F : Nat) (S : mS) (t : Nat) (a1 : Int32) (a2 : Int32) : Option (mS × Int32) := if (a1 &&& ((f_X6_living S (t + 40 + 1)) ^^^ (-1 : Int32))) = 0 then (if (f_X8_isWithin S (f_J6_bitCount_0f7a4 S a1) (1 : Int32) (5 : Int32)) = true then (if a2 = (-1 : Int32) then (lX8_appointments_64 F  t a1 a2 S ) else (if (f_X6_told S (t + 40 + 1) a2) = true then (if ((a1 >>> (a2 &&& 31)) &&& (1 : Int32)) = 0 then (some (S, (-2 : Int32))) else (lX8_appointments_64 F  t a1 a2 S )) else (some (S, (-2 : Int32))))) else (some (S, (-2 : Int32)))) else (some (S, (-2 : Int32)))
set_option maxHeartbeats 4000000 in
set_option maxRecDepth 100000 in
theorem c_X8_appointments {F : Nat} {S : mS} {t : Nat} {a1 : Int32} {a2 : Int32} {R : mS × Int32} (ht : kd0 t = 8) (h : f_X8_appointments F S t a1 a2 = some R) : mCt μX8_appointments 37 0 0 E0 S [.ref (t), .int (a1), .int (a2)] (mQe R.1 (some (.int R.2))) := by
  unfold f_X8_appointments at h
  refine mCt.of (by decide) (Nat.le_of_ble_eq_true rfl) ?_
  intro x
  refine mG.iload_n 1 dX8_appointments_0 rfl ?_
  refine mG.callS0 (as := [.int (a1)]) (st := []) (S2 := S) (r := some (.int (f_J6_bitCount_0f7a4 S a1))) dX8_appointments_1 mbJ6_bitCount_0f7a4 wk30_6 wk45_13 rfl rfl (by decide) (Nat.le_of_ble_eq_true rfl) (c_J6_bitCount_0f7a4  rfl) ?_
  refine mG.istore_n (lv2 := [(3, .int (f_J6_bitCount_0f7a4 S a1)), (0, .ref (t)), (1, .int (a1)), (2, .int (a2))]) dX8_appointments_4 rfl (by decide) rfl ?_
  refine mG.iload_n 2 dX8_appointments_5 rfl ?_
  refine mG.aload_n 1 dX8_appointments_6 rfl ?_
  refine mG.get (v := .ref (t + 40)) dX8_appointments_7 mfX8_41 ht (lr8_now ht) ?_
  refine mG.get (v := .ref (t + 40 + 1)) dX8_appointments_10 mfX8_88 (lk8_now ht) (lr7_town (lk8_now ht)) ?_
  refine mG.callV0 (as := []) (st := [.int (a1)]) (S2 := S) (r := some (.int (f_X6_living S (t + 40 + 1)))) dX8_appointments_13 mvX6_living wk56_16 rfl (lk7_town (lk8_now ht)) rfl (by decide) (Nat.le_of_ble_eq_true rfl) (c_X6_living (lk7_town (lk8_now ht)) rfl) ?_
  refine mG.iconst (v := (-1)) dX8_appointments_16 rfl ?_
  refine mG.ixor dX8_appointments_17 ?_
  refine mG.iand dX8_appointments_18 ?_
  refine mG.if_ne 31 dX8_appointments_19 (by decide) (fun c5 => ?_) (fun c5 => ?_)
  · replace h := itn c5 h
    refine mG.bipush (v := (-2)) dX8_appointments_31 (by decide) ?_
    obtain rfl := Option.some.inj h
    exact mG.iret dX8_appointments_33 rfl ⟨rfl, rfl, rfl⟩
  · replace h := itp c5 h
    refine mG.iload_n 0 dX8_appointments_22 rfl ?_
    refine mG.iconst (v := 1) dX8_appointments_23 rfl ?_
    refine mG.iconst (v := 5) dX8_appointments_24 rfl ?_
    refine mG.callS0 (as := [.int (f_J6_bitCount_0f7a4 S a1), .int 1, .int 5]) (st := []) (S2 := S) (r := some (.int (bI (f_X8_isWithin S (f_J6_bitCount_0f7a4 S a1) (1 : Int32) (5 : Int32))))) dX8_appointments_25 mbX8_isWithin wk6_19 wk6_18 rfl rfl (by decide) (Nat.le_of_ble_eq_true rfl) (c_X8_isWithin  rfl) ?_
    refine mG.ifz_ne (b := f_X8_isWithin S (f_J6_bitCount_0f7a4 S a1) (1 : Int32) (5 : Int32)) 34 dX8_appointments_28 (by decide) (fun c4 => ?_) (fun c4 => ?_)
    · replace h := itp c4 h
      refine mG.iload_n 3 dX8_appointments_34 rfl ?_
      refine mG.iconst (v := (-1)) dX8_appointments_35 rfl ?_
      refine mG.icmp_eq 64 dX8_appointments_36 (by decide) (fun c3 => ?_) (fun c3 => ?_)
      · replace h := itp c3 h
        refine mG.sub (lv2 := [(0, .ref (t)), (1, .int (a1)), (2, .int (a2))]) [1, 2, 3] rfl ?_
        exact gX8_appointments_64 ht   S   h
      · replace h := itn c3 h
        refine mG.aload_n 1 dX8_appointments_39 rfl ?_
        refine mG.get (v := .ref (t + 40)) dX8_appointments_40 mfX8_41 ht (lr8_now ht) ?_
        refine mG.get (v := .ref (t + 40 + 1)) dX8_appointments_43 mfX8_88 (lk8_now ht) (lr7_town (lk8_now ht)) ?_
        refine mG.iload_n 3 dX8_appointments_46 rfl ?_
        refine mG.callV0 (as := [.int (a2)]) (st := []) (S2 := S) (r := some (.int (bI (f_X6_told S (t + 40 + 1) a2)))) dX8_appointments_47 mvX6_told wk44_19 rfl (lk7_town (lk8_now ht)) rfl (by decide) (Nat.le_of_ble_eq_true rfl) (c_X6_told (lk7_town (lk8_now ht)) rfl) ?_
        refine mG.ifz_eq (b := f_X6_told S (t + 40 + 1) a2) 61 dX8_appointments_50 (by decide) (fun c2 => ?_) (fun c2 => ?_)
        · replace h := itn c2 h
          refine mG.bipush (v := (-2)) dX8_appointments_61 (by decide) ?_
          obtain rfl := Option.some.inj h
          exact mG.iret dX8_appointments_63 rfl ⟨rfl, rfl, rfl⟩
        · replace h := itp c2 h
          refine mG.iload_n 2 dX8_appointments_53 rfl ?_
          refine mG.iload_n 3 dX8_appointments_54 rfl ?_
          refine mG.ishr dX8_appointments_55 ?_
          refine mG.iconst (v := 1) dX8_appointments_56 rfl ?_
          refine mG.iand dX8_appointments_57 ?_
          refine mG.if_ne 64 dX8_appointments_58 (by decide) (fun c1 => ?_) (fun c1 => ?_)
          · replace h := itn c1 h
            refine mG.sub (lv2 := [(0, .ref (t)), (1, .int (a1)), (2, .int (a2))]) [1, 2, 3] rfl ?_
            exact gX8_appointments_64 ht   S   h
          · replace h := itp c1 h
            refine mG.bipush (v := (-2)) dX8_appointments_61 (by decide) ?_
            obtain rfl := Option.some.inj h
            exact mG.iret dX8_appointments_63 rfl ⟨rfl, rfl, rfl⟩
    · replace h := itn c4 h
      refine mG.bipush (v := (-2)) dX8_appointments_31 (by decide) ?_
      obtain rfl := Option.some.inj h
      exact mG.iret dX8_appointments_33 rfl ⟨rfl, rfl, rfl⟩
theorem dX8_rounds_0 : decode cX8_rounds 0 = .ok (.aload_n 0, 1) := by decide +kernel
theorem dX8_rounds_1 : decode cX8_rounds 1 = .ok (.getfield 41, 3) := by decide +kernel
theorem dX8_rounds_4 : decode cX8_rounds 4 = .ok (.getfield 88, 3) := by decide +kernel
theorem dX8_rounds_7 : decode cX8_rounds 7 = .ok (.invokevirtual 297, 3) := by decide +kernel
theorem dX8_rounds_10 : decode cX8_rounds 10 = .ok (.ifCond .ne 5, 3) := by decide +kernel
theorem dX8_rounds_13 : decode cX8_rounds 13 = .ok (.iconst 0, 1) := by decide +kernel
theorem dX8_rounds_14 : decode cX8_rounds 14 = .ok (.ireturn, 1) := by decide +kernel
theorem dX8_rounds_15 : decode cX8_rounds 15 = .ok (.iconst 0, 1) := by decide +kernel
theorem dX8_rounds_16 : decode cX8_rounds 16 = .ok (.istore_n 1, 1) := by decide +kernel
theorem dX8_rounds_17 : decode cX8_rounds 17 = .ok (.iload_n 1, 1) := by decide +kernel
theorem dX8_rounds_18 : decode cX8_rounds 18 = .ok (.bipush 20, 2) := by decide +kernel
theorem dX8_rounds_20 : decode cX8_rounds 20 = .ok (.if_icmp .ge 29, 3) := by decide +kernel
theorem dX8_rounds_23 : decode cX8_rounds 23 = .ok (.aload_n 0, 1) := by decide +kernel
theorem dX8_rounds_24 : decode cX8_rounds 24 = .ok (.getfield 41, 3) := by decide +kernel
theorem dX8_rounds_27 : decode cX8_rounds 27 = .ok (.getfield 88, 3) := by decide +kernel
theorem dX8_rounds_30 : decode cX8_rounds 30 = .ok (.iconst 1, 1) := by decide +kernel
theorem dX8_rounds_31 : decode cX8_rounds 31 = .ok (.iload_n 1, 1) := by decide +kernel
theorem dX8_rounds_32 : decode cX8_rounds 32 = .ok (.ishl, 1) := by decide +kernel
theorem dX8_rounds_33 : decode cX8_rounds 33 = .ok (.invokevirtual 310, 3) := by decide +kernel
theorem dX8_rounds_36 : decode cX8_rounds 36 = .ok (.ifCond .eq 7, 3) := by decide +kernel
theorem dX8_rounds_39 : decode cX8_rounds 39 = .ok (.iconst 1, 1) := by decide +kernel
theorem dX8_rounds_40 : decode cX8_rounds 40 = .ok (.iload_n 1, 1) := by decide +kernel
theorem dX8_rounds_41 : decode cX8_rounds 41 = .ok (.ishl, 1) := by decide +kernel
theorem dX8_rounds_42 : decode cX8_rounds 42 = .ok (.ireturn, 1) := by decide +kernel
theorem dX8_rounds_43 : decode cX8_rounds 43 = .ok (.iinc 1 1, 3) := by decide +kernel
theorem dX8_rounds_46 : decode cX8_rounds 46 = .ok (.goto (-29), 3) := by decide +kernel
theorem dX8_rounds_49 : decode cX8_rounds 49 = .ok (.iconst 1, 1) := by decide +kernel
theorem dX8_rounds_50 : decode cX8_rounds 50 = .ok (.istore_n 1, 1) := by decide +kernel
theorem dX8_rounds_51 : decode cX8_rounds 51 = .ok (.iload_n 1, 1) := by decide +kernel
theorem dX8_rounds_52 : decode cX8_rounds 52 = .ok (.bipush 20, 2) := by decide +kernel
theorem dX8_rounds_54 : decode cX8_rounds 54 = .ok (.if_icmp .ge 50, 3) := by decide +kernel
theorem dX8_rounds_57 : decode cX8_rounds 57 = .ok (.iconst 0, 1) := by decide +kernel
theorem dX8_rounds_58 : decode cX8_rounds 58 = .ok (.istore_n 2, 1) := by decide +kernel
theorem dX8_rounds_59 : decode cX8_rounds 59 = .ok (.iload_n 2, 1) := by decide +kernel
theorem dX8_rounds_60 : decode cX8_rounds 60 = .ok (.iload_n 1, 1) := by decide +kernel
theorem dX8_rounds_61 : decode cX8_rounds 61 = .ok (.if_icmp .ge 37, 3) := by decide +kernel
theorem dX8_rounds_64 : decode cX8_rounds 64 = .ok (.aload_n 0, 1) := by decide +kernel
theorem dX8_rounds_65 : decode cX8_rounds 65 = .ok (.getfield 41, 3) := by decide +kernel
theorem dX8_rounds_68 : decode cX8_rounds 68 = .ok (.getfield 88, 3) := by decide +kernel
theorem dX8_rounds_71 : decode cX8_rounds 71 = .ok (.iconst 1, 1) := by decide +kernel
theorem dX8_rounds_72 : decode cX8_rounds 72 = .ok (.iload_n 1, 1) := by decide +kernel
theorem dX8_rounds_73 : decode cX8_rounds 73 = .ok (.ishl, 1) := by decide +kernel
theorem dX8_rounds_74 : decode cX8_rounds 74 = .ok (.iconst 1, 1) := by decide +kernel
theorem dX8_rounds_75 : decode cX8_rounds 75 = .ok (.iload_n 2, 1) := by decide +kernel
theorem dX8_rounds_76 : decode cX8_rounds 76 = .ok (.ishl, 1) := by decide +kernel
theorem dX8_rounds_77 : decode cX8_rounds 77 = .ok (.ior, 1) := by decide +kernel
theorem dX8_rounds_78 : decode cX8_rounds 78 = .ok (.invokevirtual 310, 3) := by decide +kernel
theorem dX8_rounds_81 : decode cX8_rounds 81 = .ok (.ifCond .eq 11, 3) := by decide +kernel
theorem dX8_rounds_84 : decode cX8_rounds 84 = .ok (.iconst 1, 1) := by decide +kernel
theorem dX8_rounds_85 : decode cX8_rounds 85 = .ok (.iload_n 1, 1) := by decide +kernel
theorem dX8_rounds_86 : decode cX8_rounds 86 = .ok (.ishl, 1) := by decide +kernel
theorem dX8_rounds_87 : decode cX8_rounds 87 = .ok (.iconst 1, 1) := by decide +kernel
theorem dX8_rounds_88 : decode cX8_rounds 88 = .ok (.iload_n 2, 1) := by decide +kernel
theorem dX8_rounds_89 : decode cX8_rounds 89 = .ok (.ishl, 1) := by decide +kernel
theorem dX8_rounds_90 : decode cX8_rounds 90 = .ok (.ior, 1) := by decide +kernel
theorem dX8_rounds_91 : decode cX8_rounds 91 = .ok (.ireturn, 1) := by decide +kernel
theorem dX8_rounds_92 : decode cX8_rounds 92 = .ok (.iinc 2 1, 3) := by decide +kernel
theorem dX8_rounds_95 : decode cX8_rounds 95 = .ok (.goto (-36), 3) := by decide +kernel
theorem dX8_rounds_98 : decode cX8_rounds 98 = .ok (.iinc 1 1, 3) := by decide +kernel
theorem dX8_rounds_101 : decode cX8_rounds 101 = .ok (.goto (-50), 3) := by decide +kernel
theorem dX8_rounds_104 : decode cX8_rounds 104 = .ok (.iconst 0, 1) := by decide +kernel
theorem dX8_rounds_105 : decode cX8_rounds 105 = .ok (.ireturn, 1) := by decide +kernel
def lX8_rounds_17 (F : Nat) (K51 : Int32 → Option Int32) (t : Nat) : Nat → mS → Int32 → Option Int32
  | 0, _, _ => none
  | n + 1, S0, v1 => if (20 : Int32) ≤ v1 then (K51 (1 : Int32)) else (bd (f_X6_allOpenOnce F S0 (t + 40 + 1) ((1 : Int32) <<< (v1 &&& 31))) fun q1 => if q1 = true then (some ((1 : Int32) <<< (v1 &&& 31))) else (lX8_rounds_17 F K51 t n S0 (v1 + 1)))
set_option maxHeartbeats 4000000 in
set_option maxRecDepth 100000 in
theorem gX8_rounds_17 {x : mX} {F : Nat} {t : Nat} {S0 : mS}  {K51 : Int32 → Option Int32} {R : Int32} (ht : kd0 t = 8) (hK51 : ∀ (v1 : Int32) , K51 v1 = some R → mG x μX8_rounds 4 0 0 (mQe S0 (some (.int R))) 0 0 E0 S0 51 [(0, .ref (t)), (1, .int (v1))] []) : ∀ (n : Nat) (v1 : Int32), lX8_rounds_17 F K51 t n S0 v1 = some R → mG x μX8_rounds 4 0 0 (mQe S0 (some (.int R))) 0 0 E0 S0 17 [(0, .ref (t)), (1, .int (v1))] [] := by
  intro n
  induction n with
  | zero =>
    intro v1 h
    cases h
  | succ n ih =>
    intro v1 h
    unfold lX8_rounds_17 at h
    refine mG.iload_n 1 dX8_rounds_17 rfl ?_
    refine mG.bipush (v := 20) dX8_rounds_18 (by decide) ?_
    refine mG.icmp_ge 49 dX8_rounds_20 (by decide) (fun c3 => ?_) (fun c3 => ?_)
    · replace h := itp c3 h
      refine mG.iconst (v := 1) dX8_rounds_49 rfl ?_
      refine mG.istore_n (lv2 := [(1, .int 1), (0, .ref (t))]) dX8_rounds_50 rfl (by decide) rfl ?_
      refine mG.sub (lv2 := [(0, .ref (t)), (1, .int 1)]) [1, 0] rfl ?_
      exact hK51  (1 : Int32)  h
    · replace h := itn c3 h
      refine mG.aload_n 0 dX8_rounds_23 rfl ?_
      refine mG.get (v := .ref (t + 40)) dX8_rounds_24 mfX8_41 ht (lr8_now ht) ?_
      refine mG.get (v := .ref (t + 40 + 1)) dX8_rounds_27 mfX8_88 (lk8_now ht) (lr7_town (lk8_now ht)) ?_
      refine mG.iconst (v := 1) dX8_rounds_30 rfl ?_
      refine mG.iload_n 1 dX8_rounds_31 rfl ?_
      refine mG.ishl dX8_rounds_32 ?_
      obtain ⟨q1, hq1, h⟩ := bdp h
      refine mG.callV0 (as := [.int ((1 : Int32) <<< (v1 &&& 31))]) (st := []) (S2 := S0) (r := some (.int (bI (q1)))) dX8_rounds_33 mvX6_allOpenOnce wk58_0 rfl (lk7_town (lk8_now ht)) rfl (by decide) (Nat.le_of_ble_eq_true rfl) (c_X6_allOpenOnce (lk7_town (lk8_now ht)) hq1) ?_
      refine mG.ifz_eq (b := q1) 43 dX8_rounds_36 (by decide) (fun c2 => ?_) (fun c2 => ?_)
      · replace h := itn c2 h
        refine mG.iinc 1 (u := v1 + 1) (lv2 := [(1, .int (v1 + 1)), (0, .ref (t))]) dX8_rounds_43 rfl rfl (by decide) rfl ?_
        refine mG.goto 17 dX8_rounds_46 (by decide) ?_
        refine mG.sub (lv2 := [(0, .ref (t)), (1, .int (v1 + 1))]) [1, 0] rfl ?_
        exact ih  (v1 + 1)  h
      · replace h := itp c2 h
        refine mG.iconst (v := 1) dX8_rounds_39 rfl ?_
        refine mG.iload_n 1 dX8_rounds_40 rfl ?_
        refine mG.ishl dX8_rounds_41 ?_
        obtain rfl := Option.some.inj h
        exact mG.iret dX8_rounds_42 rfl ⟨rfl, rfl, rfl⟩
def lX8_rounds_59 (F : Nat) (K51 : Int32 → Option Int32) (t : Nat) : Nat → mS → Int32 → Int32 → Option Int32
  | 0, _, _, _ => none
  | n + 1, S0, v1, v2 => if v1 ≤ v2 then (K51 (v1 + 1)) else (bd (f_X6_allOpenOnce F S0 (t + 40 + 1) (((1 : Int32) <<< (v1 &&& 31)) ||| ((1 : Int32) <<< (v2 &&& 31)))) fun q1 => if q1 = true then (some (((1 : Int32) <<< (v1 &&& 31)) ||| ((1 : Int32) <<< (v2 &&& 31)))) else (lX8_rounds_59 F K51 t n S0 v1 (v2 + 1)))
set_option maxHeartbeats 4000000 in
set_option maxRecDepth 100000 in
theorem gX8_rounds_59 {x : mX} {F : Nat} {t : Nat} {S0 : mS}  {K51 : Int32 → Option Int32} {R : Int32} (ht : kd0 t = 8) (hK51 : ∀ (v1 : Int32) , K51 v1 = some R → mG x μX8_rounds 4 0 0 (mQe S0 (some (.int R))) 0 0 E0 S0 51 [(0, .ref (t)), (1, .int (v1))] []) : ∀ (n : Nat) (v1 : Int32) (v2 : Int32), lX8_rounds_59 F K51 t n S0 v1 v2 = some R → mG x μX8_rounds 4 0 0 (mQe S0 (some (.int R))) 0 0 E0 S0 59 [(0, .ref (t)), (1, .int (v1)), (2, .int (v2))] [] := by
  intro n
  induction n with
  | zero =>
    intro v1 v2 h
    cases h
  | succ n ih =>
    intro v1 v2 h
    unfold lX8_rounds_59 at h
    refine mG.iload_n 2 dX8_rounds_59 rfl ?_
    refine mG.iload_n 1 dX8_rounds_60 rfl ?_
    refine mG.icmp_ge 98 dX8_rounds_61 (by decide) (fun c3 => ?_) (fun c3 => ?_)
    · replace h := itp c3 h
      refine mG.iinc 1 (u := v1 + 1) (lv2 := [(1, .int (v1 + 1)), (0, .ref (t)), (2, .int (v2))]) dX8_rounds_98 rfl rfl (by decide) rfl ?_
      refine mG.goto 51 dX8_rounds_101 (by decide) ?_
      refine mG.sub (lv2 := [(0, .ref (t)), (1, .int (v1 + 1))]) [1, 0] rfl ?_
      exact hK51  (v1 + 1)  h
    · replace h := itn c3 h
      refine mG.aload_n 0 dX8_rounds_64 rfl ?_
      refine mG.get (v := .ref (t + 40)) dX8_rounds_65 mfX8_41 ht (lr8_now ht) ?_
      refine mG.get (v := .ref (t + 40 + 1)) dX8_rounds_68 mfX8_88 (lk8_now ht) (lr7_town (lk8_now ht)) ?_
      refine mG.iconst (v := 1) dX8_rounds_71 rfl ?_
      refine mG.iload_n 1 dX8_rounds_72 rfl ?_
      refine mG.ishl dX8_rounds_73 ?_
      refine mG.iconst (v := 1) dX8_rounds_74 rfl ?_
      refine mG.iload_n 2 dX8_rounds_75 rfl ?_
      refine mG.ishl dX8_rounds_76 ?_
      refine mG.ior dX8_rounds_77 ?_
      obtain ⟨q1, hq1, h⟩ := bdp h
      refine mG.callV0 (as := [.int (((1 : Int32) <<< (v1 &&& 31)) ||| ((1 : Int32) <<< (v2 &&& 31)))]) (st := []) (S2 := S0) (r := some (.int (bI (q1)))) dX8_rounds_78 mvX6_allOpenOnce wk58_0 rfl (lk7_town (lk8_now ht)) rfl (by decide) (Nat.le_of_ble_eq_true rfl) (c_X6_allOpenOnce (lk7_town (lk8_now ht)) hq1) ?_
      refine mG.ifz_eq (b := q1) 92 dX8_rounds_81 (by decide) (fun c2 => ?_) (fun c2 => ?_)
      · replace h := itn c2 h
        refine mG.iinc 2 (u := v2 + 1) (lv2 := [(2, .int (v2 + 1)), (0, .ref (t)), (1, .int (v1))]) dX8_rounds_92 rfl rfl (by decide) rfl ?_
        refine mG.goto 59 dX8_rounds_95 (by decide) ?_
        refine mG.sub (lv2 := [(0, .ref (t)), (1, .int (v1)), (2, .int (v2 + 1))]) [1, 2, 0] rfl ?_
        exact ih  v1 (v2 + 1)  h
      · replace h := itp c2 h
        refine mG.iconst (v := 1) dX8_rounds_84 rfl ?_
        refine mG.iload_n 1 dX8_rounds_85 rfl ?_
        refine mG.ishl dX8_rounds_86 ?_
        refine mG.iconst (v := 1) dX8_rounds_87 rfl ?_
        refine mG.iload_n 2 dX8_rounds_88 rfl ?_
        refine mG.ishl dX8_rounds_89 ?_
        refine mG.ior dX8_rounds_90 ?_
        obtain rfl := Option.some.inj h
        exact mG.iret dX8_rounds_91 rfl ⟨rfl, rfl, rfl⟩
def lX8_rounds_51 (F : Nat)  (t : Nat) : Nat → mS → Int32 → Option Int32
  | 0, _, _ => none
  | n + 1, S0, v1 => if (20 : Int32) ≤ v1 then (some (0 : Int32)) else (lX8_rounds_59 F (fun (v1 : Int32) => lX8_rounds_51 F  t n S0 v1) t F S0 v1 (0 : Int32))
set_option maxHeartbeats 4000000 in
set_option maxRecDepth 100000 in
theorem gX8_rounds_51 {x : mX} {F : Nat} {t : Nat} {S0 : mS}   {R : Int32} (ht : kd0 t = 8)  : ∀ (n : Nat) (v1 : Int32), lX8_rounds_51 F  t n S0 v1 = some R → mG x μX8_rounds 4 0 0 (mQe S0 (some (.int R))) 0 0 E0 S0 51 [(0, .ref (t)), (1, .int (v1))] [] := by
  intro n
  induction n with
  | zero =>
    intro v1 h
    cases h
  | succ n ih =>
    intro v1 h
    unfold lX8_rounds_51 at h
    refine mG.iload_n 1 dX8_rounds_51 rfl ?_
    refine mG.bipush (v := 20) dX8_rounds_52 (by decide) ?_
    refine mG.icmp_ge 104 dX8_rounds_54 (by decide) (fun c1 => ?_) (fun c1 => ?_)
    · replace h := itp c1 h
      refine mG.iconst (v := 0) dX8_rounds_104 rfl ?_
      obtain rfl := Option.some.inj h
      exact mG.iret dX8_rounds_105 rfl ⟨rfl, rfl, rfl⟩
    · replace h := itn c1 h
      refine mG.iconst (v := 0) dX8_rounds_57 rfl ?_
      refine mG.istore_n (lv2 := [(2, .int 0), (0, .ref (t)), (1, .int (v1))]) dX8_rounds_58 rfl (by decide) rfl ?_
      refine mG.sub (lv2 := [(0, .ref (t)), (1, .int (v1)), (2, .int 0)]) [1, 2, 0] rfl ?_
      exact gX8_rounds_59 ht (fun v1 h => by exact ih  v1  h) F  v1 (0 : Int32)  h
def f_X8_rounds (F : Nat) (S0 : mS) (t : Nat) : Option Int32 := if (f_X6_living S0 (t + 40 + 1)) = 0 then (some (0 : Int32)) else (lX8_rounds_17 F (fun (v1 : Int32) => lX8_rounds_51 F  t F S0 v1) t F S0 (0 : Int32))
set_option maxHeartbeats 4000000 in
set_option maxRecDepth 100000 in
theorem c_X8_rounds {F : Nat} {S0 : mS} {t : Nat} {R : Int32} (ht : kd0 t = 8) (h : f_X8_rounds F S0 t = some R) : mCt μX8_rounds 4 0 0 E0 S0 [.ref (t)] (mQe S0 (some (.int R))) := by
  unfold f_X8_rounds at h
  refine mCt.of (by decide) (Nat.le_of_ble_eq_true rfl) ?_
  intro x
  refine mG.aload_n 0 dX8_rounds_0 rfl ?_
  refine mG.get (v := .ref (t + 40)) dX8_rounds_1 mfX8_41 ht (lr8_now ht) ?_
  refine mG.get (v := .ref (t + 40 + 1)) dX8_rounds_4 mfX8_88 (lk8_now ht) (lr7_town (lk8_now ht)) ?_
  refine mG.callV0 (as := []) (st := []) (S2 := S0) (r := some (.int (f_X6_living S0 (t + 40 + 1)))) dX8_rounds_7 mvX6_living wk56_16 rfl (lk7_town (lk8_now ht)) rfl (by decide) (Nat.le_of_ble_eq_true rfl) (c_X6_living (lk7_town (lk8_now ht)) rfl) ?_
  refine mG.if_ne 15 dX8_rounds_10 (by decide) (fun c1 => ?_) (fun c1 => ?_)
  · replace h := itn c1 h
    refine mG.iconst (v := 0) dX8_rounds_15 rfl ?_
    refine mG.istore_n (lv2 := [(1, .int 0), (0, .ref (t))]) dX8_rounds_16 rfl (by decide) rfl ?_
    refine mG.sub (lv2 := [(0, .ref (t)), (1, .int 0)]) [1, 0] rfl ?_
    exact gX8_rounds_17 ht (fun v1 h => by exact gX8_rounds_51 ht  F  v1  h) F  (0 : Int32)  h
  · replace h := itp c1 h
    refine mG.iconst (v := 0) dX8_rounds_13 rfl ?_
    obtain rfl := Option.some.inj h
    exact mG.iret dX8_rounds_14 rfl ⟨rfl, rfl, rfl⟩
theorem dX8_weddings_0 : decode cX8_weddings 0 = .ok (.iload_n 1, 1) := by decide +kernel
theorem dX8_weddings_1 : decode cX8_weddings 1 = .ok (.iconst (-1), 1) := by decide +kernel
theorem dX8_weddings_2 : decode cX8_weddings 2 = .ok (.if_icmp .eq 20, 3) := by decide +kernel
theorem dX8_weddings_5 : decode cX8_weddings 5 = .ok (.aload_n 0, 1) := by decide +kernel
theorem dX8_weddings_6 : decode cX8_weddings 6 = .ok (.getfield 41, 3) := by decide +kernel
theorem dX8_weddings_9 : decode cX8_weddings 9 = .ok (.getfield 88, 3) := by decide +kernel
theorem dX8_weddings_12 : decode cX8_weddings 12 = .ok (.iload_n 1, 1) := by decide +kernel
theorem dX8_weddings_13 : decode cX8_weddings 13 = .ok (.invokevirtual 195, 3) := by decide +kernel
theorem dX8_weddings_16 : decode cX8_weddings 16 = .ok (.ifCond .ne 6, 3) := by decide +kernel
theorem dX8_weddings_19 : decode cX8_weddings 19 = .ok (.bipush (-2), 2) := by decide +kernel
theorem dX8_weddings_21 : decode cX8_weddings 21 = .ok (.ireturn, 1) := by decide +kernel
theorem dX8_weddings_22 : decode cX8_weddings 22 = .ok (.aload_n 0, 1) := by decide +kernel
theorem dX8_weddings_23 : decode cX8_weddings 23 = .ok (.getfield 72, 3) := by decide +kernel
theorem dX8_weddings_26 : decode cX8_weddings 26 = .ok (.aload_n 0, 1) := by decide +kernel
theorem dX8_weddings_27 : decode cX8_weddings 27 = .ok (.getfield 41, 3) := by decide +kernel
theorem dX8_weddings_30 : decode cX8_weddings 30 = .ok (.getfield 88, 3) := by decide +kernel
theorem dX8_weddings_33 : decode cX8_weddings 33 = .ok (.invokevirtual 313, 3) := by decide +kernel
theorem dX8_weddings_36 : decode cX8_weddings 36 = .ok (.iload_n 1, 1) := by decide +kernel
theorem dX8_weddings_37 : decode cX8_weddings 37 = .ok (.iconst (-1), 1) := by decide +kernel
theorem dX8_weddings_38 : decode cX8_weddings 38 = .ok (.if_icmp .ne 13, 3) := by decide +kernel
theorem dX8_weddings_41 : decode cX8_weddings 41 = .ok (.aload_n 0, 1) := by decide +kernel
theorem dX8_weddings_42 : decode cX8_weddings 42 = .ok (.getfield 72, 3) := by decide +kernel
theorem dX8_weddings_45 : decode cX8_weddings 45 = .ok (.getfield 317, 3) := by decide +kernel
theorem dX8_weddings_48 : decode cX8_weddings 48 = .ok (.goto 12, 3) := by decide +kernel
theorem dX8_weddings_51 : decode cX8_weddings 51 = .ok (.aload_n 0, 1) := by decide +kernel
theorem dX8_weddings_52 : decode cX8_weddings 52 = .ok (.getfield 72, 3) := by decide +kernel
theorem dX8_weddings_55 : decode cX8_weddings 55 = .ok (.getfield 320, 3) := by decide +kernel
theorem dX8_weddings_58 : decode cX8_weddings 58 = .ok (.iload_n 1, 1) := by decide +kernel
theorem dX8_weddings_59 : decode cX8_weddings 59 = .ok (.iaload, 1) := by decide +kernel
theorem dX8_weddings_60 : decode cX8_weddings 60 = .ok (.ireturn, 1) := by decide +kernel
def lX8_weddings_22 (F : Nat)  (t : Nat) (a1 : Int32) (S : mS)  : Option (mS × Int32) := bd (f_X0_choose F S (t + 372) (t + 40 + 1)) fun q1 => if a1 = (-1 : Int32) then (some (q1, q1.1 (t + 372) 0)) else (ck (inb a1 7) (some (q1, q1.1 (t + 372 + 1) a1.toNatClampNeg)))
set_option maxHeartbeats 4000000 in
set_option maxRecDepth 100000 in
theorem gX8_weddings_22 {x : mX} {F : Nat} {t : Nat} {a1 : Int32}  {R : mS × Int32} (ht : kd0 t = 8)  (S : mS)   (h : lX8_weddings_22 F  t a1 S  = some R) : mG x μX8_weddings 21 0 0 (mQe R.1 (some (.int R.2))) 0 0 E0 S 22 [(0, .ref (t)), (1, .int (a1))] [] := by
  unfold lX8_weddings_22 at h
  refine mG.aload_n 0 dX8_weddings_22 rfl ?_
  refine mG.get (v := .ref (t + 372)) dX8_weddings_23 mfX8_72 ht (lr8_couples ht) ?_
  refine mG.aload_n 0 dX8_weddings_26 rfl ?_
  refine mG.get (v := .ref (t + 40)) dX8_weddings_27 mfX8_41 ht (lr8_now ht) ?_
  refine mG.get (v := .ref (t + 40 + 1)) dX8_weddings_30 mfX8_88 (lk8_now ht) (lr7_town (lk8_now ht)) ?_
  obtain ⟨q1, hq1, h⟩ := bdp h
  refine mG.callV0 (as := [.ref (t + 40 + 1)]) (st := []) (S2 := q1) (r := none) dX8_weddings_33 mvX0_choose wk58_18 rfl (lk8_couples ht) rfl (by decide) (Nat.le_of_ble_eq_true rfl) (c_X0_choose (lk8_couples ht) (lk7_town (lk8_now ht)) hq1) ?_
  refine mG.iload_n 1 dX8_weddings_36 rfl ?_
  refine mG.iconst (v := (-1)) dX8_weddings_37 rfl ?_
  refine mG.icmp_ne 51 dX8_weddings_38 (by decide) (fun c3 => ?_) (fun c3 => ?_)
  · replace h := itn c3 h
    refine mG.aload_n 0 dX8_weddings_51 rfl ?_
    refine mG.get (v := .ref (t + 372)) dX8_weddings_52 mfX8_72 ht (lr8_couples ht) ?_
    refine mG.get (v := .ref (t + 372 + 1)) dX8_weddings_55 mfX8_320 (lk8_couples ht) (lr0_best (lk8_couples ht)) ?_
    refine mG.iload_n 1 dX8_weddings_58 rfl ?_
    obtain ⟨b2, h⟩ := ckp h
    refine mG.iald dX8_weddings_59 (lk0_best (lk8_couples ht)) (ll0_best (lk8_couples ht)) (inbp b2) ?_
    obtain rfl := Option.some.inj h
    exact mG.iret dX8_weddings_60 rfl ⟨rfl, rfl, rfl⟩
  · replace h := itp c3 h
    refine mG.aload_n 0 dX8_weddings_41 rfl ?_
    refine mG.get (v := .ref (t + 372)) dX8_weddings_42 mfX8_72 ht (lr8_couples ht) ?_
    refine mG.get (v := .int (q1.1 (t + 372) 0)) dX8_weddings_45 mfX8_317 (lk8_couples ht) rfl ?_
    refine mG.goto 60 dX8_weddings_48 (by decide) ?_
    obtain rfl := Option.some.inj h
    exact mG.iret dX8_weddings_60 rfl ⟨rfl, rfl, rfl⟩
def f_X8_weddings (F : Nat) (S : mS) (t : Nat) (a1 : Int32) : Option (mS × Int32) := if a1 = (-1 : Int32) then (lX8_weddings_22 F  t a1 S ) else (if (f_X6_told S (t + 40 + 1) a1) = true then (lX8_weddings_22 F  t a1 S ) else (some (S, (-2 : Int32))))
set_option maxHeartbeats 4000000 in
set_option maxRecDepth 100000 in
theorem c_X8_weddings {F : Nat} {S : mS} {t : Nat} {a1 : Int32} {R : mS × Int32} (ht : kd0 t = 8) (h : f_X8_weddings F S t a1 = some R) : mCt μX8_weddings 21 0 0 E0 S [.ref (t), .int (a1)] (mQe R.1 (some (.int R.2))) := by
  unfold f_X8_weddings at h
  refine mCt.of (by decide) (Nat.le_of_ble_eq_true rfl) ?_
  intro x
  refine mG.iload_n 1 dX8_weddings_0 rfl ?_
  refine mG.iconst (v := (-1)) dX8_weddings_1 rfl ?_
  refine mG.icmp_eq 22 dX8_weddings_2 (by decide) (fun c2 => ?_) (fun c2 => ?_)
  · replace h := itp c2 h
    refine mG.sub (lv2 := [(0, .ref (t)), (1, .int (a1))]) [0, 1] rfl ?_
    exact gX8_weddings_22 ht   S   h
  · replace h := itn c2 h
    refine mG.aload_n 0 dX8_weddings_5 rfl ?_
    refine mG.get (v := .ref (t + 40)) dX8_weddings_6 mfX8_41 ht (lr8_now ht) ?_
    refine mG.get (v := .ref (t + 40 + 1)) dX8_weddings_9 mfX8_88 (lk8_now ht) (lr7_town (lk8_now ht)) ?_
    refine mG.iload_n 1 dX8_weddings_12 rfl ?_
    refine mG.callV0 (as := [.int (a1)]) (st := []) (S2 := S) (r := some (.int (bI (f_X6_told S (t + 40 + 1) a1)))) dX8_weddings_13 mvX6_told wk44_19 rfl (lk7_town (lk8_now ht)) rfl (by decide) (Nat.le_of_ble_eq_true rfl) (c_X6_told (lk7_town (lk8_now ht)) rfl) ?_
    refine mG.ifz_ne (b := f_X6_told S (t + 40 + 1) a1) 22 dX8_weddings_16 (by decide) (fun c1 => ?_) (fun c1 => ?_)
    · replace h := itp c1 h
      refine mG.sub (lv2 := [(0, .ref (t)), (1, .int (a1))]) [0, 1] rfl ?_
      exact gX8_weddings_22 ht   S   h
    · replace h := itn c1 h
      refine mG.bipush (v := (-2)) dX8_weddings_19 (by decide) ?_
      obtain rfl := Option.some.inj h
      exact mG.iret dX8_weddings_21 rfl ⟨rfl, rfl, rfl⟩
theorem dX8_twins_0 : decode cX8_twins 0 = .ok (.aload_n 0, 1) := by decide +kernel
theorem dX8_twins_1 : decode cX8_twins 1 = .ok (.getfield 41, 3) := by decide +kernel
theorem dX8_twins_4 : decode cX8_twins 4 = .ok (.getfield 88, 3) := by decide +kernel
theorem dX8_twins_7 : decode cX8_twins 7 = .ok (.astore_n 1, 1) := by decide +kernel
theorem dX8_twins_8 : decode cX8_twins 8 = .ok (.iconst 0, 1) := by decide +kernel
theorem dX8_twins_9 : decode cX8_twins 9 = .ok (.istore_n 2, 1) := by decide +kernel
theorem dX8_twins_10 : decode cX8_twins 10 = .ok (.iconst 0, 1) := by decide +kernel
theorem dX8_twins_11 : decode cX8_twins 11 = .ok (.istore_n 3, 1) := by decide +kernel
theorem dX8_twins_12 : decode cX8_twins 12 = .ok (.iload_n 3, 1) := by decide +kernel
theorem dX8_twins_13 : decode cX8_twins 13 = .ok (.aload_n 1, 1) := by decide +kernel
theorem dX8_twins_14 : decode cX8_twins 14 = .ok (.getfield 183, 3) := by decide +kernel
theorem dX8_twins_17 : decode cX8_twins 17 = .ok (.if_icmp .ge 60, 3) := by decide +kernel
theorem dX8_twins_20 : decode cX8_twins 20 = .ok (.iconst 0, 1) := by decide +kernel
theorem dX8_twins_21 : decode cX8_twins 21 = .ok (.istore 4, 2) := by decide +kernel
theorem dX8_twins_23 : decode cX8_twins 23 = .ok (.iload 4, 2) := by decide +kernel
theorem dX8_twins_25 : decode cX8_twins 25 = .ok (.iload_n 3, 1) := by decide +kernel
theorem dX8_twins_26 : decode cX8_twins 26 = .ok (.if_icmp .ge 45, 3) := by decide +kernel
theorem dX8_twins_29 : decode cX8_twins 29 = .ok (.aload_n 1, 1) := by decide +kernel
theorem dX8_twins_30 : decode cX8_twins 30 = .ok (.iload_n 3, 1) := by decide +kernel
theorem dX8_twins_31 : decode cX8_twins 31 = .ok (.invokevirtual 136, 3) := by decide +kernel
theorem dX8_twins_34 : decode cX8_twins 34 = .ok (.ifCond .eq 31, 3) := by decide +kernel
theorem dX8_twins_37 : decode cX8_twins 37 = .ok (.aload_n 1, 1) := by decide +kernel
theorem dX8_twins_38 : decode cX8_twins 38 = .ok (.iload 4, 2) := by decide +kernel
theorem dX8_twins_40 : decode cX8_twins 40 = .ok (.invokevirtual 136, 3) := by decide +kernel
theorem dX8_twins_43 : decode cX8_twins 43 = .ok (.ifCond .eq 22, 3) := by decide +kernel
theorem dX8_twins_46 : decode cX8_twins 46 = .ok (.aload_n 1, 1) := by decide +kernel
theorem dX8_twins_47 : decode cX8_twins 47 = .ok (.getfield 198, 3) := by decide +kernel
theorem dX8_twins_50 : decode cX8_twins 50 = .ok (.iload_n 3, 1) := by decide +kernel
theorem dX8_twins_51 : decode cX8_twins 51 = .ok (.iaload, 1) := by decide +kernel
theorem dX8_twins_52 : decode cX8_twins 52 = .ok (.aload_n 1, 1) := by decide +kernel
theorem dX8_twins_53 : decode cX8_twins 53 = .ok (.getfield 198, 3) := by decide +kernel
theorem dX8_twins_56 : decode cX8_twins 56 = .ok (.iload 4, 2) := by decide +kernel
theorem dX8_twins_58 : decode cX8_twins 58 = .ok (.iaload, 1) := by decide +kernel
theorem dX8_twins_59 : decode cX8_twins 59 = .ok (.if_icmp .ne 6, 3) := by decide +kernel
theorem dX8_twins_62 : decode cX8_twins 62 = .ok (.iinc 2 1, 3) := by decide +kernel
theorem dX8_twins_65 : decode cX8_twins 65 = .ok (.iinc 4 1, 3) := by decide +kernel
theorem dX8_twins_68 : decode cX8_twins 68 = .ok (.goto (-45), 3) := by decide +kernel
theorem dX8_twins_71 : decode cX8_twins 71 = .ok (.iinc 3 1, 3) := by decide +kernel
theorem dX8_twins_74 : decode cX8_twins 74 = .ok (.goto (-62), 3) := by decide +kernel
theorem dX8_twins_77 : decode cX8_twins 77 = .ok (.iload_n 2, 1) := by decide +kernel
theorem dX8_twins_78 : decode cX8_twins 78 = .ok (.ireturn, 1) := by decide +kernel
def lX8_twins_23 (F : Nat) (K12 : Int32 → Int32 → Option Int32) (t : Nat) : Nat → mS → Int32 → Int32 → Int32 → Option Int32
  | 0, _, _, _, _ => none
  | n + 1, S0, v2, v3, v4 => if v3 ≤ v4 then (K12 v2 (v3 + 1)) else (if (f_X6_lives S0 (t + 40 + 1) v3) = true then (if (f_X6_lives S0 (t + 40 + 1) v4) = true then (ck (inb v3 7) (ck (inb v4 7) (if (S0.1 (t + 40 + 1 + 1) v3.toNatClampNeg) = (S0.1 (t + 40 + 1 + 1) v4.toNatClampNeg) then (lX8_twins_23 F K12 t n S0 (v2 + 1) v3 (v4 + 1)) else (lX8_twins_23 F K12 t n S0 v2 v3 (v4 + 1))))) else (lX8_twins_23 F K12 t n S0 v2 v3 (v4 + 1))) else (lX8_twins_23 F K12 t n S0 v2 v3 (v4 + 1)))
set_option maxHeartbeats 4000000 in
set_option maxRecDepth 100000 in
theorem gX8_twins_23 {x : mX} {F : Nat} {t : Nat} {S0 : mS}  {K12 : Int32 → Int32 → Option Int32} {R : Int32} (ht : kd0 t = 8) (hK12 : ∀ (v2 : Int32) (v3 : Int32) (kr1 : kd0 (t + 40 + 1) = 6), K12 v2 v3 = some R → mG x μX8_twins 3 0 0 (mQe S0 (some (.int R))) 0 0 E0 S0 12 [(1, .ref (t + 40 + 1)), (2, .int (v2)), (3, .int (v3))] []) : ∀ (n : Nat) (v2 : Int32) (v3 : Int32) (v4 : Int32) (kr1 : kd0 (t + 40 + 1) = 6), lX8_twins_23 F K12 t n S0 v2 v3 v4 = some R → mG x μX8_twins 3 0 0 (mQe S0 (some (.int R))) 0 0 E0 S0 23 [(1, .ref (t + 40 + 1)), (2, .int (v2)), (3, .int (v3)), (4, .int (v4))] [] := by
  intro n
  induction n with
  | zero =>
    intro v2 v3 v4 kr1 h
    cases h
  | succ n ih =>
    intro v2 v3 v4 kr1 h
    unfold lX8_twins_23 at h
    refine mG.iload 3 dX8_twins_23 rfl ?_
    refine mG.iload_n 2 dX8_twins_25 rfl ?_
    refine mG.icmp_ge 71 dX8_twins_26 (by decide) (fun c6 => ?_) (fun c6 => ?_)
    · replace h := itp c6 h
      refine mG.iinc 2 (u := v3 + 1) (lv2 := [(3, .int (v3 + 1)), (1, .ref (t + 40 + 1)), (2, .int (v2)), (4, .int (v4))]) dX8_twins_71 rfl rfl (by decide) rfl ?_
      refine mG.goto 12 dX8_twins_74 (by decide) ?_
      refine mG.sub (lv2 := [(1, .ref (t + 40 + 1)), (2, .int (v2)), (3, .int (v3 + 1))]) [1, 2, 0] rfl ?_
      exact hK12  v2 (v3 + 1) kr1 h
    · replace h := itn c6 h
      refine mG.aload_n 0 dX8_twins_29 rfl ?_
      refine mG.iload_n 2 dX8_twins_30 rfl ?_
      refine mG.callV0 (as := [.int (v3)]) (st := []) (S2 := S0) (r := some (.int (bI (f_X6_lives S0 (t + 40 + 1) v3)))) dX8_twins_31 mvX6_lives wk27_7 rfl kr1 rfl (by decide) (Nat.le_of_ble_eq_true rfl) (c_X6_lives kr1 rfl) ?_
      refine mG.ifz_eq (b := f_X6_lives S0 (t + 40 + 1) v3) 65 dX8_twins_34 (by decide) (fun c5 => ?_) (fun c5 => ?_)
      · replace h := itn c5 h
        refine mG.iinc 3 (u := v4 + 1) (lv2 := [(4, .int (v4 + 1)), (1, .ref (t + 40 + 1)), (2, .int (v2)), (3, .int (v3))]) dX8_twins_65 rfl rfl (by decide) rfl ?_
        refine mG.goto 23 dX8_twins_68 (by decide) ?_
        refine mG.sub (lv2 := [(1, .ref (t + 40 + 1)), (2, .int (v2)), (3, .int (v3)), (4, .int (v4 + 1))]) [1, 2, 3, 0] rfl ?_
        exact ih  v2 v3 (v4 + 1) kr1 h
      · replace h := itp c5 h
        refine mG.aload_n 0 dX8_twins_37 rfl ?_
        refine mG.iload 3 dX8_twins_38 rfl ?_
        refine mG.callV0 (as := [.int (v4)]) (st := []) (S2 := S0) (r := some (.int (bI (f_X6_lives S0 (t + 40 + 1) v4)))) dX8_twins_40 mvX6_lives wk27_7 rfl kr1 rfl (by decide) (Nat.le_of_ble_eq_true rfl) (c_X6_lives kr1 rfl) ?_
        refine mG.ifz_eq (b := f_X6_lives S0 (t + 40 + 1) v4) 65 dX8_twins_43 (by decide) (fun c4 => ?_) (fun c4 => ?_)
        · replace h := itn c4 h
          refine mG.iinc 3 (u := v4 + 1) (lv2 := [(4, .int (v4 + 1)), (1, .ref (t + 40 + 1)), (2, .int (v2)), (3, .int (v3))]) dX8_twins_65 rfl rfl (by decide) rfl ?_
          refine mG.goto 23 dX8_twins_68 (by decide) ?_
          refine mG.sub (lv2 := [(1, .ref (t + 40 + 1)), (2, .int (v2)), (3, .int (v3)), (4, .int (v4 + 1))]) [1, 2, 3, 0] rfl ?_
          exact ih  v2 v3 (v4 + 1) kr1 h
        · replace h := itp c4 h
          refine mG.aload_n 0 dX8_twins_46 rfl ?_
          refine mG.get (v := .ref (t + 40 + 1 + 1)) dX8_twins_47 mfX8_198 kr1 (lr6_shut kr1) ?_
          refine mG.iload_n 2 dX8_twins_50 rfl ?_
          obtain ⟨b1, h⟩ := ckp h
          refine mG.iald dX8_twins_51 (lk6_shut kr1) (ll6_shut kr1) (inbp b1) ?_
          refine mG.aload_n 0 dX8_twins_52 rfl ?_
          refine mG.get (v := .ref (t + 40 + 1 + 1)) dX8_twins_53 mfX8_198 kr1 (lr6_shut kr1) ?_
          refine mG.iload 3 dX8_twins_56 rfl ?_
          obtain ⟨b2, h⟩ := ckp h
          refine mG.iald dX8_twins_58 (lk6_shut kr1) (ll6_shut kr1) (inbp b2) ?_
          refine mG.icmp_ne 65 dX8_twins_59 (by decide) (fun c3 => ?_) (fun c3 => ?_)
          · replace h := itn c3 h
            refine mG.iinc 3 (u := v4 + 1) (lv2 := [(4, .int (v4 + 1)), (1, .ref (t + 40 + 1)), (2, .int (v2)), (3, .int (v3))]) dX8_twins_65 rfl rfl (by decide) rfl ?_
            refine mG.goto 23 dX8_twins_68 (by decide) ?_
            refine mG.sub (lv2 := [(1, .ref (t + 40 + 1)), (2, .int (v2)), (3, .int (v3)), (4, .int (v4 + 1))]) [1, 2, 3, 0] rfl ?_
            exact ih  v2 v3 (v4 + 1) kr1 h
          · replace h := itp c3 h
            refine mG.iinc 1 (u := v2 + 1) (lv2 := [(2, .int (v2 + 1)), (1, .ref (t + 40 + 1)), (3, .int (v3)), (4, .int (v4))]) dX8_twins_62 rfl rfl (by decide) rfl ?_
            refine mG.iinc 3 (u := v4 + 1) (lv2 := [(4, .int (v4 + 1)), (2, .int (v2 + 1)), (1, .ref (t + 40 + 1)), (3, .int (v3))]) dX8_twins_65 rfl rfl (by decide) rfl ?_
            refine mG.goto 23 dX8_twins_68 (by decide) ?_
            refine mG.sub (lv2 := [(1, .ref (t + 40 + 1)), (2, .int (v2 + 1)), (3, .int (v3)), (4, .int (v4 + 1))]) [2, 1, 3, 0] rfl ?_
            exact ih  (v2 + 1) v3 (v4 + 1) kr1 h
def lX8_twins_12 (F : Nat)  (t : Nat) : Nat → mS → Int32 → Int32 → Option Int32
  | 0, _, _, _ => none
  | n + 1, S0, v2, v3 => if (S0.1 (t + 40 + 1) 5) ≤ v3 then (some v2) else (lX8_twins_23 F (fun (v2 : Int32) (v3 : Int32) => lX8_twins_12 F  t n S0 v2 v3) t F S0 v2 v3 (0 : Int32))
set_option maxHeartbeats 4000000 in
set_option maxRecDepth 100000 in
theorem gX8_twins_12 {x : mX} {F : Nat} {t : Nat} {S0 : mS}   {R : Int32} (ht : kd0 t = 8)  : ∀ (n : Nat) (v2 : Int32) (v3 : Int32) (kr1 : kd0 (t + 40 + 1) = 6), lX8_twins_12 F  t n S0 v2 v3 = some R → mG x μX8_twins 3 0 0 (mQe S0 (some (.int R))) 0 0 E0 S0 12 [(1, .ref (t + 40 + 1)), (2, .int (v2)), (3, .int (v3))] [] := by
  intro n
  induction n with
  | zero =>
    intro v2 v3 kr1 h
    cases h
  | succ n ih =>
    intro v2 v3 kr1 h
    unfold lX8_twins_12 at h
    refine mG.iload_n 2 dX8_twins_12 rfl ?_
    refine mG.aload_n 0 dX8_twins_13 rfl ?_
    refine mG.get (v := .int (S0.1 (t + 40 + 1) 5)) dX8_twins_14 mfX8_183 kr1 rfl ?_
    refine mG.icmp_ge 77 dX8_twins_17 (by decide) (fun c1 => ?_) (fun c1 => ?_)
    · replace h := itp c1 h
      refine mG.iload_n 1 dX8_twins_77 rfl ?_
      obtain rfl := Option.some.inj h
      exact mG.iret dX8_twins_78 rfl ⟨rfl, rfl, rfl⟩
    · replace h := itn c1 h
      refine mG.iconst (v := 0) dX8_twins_20 rfl ?_
      refine mG.istore (lv2 := [(4, .int 0), (1, .ref (t + 40 + 1)), (2, .int (v2)), (3, .int (v3))]) dX8_twins_21 (by decide) rfl ?_
      refine mG.sub (lv2 := [(1, .ref (t + 40 + 1)), (2, .int (v2)), (3, .int (v3)), (4, .int 0)]) [1, 2, 3, 0] rfl ?_
      exact gX8_twins_23 ht (fun v2 v3 kr1 h => by exact ih  v2 v3 kr1 h) F  v2 v3 (0 : Int32) kr1 h
def f_X8_twins (F : Nat) (S0 : mS) (t : Nat) : Option Int32 := lX8_twins_12 F  t F S0 (0 : Int32) (0 : Int32)
set_option maxHeartbeats 4000000 in
set_option maxRecDepth 100000 in
theorem c_X8_twins {F : Nat} {S0 : mS} {t : Nat} {R : Int32} (ht : kd0 t = 8) (h : f_X8_twins F S0 t = some R) : mCt μX8_twins 3 0 0 E0 S0 [.ref (t)] (mQe S0 (some (.int R))) := by
  unfold f_X8_twins at h
  refine mCt.of (by decide) (Nat.le_of_ble_eq_true rfl) ?_
  intro x
  refine mG.aload_n 0 dX8_twins_0 rfl ?_
  refine mG.get (v := .ref (t + 40)) dX8_twins_1 mfX8_41 ht (lr8_now ht) ?_
  refine mG.get (v := .ref (t + 40 + 1)) dX8_twins_4 mfX8_88 (lk8_now ht) (lr7_town (lk8_now ht)) ?_
  refine mG.astore_n (lv2 := [(1, .ref (t + 40 + 1)), (0, .ref (t))]) dX8_twins_7 rfl (by decide) rfl ?_
  refine mG.iconst (v := 0) dX8_twins_8 rfl ?_
  refine mG.istore_n (lv2 := [(2, .int 0), (1, .ref (t + 40 + 1)), (0, .ref (t))]) dX8_twins_9 rfl (by decide) rfl ?_
  refine mG.iconst (v := 0) dX8_twins_10 rfl ?_
  refine mG.istore_n (lv2 := [(3, .int 0), (2, .int 0), (1, .ref (t + 40 + 1)), (0, .ref (t))]) dX8_twins_11 rfl (by decide) rfl ?_
  refine mG.sub (lv2 := [(1, .ref (t + 40 + 1)), (2, .int 0), (3, .int 0)]) [2, 1, 0] rfl ?_
  exact gX8_twins_12 ht  F  (0 : Int32) (0 : Int32) (lk7_town (lk8_now ht)) h
theorem dX8_gossip_0 : decode cX8_gossip 0 = .ok (.iload_n 1, 1) := by decide +kernel
theorem dX8_gossip_1 : decode cX8_gossip 1 = .ok (.iconst (-1), 1) := by decide +kernel
theorem dX8_gossip_2 : decode cX8_gossip 2 = .ok (.if_icmp .ne 13, 3) := by decide +kernel
theorem dX8_gossip_5 : decode cX8_gossip 5 = .ok (.aload_n 0, 1) := by decide +kernel
theorem dX8_gossip_6 : decode cX8_gossip 6 = .ok (.getfield 41, 3) := by decide +kernel
theorem dX8_gossip_9 : decode cX8_gossip 9 = .ok (.iconst 0, 1) := by decide +kernel
theorem dX8_gossip_10 : decode cX8_gossip 10 = .ok (.putfield 323, 3) := by decide +kernel
theorem dX8_gossip_13 : decode cX8_gossip 13 = .ok (.iconst 0, 1) := by decide +kernel
theorem dX8_gossip_14 : decode cX8_gossip 14 = .ok (.ireturn, 1) := by decide +kernel
theorem dX8_gossip_15 : decode cX8_gossip 15 = .ok (.aload_n 0, 1) := by decide +kernel
theorem dX8_gossip_16 : decode cX8_gossip 16 = .ok (.getfield 41, 3) := by decide +kernel
theorem dX8_gossip_19 : decode cX8_gossip 19 = .ok (.getfield 88, 3) := by decide +kernel
theorem dX8_gossip_22 : decode cX8_gossip 22 = .ok (.iload_n 1, 1) := by decide +kernel
theorem dX8_gossip_23 : decode cX8_gossip 23 = .ok (.invokevirtual 195, 3) := by decide +kernel
theorem dX8_gossip_26 : decode cX8_gossip 26 = .ok (.ifCond .eq 22, 3) := by decide +kernel
theorem dX8_gossip_29 : decode cX8_gossip 29 = .ok (.aload_n 0, 1) := by decide +kernel
theorem dX8_gossip_30 : decode cX8_gossip 30 = .ok (.getfield 41, 3) := by decide +kernel
theorem dX8_gossip_33 : decode cX8_gossip 33 = .ok (.getfield 88, 3) := by decide +kernel
theorem dX8_gossip_36 : decode cX8_gossip 36 = .ok (.iload_n 2, 1) := by decide +kernel
theorem dX8_gossip_37 : decode cX8_gossip 37 = .ok (.invokevirtual 195, 3) := by decide +kernel
theorem dX8_gossip_40 : decode cX8_gossip 40 = .ok (.ifCond .eq 8, 3) := by decide +kernel
theorem dX8_gossip_43 : decode cX8_gossip 43 = .ok (.iload_n 1, 1) := by decide +kernel
theorem dX8_gossip_44 : decode cX8_gossip 44 = .ok (.iload_n 2, 1) := by decide +kernel
theorem dX8_gossip_45 : decode cX8_gossip 45 = .ok (.if_icmp .ne 6, 3) := by decide +kernel
theorem dX8_gossip_48 : decode cX8_gossip 48 = .ok (.bipush (-2), 2) := by decide +kernel
theorem dX8_gossip_50 : decode cX8_gossip 50 = .ok (.ireturn, 1) := by decide +kernel
theorem dX8_gossip_51 : decode cX8_gossip 51 = .ok (.aload_n 0, 1) := by decide +kernel
theorem dX8_gossip_52 : decode cX8_gossip 52 = .ok (.getfield 41, 3) := by decide +kernel
theorem dX8_gossip_55 : decode cX8_gossip 55 = .ok (.getfield 323, 3) := by decide +kernel
theorem dX8_gossip_58 : decode cX8_gossip 58 = .ok (.bipush 8, 2) := by decide +kernel
theorem dX8_gossip_60 : decode cX8_gossip 60 = .ok (.if_icmp .lt 6, 3) := by decide +kernel
theorem dX8_gossip_63 : decode cX8_gossip 63 = .ok (.bipush (-2), 2) := by decide +kernel
theorem dX8_gossip_65 : decode cX8_gossip 65 = .ok (.ireturn, 1) := by decide +kernel
theorem dX8_gossip_66 : decode cX8_gossip 66 = .ok (.aload_n 0, 1) := by decide +kernel
theorem dX8_gossip_67 : decode cX8_gossip 67 = .ok (.getfield 41, 3) := by decide +kernel
theorem dX8_gossip_70 : decode cX8_gossip 70 = .ok (.getfield 326, 3) := by decide +kernel
theorem dX8_gossip_73 : decode cX8_gossip 73 = .ok (.aload_n 0, 1) := by decide +kernel
theorem dX8_gossip_74 : decode cX8_gossip 74 = .ok (.getfield 41, 3) := by decide +kernel
theorem dX8_gossip_77 : decode cX8_gossip 77 = .ok (.getfield 323, 3) := by decide +kernel
theorem dX8_gossip_80 : decode cX8_gossip 80 = .ok (.iload_n 1, 1) := by decide +kernel
theorem dX8_gossip_81 : decode cX8_gossip 81 = .ok (.iastore, 1) := by decide +kernel
theorem dX8_gossip_82 : decode cX8_gossip 82 = .ok (.aload_n 0, 1) := by decide +kernel
theorem dX8_gossip_83 : decode cX8_gossip 83 = .ok (.getfield 41, 3) := by decide +kernel
theorem dX8_gossip_86 : decode cX8_gossip 86 = .ok (.getfield 329, 3) := by decide +kernel
theorem dX8_gossip_89 : decode cX8_gossip 89 = .ok (.aload_n 0, 1) := by decide +kernel
theorem dX8_gossip_90 : decode cX8_gossip 90 = .ok (.getfield 41, 3) := by decide +kernel
theorem dX8_gossip_93 : decode cX8_gossip 93 = .ok (.getfield 323, 3) := by decide +kernel
theorem dX8_gossip_96 : decode cX8_gossip 96 = .ok (.iload_n 2, 1) := by decide +kernel
theorem dX8_gossip_97 : decode cX8_gossip 97 = .ok (.iastore, 1) := by decide +kernel
theorem dX8_gossip_98 : decode cX8_gossip 98 = .ok (.aload_n 0, 1) := by decide +kernel
theorem dX8_gossip_99 : decode cX8_gossip 99 = .ok (.getfield 41, 3) := by decide +kernel
theorem dX8_gossip_102 : decode cX8_gossip 102 = .ok (.dup, 1) := by decide +kernel
theorem dX8_gossip_103 : decode cX8_gossip 103 = .ok (.getfield 323, 3) := by decide +kernel
theorem dX8_gossip_106 : decode cX8_gossip 106 = .ok (.iconst 1, 1) := by decide +kernel
theorem dX8_gossip_107 : decode cX8_gossip 107 = .ok (.iadd, 1) := by decide +kernel
theorem dX8_gossip_108 : decode cX8_gossip 108 = .ok (.putfield 323, 3) := by decide +kernel
theorem dX8_gossip_111 : decode cX8_gossip 111 = .ok (.aload_n 0, 1) := by decide +kernel
theorem dX8_gossip_112 : decode cX8_gossip 112 = .ok (.getfield 41, 3) := by decide +kernel
theorem dX8_gossip_115 : decode cX8_gossip 115 = .ok (.getfield 323, 3) := by decide +kernel
theorem dX8_gossip_118 : decode cX8_gossip 118 = .ok (.ireturn, 1) := by decide +kernel
def f_X8_gossip (F : Nat) (S : mS) (t : Nat) (a1 : Int32) (a2 : Int32) : Option (mS × Int32) := if a1 = (-1 : Int32) then (stp (sI S (t + 40) 12 (0 : Int32)) fun S10 => some (S10, (0 : Int32))) else (if (f_X6_told S (t + 40 + 1) a1) = true then (if (f_X6_told S (t + 40 + 1) a2) = true then (if a1 = a2 then (some (S, (-2 : Int32))) else (if (S.1 (t + 40) 12) < (8 : Int32) then (ck (inb (S.1 (t + 40) 12) 8) (stp (sI S (t + 40 + 10) (S.1 (t + 40) 12).toNatClampNeg a1) fun S2 => ck (inb (S2.1 (t + 40) 12) 8) (stp (sI S2 (t + 40 + 11) (S2.1 (t + 40) 12).toNatClampNeg a2) fun S4 => stp (sI S4 (t + 40) 12 ((S4.1 (t + 40) 12) + (1 : Int32))) fun S5 => some (S5, S5.1 (t + 40) 12)))) else (some (S, (-2 : Int32))))) else (some (S, (-2 : Int32)))) else (some (S, (-2 : Int32))))
set_option maxHeartbeats 4000000 in
set_option maxRecDepth 100000 in
theorem c_X8_gossip {F : Nat} {S : mS} {t : Nat} {a1 : Int32} {a2 : Int32} {R : mS × Int32} (ht : kd0 t = 8) (h : f_X8_gossip F S t a1 a2 = some R) : mCt μX8_gossip 2 0 0 E0 S [.ref (t), .int (a1), .int (a2)] (mQe R.1 (some (.int R.2))) := by
  unfold f_X8_gossip at h
  refine mCt.of (by decide) (Nat.le_of_ble_eq_true rfl) ?_
  intro x
  refine mG.iload_n 1 dX8_gossip_0 rfl ?_
  refine mG.iconst (v := (-1)) dX8_gossip_1 rfl ?_
  refine mG.icmp_ne 15 dX8_gossip_2 (by decide) (fun c11 => ?_) (fun c11 => ?_)
  · replace h := itn c11 h
    refine mG.aload_n 0 dX8_gossip_15 rfl ?_
    refine mG.get (v := .ref (t + 40)) dX8_gossip_16 mfX8_41 ht (lr8_now ht) ?_
    refine mG.get (v := .ref (t + 40 + 1)) dX8_gossip_19 mfX8_88 (lk8_now ht) (lr7_town (lk8_now ht)) ?_
    refine mG.iload_n 1 dX8_gossip_22 rfl ?_
    refine mG.callV0 (as := [.int (a1)]) (st := []) (S2 := S) (r := some (.int (bI (f_X6_told S (t + 40 + 1) a1)))) dX8_gossip_23 mvX6_told wk44_19 rfl (lk7_town (lk8_now ht)) rfl (by decide) (Nat.le_of_ble_eq_true rfl) (c_X6_told (lk7_town (lk8_now ht)) rfl) ?_
    refine mG.ifz_eq (b := f_X6_told S (t + 40 + 1) a1) 48 dX8_gossip_26 (by decide) (fun c9 => ?_) (fun c9 => ?_)
    · replace h := itn c9 h
      refine mG.bipush (v := (-2)) dX8_gossip_48 (by decide) ?_
      obtain rfl := Option.some.inj h
      exact mG.iret dX8_gossip_50 rfl ⟨rfl, rfl, rfl⟩
    · replace h := itp c9 h
      refine mG.aload_n 0 dX8_gossip_29 rfl ?_
      refine mG.get (v := .ref (t + 40)) dX8_gossip_30 mfX8_41 ht (lr8_now ht) ?_
      refine mG.get (v := .ref (t + 40 + 1)) dX8_gossip_33 mfX8_88 (lk8_now ht) (lr7_town (lk8_now ht)) ?_
      refine mG.iload_n 2 dX8_gossip_36 rfl ?_
      refine mG.callV0 (as := [.int (a2)]) (st := []) (S2 := S) (r := some (.int (bI (f_X6_told S (t + 40 + 1) a2)))) dX8_gossip_37 mvX6_told wk44_19 rfl (lk7_town (lk8_now ht)) rfl (by decide) (Nat.le_of_ble_eq_true rfl) (c_X6_told (lk7_town (lk8_now ht)) rfl) ?_
      refine mG.ifz_eq (b := f_X6_told S (t + 40 + 1) a2) 48 dX8_gossip_40 (by decide) (fun c8 => ?_) (fun c8 => ?_)
      · replace h := itn c8 h
        refine mG.bipush (v := (-2)) dX8_gossip_48 (by decide) ?_
        obtain rfl := Option.some.inj h
        exact mG.iret dX8_gossip_50 rfl ⟨rfl, rfl, rfl⟩
      · replace h := itp c8 h
        refine mG.iload_n 1 dX8_gossip_43 rfl ?_
        refine mG.iload_n 2 dX8_gossip_44 rfl ?_
        refine mG.icmp_ne 51 dX8_gossip_45 (by decide) (fun c7 => ?_) (fun c7 => ?_)
        · replace h := itn c7 h
          refine mG.aload_n 0 dX8_gossip_51 rfl ?_
          refine mG.get (v := .ref (t + 40)) dX8_gossip_52 mfX8_41 ht (lr8_now ht) ?_
          refine mG.get (v := .int (S.1 (t + 40) 12)) dX8_gossip_55 mfX8_323 (lk8_now ht) rfl ?_
          refine mG.bipush (v := 8) dX8_gossip_58 (by decide) ?_
          refine mG.icmp_lt 66 dX8_gossip_60 (by decide) (fun c6 => ?_) (fun c6 => ?_)
          · replace h := itp c6 h
            refine mG.aload_n 0 dX8_gossip_66 rfl ?_
            refine mG.get (v := .ref (t + 40)) dX8_gossip_67 mfX8_41 ht (lr8_now ht) ?_
            refine mG.get (v := .ref (t + 40 + 10)) dX8_gossip_70 mfX8_326 (lk8_now ht) (lr7_gossipFrom (lk8_now ht)) ?_
            refine mG.aload_n 0 dX8_gossip_73 rfl ?_
            refine mG.get (v := .ref (t + 40)) dX8_gossip_74 mfX8_41 ht (lr8_now ht) ?_
            refine mG.get (v := .int (S.1 (t + 40) 12)) dX8_gossip_77 mfX8_323 (lk8_now ht) rfl ?_
            refine mG.iload_n 1 dX8_gossip_80 rfl ?_
            obtain ⟨b1, h⟩ := ckp h
            obtain ⟨S2, hS2, h⟩ := stpp h
            refine mG.iast dX8_gossip_81 (lk7_gossipFrom (lk8_now ht)) (ll7_gossipFrom (lk8_now ht)) (inbp b1) hS2 ?_
            refine mG.aload_n 0 dX8_gossip_82 rfl ?_
            refine mG.get (v := .ref (t + 40)) dX8_gossip_83 mfX8_41 ht (lr8_now ht) ?_
            refine mG.get (v := .ref (t + 40 + 11)) dX8_gossip_86 mfX8_329 (lk8_now ht) (lr7_gossipTo (lk8_now ht)) ?_
            refine mG.aload_n 0 dX8_gossip_89 rfl ?_
            refine mG.get (v := .ref (t + 40)) dX8_gossip_90 mfX8_41 ht (lr8_now ht) ?_
            refine mG.get (v := .int (S2.1 (t + 40) 12)) dX8_gossip_93 mfX8_323 (lk8_now ht) rfl ?_
            refine mG.iload_n 2 dX8_gossip_96 rfl ?_
            obtain ⟨b3, h⟩ := ckp h
            obtain ⟨S4, hS4, h⟩ := stpp h
            refine mG.iast dX8_gossip_97 (lk7_gossipTo (lk8_now ht)) (ll7_gossipTo (lk8_now ht)) (inbp b3) hS4 ?_
            refine mG.aload_n 0 dX8_gossip_98 rfl ?_
            refine mG.get (v := .ref (t + 40)) dX8_gossip_99 mfX8_41 ht (lr8_now ht) ?_
            refine mG.dup dX8_gossip_102 rfl ?_
            refine mG.get (v := .int (S4.1 (t + 40) 12)) dX8_gossip_103 mfX8_323 (lk8_now ht) rfl ?_
            refine mG.iconst (v := 1) dX8_gossip_106 rfl ?_
            refine mG.iadd dX8_gossip_107 ?_
            obtain ⟨S5, hS5, h⟩ := stpp h
            refine mG.putI dX8_gossip_108 mfX8_323 rfl (Or.inl rfl) (lk8_now ht) hS5 ?_
            refine mG.aload_n 0 dX8_gossip_111 rfl ?_
            refine mG.get (v := .ref (t + 40)) dX8_gossip_112 mfX8_41 ht (lr8_now ht) ?_
            refine mG.get (v := .int (S5.1 (t + 40) 12)) dX8_gossip_115 mfX8_323 (lk8_now ht) rfl ?_
            obtain rfl := Option.some.inj h
            exact mG.iret dX8_gossip_118 rfl ⟨rfl, rfl, rfl⟩
          · replace h := itn c6 h
            refine mG.bipush (v := (-2)) dX8_gossip_63 (by decide) ?_
            obtain rfl := Option.some.inj h
            exact mG.iret dX8_gossip_65 rfl ⟨rfl, rfl, rfl⟩
        · replace h := itp c7 h
          refine mG.bipush (v := (-2)) dX8_gossip_48 (by decide) ?_
          obtain rfl := Option.some.inj h
          exact mG.iret dX8_gossip_50 rfl ⟨rfl, rfl, rfl⟩
  · replace h := itp c11 h
    refine mG.aload_n 0 dX8_gossip_5 rfl ?_
    refine mG.get (v := .ref (t + 40)) dX8_gossip_6 mfX8_41 ht (lr8_now ht) ?_
    refine mG.iconst (v := 0) dX8_gossip_9 rfl ?_
    obtain ⟨S10, hS10, h⟩ := stpp h
    refine mG.putI dX8_gossip_10 mfX8_323 rfl (Or.inl rfl) (lk8_now ht) hS10 ?_
    refine mG.iconst (v := 0) dX8_gossip_13 rfl ?_
    obtain rfl := Option.some.inj h
    exact mG.iret dX8_gossip_14 rfl ⟨rfl, rfl, rfl⟩
theorem dX8_knows_0 : decode cX8_knows 0 = .ok (.aload_n 0, 1) := by decide +kernel
theorem dX8_knows_1 : decode cX8_knows 1 = .ok (.getfield 41, 3) := by decide +kernel
theorem dX8_knows_4 : decode cX8_knows 4 = .ok (.getfield 88, 3) := by decide +kernel
theorem dX8_knows_7 : decode cX8_knows 7 = .ok (.iload_n 1, 1) := by decide +kernel
theorem dX8_knows_8 : decode cX8_knows 8 = .ok (.invokevirtual 195, 3) := by decide +kernel
theorem dX8_knows_11 : decode cX8_knows 11 = .ok (.ifCond .eq 17, 3) := by decide +kernel
theorem dX8_knows_14 : decode cX8_knows 14 = .ok (.aload_n 0, 1) := by decide +kernel
theorem dX8_knows_15 : decode cX8_knows 15 = .ok (.getfield 41, 3) := by decide +kernel
theorem dX8_knows_18 : decode cX8_knows 18 = .ok (.getfield 88, 3) := by decide +kernel
theorem dX8_knows_21 : decode cX8_knows 21 = .ok (.iload_n 2, 1) := by decide +kernel
theorem dX8_knows_22 : decode cX8_knows 22 = .ok (.invokevirtual 195, 3) := by decide +kernel
theorem dX8_knows_25 : decode cX8_knows 25 = .ok (.ifCond .ne 5, 3) := by decide +kernel
theorem dX8_knows_28 : decode cX8_knows 28 = .ok (.iconst (-1), 1) := by decide +kernel
theorem dX8_knows_29 : decode cX8_knows 29 = .ok (.ireturn, 1) := by decide +kernel
theorem dX8_knows_30 : decode cX8_knows 30 = .ok (.iconst 1, 1) := by decide +kernel
theorem dX8_knows_31 : decode cX8_knows 31 = .ok (.iload_n 2, 1) := by decide +kernel
theorem dX8_knows_32 : decode cX8_knows 32 = .ok (.ishl, 1) := by decide +kernel
theorem dX8_knows_33 : decode cX8_knows 33 = .ok (.istore_n 3, 1) := by decide +kernel
theorem dX8_knows_34 : decode cX8_knows 34 = .ok (.iconst 0, 1) := by decide +kernel
theorem dX8_knows_35 : decode cX8_knows 35 = .ok (.istore 4, 2) := by decide +kernel
theorem dX8_knows_37 : decode cX8_knows 37 = .ok (.iload 4, 2) := by decide +kernel
theorem dX8_knows_39 : decode cX8_knows 39 = .ok (.bipush 7, 2) := by decide +kernel
theorem dX8_knows_41 : decode cX8_knows 41 = .ok (.if_icmp .gt 30, 3) := by decide +kernel
theorem dX8_knows_44 : decode cX8_knows 44 = .ok (.iload_n 3, 1) := by decide +kernel
theorem dX8_knows_45 : decode cX8_knows 45 = .ok (.iload_n 1, 1) := by decide +kernel
theorem dX8_knows_46 : decode cX8_knows 46 = .ok (.ishr, 1) := by decide +kernel
theorem dX8_knows_47 : decode cX8_knows 47 = .ok (.iconst 1, 1) := by decide +kernel
theorem dX8_knows_48 : decode cX8_knows 48 = .ok (.iand, 1) := by decide +kernel
theorem dX8_knows_49 : decode cX8_knows 49 = .ok (.iconst 1, 1) := by decide +kernel
theorem dX8_knows_50 : decode cX8_knows 50 = .ok (.if_icmp .ne 6, 3) := by decide +kernel
theorem dX8_knows_53 : decode cX8_knows 53 = .ok (.iload 4, 2) := by decide +kernel
theorem dX8_knows_55 : decode cX8_knows 55 = .ok (.ireturn, 1) := by decide +kernel
theorem dX8_knows_56 : decode cX8_knows 56 = .ok (.aload_n 0, 1) := by decide +kernel
theorem dX8_knows_57 : decode cX8_knows 57 = .ok (.getfield 41, 3) := by decide +kernel
theorem dX8_knows_60 : decode cX8_knows 60 = .ok (.iload_n 3, 1) := by decide +kernel
theorem dX8_knows_61 : decode cX8_knows 61 = .ok (.invokevirtual 332, 3) := by decide +kernel
theorem dX8_knows_64 : decode cX8_knows 64 = .ok (.istore_n 3, 1) := by decide +kernel
theorem dX8_knows_65 : decode cX8_knows 65 = .ok (.iinc 4 1, 3) := by decide +kernel
theorem dX8_knows_68 : decode cX8_knows 68 = .ok (.goto (-31), 3) := by decide +kernel
theorem dX8_knows_71 : decode cX8_knows 71 = .ok (.iconst (-1), 1) := by decide +kernel
theorem dX8_knows_72 : decode cX8_knows 72 = .ok (.ireturn, 1) := by decide +kernel
def lX8_knows_37 (F : Nat)  (t : Nat) (a1 : Int32) (a2 : Int32) : Nat → mS → Int32 → Int32 → Option Int32
  | 0, _, _, _ => none
  | n + 1, S0, v3, v4 => if (7 : Int32) < v4 then (some (-1 : Int32)) else (if ((v3 >>> (a1 &&& 31)) &&& (1 : Int32)) = (1 : Int32) then (some v4) else (bd (f_X7_knowingNext F S0 (t + 40) v3) fun q1 => lX8_knows_37 F  t a1 a2 n S0 q1 (v4 + 1)))
set_option maxHeartbeats 4000000 in
set_option maxRecDepth 100000 in
theorem gX8_knows_37 {x : mX} {F : Nat} {t : Nat} {a1 : Int32} {a2 : Int32} {S0 : mS}   {R : Int32} (ht : kd0 t = 8)  : ∀ (n : Nat) (v3 : Int32) (v4 : Int32), lX8_knows_37 F  t a1 a2 n S0 v3 v4 = some R → mG x μX8_knows 2 0 0 (mQe S0 (some (.int R))) 0 0 E0 S0 37 [(0, .ref (t)), (1, .int (a1)), (3, .int (v3)), (4, .int (v4))] [] := by
  intro n
  induction n with
  | zero =>
    intro v3 v4 h
    cases h
  | succ n ih =>
    intro v3 v4 h
    unfold lX8_knows_37 at h
    refine mG.iload 3 dX8_knows_37 rfl ?_
    refine mG.bipush (v := 7) dX8_knows_39 (by decide) ?_
    refine mG.icmp_gt 71 dX8_knows_41 (by decide) (fun c3 => ?_) (fun c3 => ?_)
    · replace h := itp c3 h
      refine mG.iconst (v := (-1)) dX8_knows_71 rfl ?_
      obtain rfl := Option.some.inj h
      exact mG.iret dX8_knows_72 rfl ⟨rfl, rfl, rfl⟩
    · replace h := itn c3 h
      refine mG.iload_n 2 dX8_knows_44 rfl ?_
      refine mG.iload_n 1 dX8_knows_45 rfl ?_
      refine mG.ishr dX8_knows_46 ?_
      refine mG.iconst (v := 1) dX8_knows_47 rfl ?_
      refine mG.iand dX8_knows_48 ?_
      refine mG.iconst (v := 1) dX8_knows_49 rfl ?_
      refine mG.icmp_ne 56 dX8_knows_50 (by decide) (fun c2 => ?_) (fun c2 => ?_)
      · replace h := itn c2 h
        refine mG.aload_n 0 dX8_knows_56 rfl ?_
        refine mG.get (v := .ref (t + 40)) dX8_knows_57 mfX8_41 ht (lr8_now ht) ?_
        refine mG.iload_n 2 dX8_knows_60 rfl ?_
        obtain ⟨q1, hq1, h⟩ := bdp h
        refine mG.callV0 (as := [.int (v3)]) (st := []) (S2 := S0) (r := some (.int (q1))) dX8_knows_61 mvX7_knowingNext wk61_6 rfl (lk8_now ht) rfl (by decide) (Nat.le_of_ble_eq_true rfl) (c_X7_knowingNext (lk8_now ht) hq1) ?_
        refine mG.istore_n (lv2 := [(3, .int (q1)), (0, .ref (t)), (1, .int (a1)), (4, .int (v4))]) dX8_knows_64 rfl (by decide) rfl ?_
        refine mG.iinc 3 (u := v4 + 1) (lv2 := [(4, .int (v4 + 1)), (3, .int (q1)), (0, .ref (t)), (1, .int (a1))]) dX8_knows_65 rfl rfl (by decide) rfl ?_
        refine mG.goto 37 dX8_knows_68 (by decide) ?_
        refine mG.sub (lv2 := [(0, .ref (t)), (1, .int (a1)), (3, .int (q1)), (4, .int (v4 + 1))]) [2, 3, 1, 0] rfl ?_
        exact ih  q1 (v4 + 1)  h
      · replace h := itp c2 h
        refine mG.iload 3 dX8_knows_53 rfl ?_
        obtain rfl := Option.some.inj h
        exact mG.iret dX8_knows_55 rfl ⟨rfl, rfl, rfl⟩
def f_X8_knows (F : Nat) (S0 : mS) (t : Nat) (a1 : Int32) (a2 : Int32) : Option Int32 := if (f_X6_told S0 (t + 40 + 1) a1) = true then (if (f_X6_told S0 (t + 40 + 1) a2) = true then (lX8_knows_37 F  t a1 a2 F S0 ((1 : Int32) <<< (a2 &&& 31)) (0 : Int32)) else (some (-1 : Int32))) else (some (-1 : Int32))
set_option maxHeartbeats 4000000 in
set_option maxRecDepth 100000 in
theorem c_X8_knows {F : Nat} {S0 : mS} {t : Nat} {a1 : Int32} {a2 : Int32} {R : Int32} (ht : kd0 t = 8) (h : f_X8_knows F S0 t a1 a2 = some R) : mCt μX8_knows 2 0 0 E0 S0 [.ref (t), .int (a1), .int (a2)] (mQe S0 (some (.int R))) := by
  unfold f_X8_knows at h
  refine mCt.of (by decide) (Nat.le_of_ble_eq_true rfl) ?_
  intro x
  refine mG.aload_n 0 dX8_knows_0 rfl ?_
  refine mG.get (v := .ref (t + 40)) dX8_knows_1 mfX8_41 ht (lr8_now ht) ?_
  refine mG.get (v := .ref (t + 40 + 1)) dX8_knows_4 mfX8_88 (lk8_now ht) (lr7_town (lk8_now ht)) ?_
  refine mG.iload_n 1 dX8_knows_7 rfl ?_
  refine mG.callV0 (as := [.int (a1)]) (st := []) (S2 := S0) (r := some (.int (bI (f_X6_told S0 (t + 40 + 1) a1)))) dX8_knows_8 mvX6_told wk44_19 rfl (lk7_town (lk8_now ht)) rfl (by decide) (Nat.le_of_ble_eq_true rfl) (c_X6_told (lk7_town (lk8_now ht)) rfl) ?_
  refine mG.ifz_eq (b := f_X6_told S0 (t + 40 + 1) a1) 28 dX8_knows_11 (by decide) (fun c2 => ?_) (fun c2 => ?_)
  · replace h := itn c2 h
    refine mG.iconst (v := (-1)) dX8_knows_28 rfl ?_
    obtain rfl := Option.some.inj h
    exact mG.iret dX8_knows_29 rfl ⟨rfl, rfl, rfl⟩
  · replace h := itp c2 h
    refine mG.aload_n 0 dX8_knows_14 rfl ?_
    refine mG.get (v := .ref (t + 40)) dX8_knows_15 mfX8_41 ht (lr8_now ht) ?_
    refine mG.get (v := .ref (t + 40 + 1)) dX8_knows_18 mfX8_88 (lk8_now ht) (lr7_town (lk8_now ht)) ?_
    refine mG.iload_n 2 dX8_knows_21 rfl ?_
    refine mG.callV0 (as := [.int (a2)]) (st := []) (S2 := S0) (r := some (.int (bI (f_X6_told S0 (t + 40 + 1) a2)))) dX8_knows_22 mvX6_told wk44_19 rfl (lk7_town (lk8_now ht)) rfl (by decide) (Nat.le_of_ble_eq_true rfl) (c_X6_told (lk7_town (lk8_now ht)) rfl) ?_
    refine mG.ifz_ne (b := f_X6_told S0 (t + 40 + 1) a2) 30 dX8_knows_25 (by decide) (fun c1 => ?_) (fun c1 => ?_)
    · replace h := itp c1 h
      refine mG.iconst (v := 1) dX8_knows_30 rfl ?_
      refine mG.iload_n 2 dX8_knows_31 rfl ?_
      refine mG.ishl dX8_knows_32 ?_
      refine mG.istore_n (lv2 := [(3, .int ((1 : Int32) <<< (a2 &&& 31))), (0, .ref (t)), (1, .int (a1)), (2, .int (a2))]) dX8_knows_33 rfl (by decide) rfl ?_
      refine mG.iconst (v := 0) dX8_knows_34 rfl ?_
      refine mG.istore (lv2 := [(4, .int 0), (3, .int ((1 : Int32) <<< (a2 &&& 31))), (0, .ref (t)), (1, .int (a1)), (2, .int (a2))]) dX8_knows_35 (by decide) rfl ?_
      refine mG.sub (lv2 := [(0, .ref (t)), (1, .int (a1)), (3, .int ((1 : Int32) <<< (a2 &&& 31))), (4, .int 0)]) [2, 3, 1, 0] rfl ?_
      exact gX8_knows_37 ht  F  ((1 : Int32) <<< (a2 &&& 31)) (0 : Int32)  h
    · replace h := itn c1 h
      refine mG.iconst (v := (-1)) dX8_knows_28 rfl ?_
      obtain rfl := Option.some.inj h
      exact mG.iret dX8_knows_29 rfl ⟨rfl, rfl, rfl⟩
theorem dX8_never_0 : decode cX8_never 0 = .ok (.aload_n 0, 1) := by decide +kernel
theorem dX8_never_1 : decode cX8_never 1 = .ok (.getfield 41, 3) := by decide +kernel
theorem dX8_never_4 : decode cX8_never 4 = .ok (.getfield 88, 3) := by decide +kernel
theorem dX8_never_7 : decode cX8_never 7 = .ok (.iload_n 1, 1) := by decide +kernel
theorem dX8_never_8 : decode cX8_never 8 = .ok (.invokevirtual 195, 3) := by decide +kernel
theorem dX8_never_11 : decode cX8_never 11 = .ok (.ifCond .ne 5, 3) := by decide +kernel
theorem dX8_never_14 : decode cX8_never 14 = .ok (.iconst (-1), 1) := by decide +kernel
theorem dX8_never_15 : decode cX8_never 15 = .ok (.ireturn, 1) := by decide +kernel
theorem dX8_never_16 : decode cX8_never 16 = .ok (.iconst 1, 1) := by decide +kernel
theorem dX8_never_17 : decode cX8_never 17 = .ok (.iload_n 1, 1) := by decide +kernel
theorem dX8_never_18 : decode cX8_never 18 = .ok (.ishl, 1) := by decide +kernel
theorem dX8_never_19 : decode cX8_never 19 = .ok (.istore_n 2, 1) := by decide +kernel
theorem dX8_never_20 : decode cX8_never 20 = .ok (.iconst 0, 1) := by decide +kernel
theorem dX8_never_21 : decode cX8_never 21 = .ok (.istore_n 3, 1) := by decide +kernel
theorem dX8_never_22 : decode cX8_never 22 = .ok (.iload_n 3, 1) := by decide +kernel
theorem dX8_never_23 : decode cX8_never 23 = .ok (.bipush 7, 2) := by decide +kernel
theorem dX8_never_25 : decode cX8_never 25 = .ok (.if_icmp .gt 18, 3) := by decide +kernel
theorem dX8_never_28 : decode cX8_never 28 = .ok (.aload_n 0, 1) := by decide +kernel
theorem dX8_never_29 : decode cX8_never 29 = .ok (.getfield 41, 3) := by decide +kernel
theorem dX8_never_32 : decode cX8_never 32 = .ok (.iload_n 2, 1) := by decide +kernel
theorem dX8_never_33 : decode cX8_never 33 = .ok (.invokevirtual 332, 3) := by decide +kernel
theorem dX8_never_36 : decode cX8_never 36 = .ok (.istore_n 2, 1) := by decide +kernel
theorem dX8_never_37 : decode cX8_never 37 = .ok (.iinc 3 1, 3) := by decide +kernel
theorem dX8_never_40 : decode cX8_never 40 = .ok (.goto (-18), 3) := by decide +kernel
theorem dX8_never_43 : decode cX8_never 43 = .ok (.iconst 1, 1) := by decide +kernel
theorem dX8_never_44 : decode cX8_never 44 = .ok (.aload_n 0, 1) := by decide +kernel
theorem dX8_never_45 : decode cX8_never 45 = .ok (.getfield 41, 3) := by decide +kernel
theorem dX8_never_48 : decode cX8_never 48 = .ok (.getfield 88, 3) := by decide +kernel
theorem dX8_never_51 : decode cX8_never 51 = .ok (.getfield 183, 3) := by decide +kernel
theorem dX8_never_54 : decode cX8_never 54 = .ok (.ishl, 1) := by decide +kernel
theorem dX8_never_55 : decode cX8_never 55 = .ok (.iconst 1, 1) := by decide +kernel
theorem dX8_never_56 : decode cX8_never 56 = .ok (.isub, 1) := by decide +kernel
theorem dX8_never_57 : decode cX8_never 57 = .ok (.iload_n 2, 1) := by decide +kernel
theorem dX8_never_58 : decode cX8_never 58 = .ok (.iconst (-1), 1) := by decide +kernel
theorem dX8_never_59 : decode cX8_never 59 = .ok (.ixor, 1) := by decide +kernel
theorem dX8_never_60 : decode cX8_never 60 = .ok (.iand, 1) := by decide +kernel
theorem dX8_never_61 : decode cX8_never 61 = .ok (.ireturn, 1) := by decide +kernel
def lX8_never_22 (F : Nat)  (t : Nat) (a1 : Int32) : Nat → mS → Int32 → Int32 → Option Int32
  | 0, _, _, _ => none
  | n + 1, S0, v2, v3 => if (7 : Int32) < v3 then (some ((((1 : Int32) <<< ((S0.1 (t + 40 + 1) 5) &&& 31)) - (1 : Int32)) &&& (v2 ^^^ (-1 : Int32)))) else (bd (f_X7_knowingNext F S0 (t + 40) v2) fun q1 => lX8_never_22 F  t a1 n S0 q1 (v3 + 1))
set_option maxHeartbeats 4000000 in
set_option maxRecDepth 100000 in
theorem gX8_never_22 {x : mX} {F : Nat} {t : Nat} {a1 : Int32} {S0 : mS}   {R : Int32} (ht : kd0 t = 8)  : ∀ (n : Nat) (v2 : Int32) (v3 : Int32), lX8_never_22 F  t a1 n S0 v2 v3 = some R → mG x μX8_never 2 0 0 (mQe S0 (some (.int R))) 0 0 E0 S0 22 [(0, .ref (t)), (2, .int (v2)), (3, .int (v3))] [] := by
  intro n
  induction n with
  | zero =>
    intro v2 v3 h
    cases h
  | succ n ih =>
    intro v2 v3 h
    unfold lX8_never_22 at h
    refine mG.iload_n 2 dX8_never_22 rfl ?_
    refine mG.bipush (v := 7) dX8_never_23 (by decide) ?_
    refine mG.icmp_gt 43 dX8_never_25 (by decide) (fun c2 => ?_) (fun c2 => ?_)
    · replace h := itp c2 h
      refine mG.iconst (v := 1) dX8_never_43 rfl ?_
      refine mG.aload_n 0 dX8_never_44 rfl ?_
      refine mG.get (v := .ref (t + 40)) dX8_never_45 mfX8_41 ht (lr8_now ht) ?_
      refine mG.get (v := .ref (t + 40 + 1)) dX8_never_48 mfX8_88 (lk8_now ht) (lr7_town (lk8_now ht)) ?_
      refine mG.get (v := .int (S0.1 (t + 40 + 1) 5)) dX8_never_51 mfX8_183 (lk7_town (lk8_now ht)) rfl ?_
      refine mG.ishl dX8_never_54 ?_
      refine mG.iconst (v := 1) dX8_never_55 rfl ?_
      refine mG.isub dX8_never_56 ?_
      refine mG.iload_n 1 dX8_never_57 rfl ?_
      refine mG.iconst (v := (-1)) dX8_never_58 rfl ?_
      refine mG.ixor dX8_never_59 ?_
      refine mG.iand dX8_never_60 ?_
      obtain rfl := Option.some.inj h
      exact mG.iret dX8_never_61 rfl ⟨rfl, rfl, rfl⟩
    · replace h := itn c2 h
      refine mG.aload_n 0 dX8_never_28 rfl ?_
      refine mG.get (v := .ref (t + 40)) dX8_never_29 mfX8_41 ht (lr8_now ht) ?_
      refine mG.iload_n 1 dX8_never_32 rfl ?_
      obtain ⟨q1, hq1, h⟩ := bdp h
      refine mG.callV0 (as := [.int (v2)]) (st := []) (S2 := S0) (r := some (.int (q1))) dX8_never_33 mvX7_knowingNext wk61_6 rfl (lk8_now ht) rfl (by decide) (Nat.le_of_ble_eq_true rfl) (c_X7_knowingNext (lk8_now ht) hq1) ?_
      refine mG.istore_n (lv2 := [(2, .int (q1)), (0, .ref (t)), (3, .int (v3))]) dX8_never_36 rfl (by decide) rfl ?_
      refine mG.iinc 2 (u := v3 + 1) (lv2 := [(3, .int (v3 + 1)), (2, .int (q1)), (0, .ref (t))]) dX8_never_37 rfl rfl (by decide) rfl ?_
      refine mG.goto 22 dX8_never_40 (by decide) ?_
      refine mG.sub (lv2 := [(0, .ref (t)), (2, .int (q1)), (3, .int (v3 + 1))]) [2, 1, 0] rfl ?_
      exact ih  q1 (v3 + 1)  h
def f_X8_never (F : Nat) (S0 : mS) (t : Nat) (a1 : Int32) : Option Int32 := if (f_X6_told S0 (t + 40 + 1) a1) = true then (lX8_never_22 F  t a1 F S0 ((1 : Int32) <<< (a1 &&& 31)) (0 : Int32)) else (some (-1 : Int32))
set_option maxHeartbeats 4000000 in
set_option maxRecDepth 100000 in
theorem c_X8_never {F : Nat} {S0 : mS} {t : Nat} {a1 : Int32} {R : Int32} (ht : kd0 t = 8) (h : f_X8_never F S0 t a1 = some R) : mCt μX8_never 2 0 0 E0 S0 [.ref (t), .int (a1)] (mQe S0 (some (.int R))) := by
  unfold f_X8_never at h
  refine mCt.of (by decide) (Nat.le_of_ble_eq_true rfl) ?_
  intro x
  refine mG.aload_n 0 dX8_never_0 rfl ?_
  refine mG.get (v := .ref (t + 40)) dX8_never_1 mfX8_41 ht (lr8_now ht) ?_
  refine mG.get (v := .ref (t + 40 + 1)) dX8_never_4 mfX8_88 (lk8_now ht) (lr7_town (lk8_now ht)) ?_
  refine mG.iload_n 1 dX8_never_7 rfl ?_
  refine mG.callV0 (as := [.int (a1)]) (st := []) (S2 := S0) (r := some (.int (bI (f_X6_told S0 (t + 40 + 1) a1)))) dX8_never_8 mvX6_told wk44_19 rfl (lk7_town (lk8_now ht)) rfl (by decide) (Nat.le_of_ble_eq_true rfl) (c_X6_told (lk7_town (lk8_now ht)) rfl) ?_
  refine mG.ifz_ne (b := f_X6_told S0 (t + 40 + 1) a1) 16 dX8_never_11 (by decide) (fun c1 => ?_) (fun c1 => ?_)
  · replace h := itp c1 h
    refine mG.iconst (v := 1) dX8_never_16 rfl ?_
    refine mG.iload_n 1 dX8_never_17 rfl ?_
    refine mG.ishl dX8_never_18 ?_
    refine mG.istore_n (lv2 := [(2, .int ((1 : Int32) <<< (a1 &&& 31))), (0, .ref (t)), (1, .int (a1))]) dX8_never_19 rfl (by decide) rfl ?_
    refine mG.iconst (v := 0) dX8_never_20 rfl ?_
    refine mG.istore_n (lv2 := [(3, .int 0), (2, .int ((1 : Int32) <<< (a1 &&& 31))), (0, .ref (t)), (1, .int (a1))]) dX8_never_21 rfl (by decide) rfl ?_
    refine mG.sub (lv2 := [(0, .ref (t)), (2, .int ((1 : Int32) <<< (a1 &&& 31))), (3, .int 0)]) [2, 1, 0] rfl ?_
    exact gX8_never_22 ht  F  ((1 : Int32) <<< (a1 &&& 31)) (0 : Int32)  h
  · replace h := itn c1 h
    refine mG.iconst (v := (-1)) dX8_never_14 rfl ?_
    obtain rfl := Option.some.inj h
    exact mG.iret dX8_never_15 rfl ⟨rfl, rfl, rfl⟩
theorem dX8_earnedOn_0 : decode cX8_earnedOn 0 = .ok (.aload_n 0, 1) := by decide +kernel
theorem dX8_earnedOn_1 : decode cX8_earnedOn 1 = .ok (.getfield 41, 3) := by decide +kernel
theorem dX8_earnedOn_4 : decode cX8_earnedOn 4 = .ok (.getfield 88, 3) := by decide +kernel
theorem dX8_earnedOn_7 : decode cX8_earnedOn 7 = .ok (.astore_n 2, 1) := by decide +kernel
theorem dX8_earnedOn_8 : decode cX8_earnedOn 8 = .ok (.iload_n 1, 1) := by decide +kernel
theorem dX8_earnedOn_9 : decode cX8_earnedOn 9 = .ok (.aload_n 2, 1) := by decide +kernel
theorem dX8_earnedOn_10 : decode cX8_earnedOn 10 = .ok (.invokevirtual 172, 3) := by decide +kernel
theorem dX8_earnedOn_13 : decode cX8_earnedOn 13 = .ok (.isub, 1) := by decide +kernel
theorem dX8_earnedOn_14 : decode cX8_earnedOn 14 = .ok (.bipush 20, 2) := by decide +kernel
theorem dX8_earnedOn_16 : decode cX8_earnedOn 16 = .ok (.iadd, 1) := by decide +kernel
theorem dX8_earnedOn_17 : decode cX8_earnedOn 17 = .ok (.bipush 20, 2) := by decide +kernel
theorem dX8_earnedOn_19 : decode cX8_earnedOn 19 = .ok (.irem, 1) := by decide +kernel
theorem dX8_earnedOn_20 : decode cX8_earnedOn 20 = .ok (.istore_n 3, 1) := by decide +kernel
theorem dX8_earnedOn_21 : decode cX8_earnedOn 21 = .ok (.aload_n 0, 1) := by decide +kernel
theorem dX8_earnedOn_22 : decode cX8_earnedOn 22 = .ok (.getfield 34, 3) := by decide +kernel
theorem dX8_earnedOn_25 : decode cX8_earnedOn 25 = .ok (.aload_n 2, 1) := by decide +kernel
theorem dX8_earnedOn_26 : decode cX8_earnedOn 26 = .ok (.aload_n 2, 1) := by decide +kernel
theorem dX8_earnedOn_27 : decode cX8_earnedOn 27 = .ok (.getfield 166, 3) := by decide +kernel
theorem dX8_earnedOn_30 : decode cX8_earnedOn 30 = .ok (.iload_n 3, 1) := by decide +kernel
theorem dX8_earnedOn_31 : decode cX8_earnedOn 31 = .ok (.iadd, 1) := by decide +kernel
theorem dX8_earnedOn_32 : decode cX8_earnedOn 32 = .ok (.invokevirtual 351, 3) := by decide +kernel
theorem dX8_earnedOn_35 : decode cX8_earnedOn 35 = .ok (.iconst 0, 1) := by decide +kernel
theorem dX8_earnedOn_36 : decode cX8_earnedOn 36 = .ok (.istore 4, 2) := by decide +kernel
theorem dX8_earnedOn_38 : decode cX8_earnedOn 38 = .ok (.iconst 0, 1) := by decide +kernel
theorem dX8_earnedOn_39 : decode cX8_earnedOn 39 = .ok (.istore 5, 2) := by decide +kernel
theorem dX8_earnedOn_41 : decode cX8_earnedOn 41 = .ok (.iload 5, 2) := by decide +kernel
theorem dX8_earnedOn_43 : decode cX8_earnedOn 43 = .ok (.aload_n 2, 1) := by decide +kernel
theorem dX8_earnedOn_44 : decode cX8_earnedOn 44 = .ok (.getfield 183, 3) := by decide +kernel
theorem dX8_earnedOn_47 : decode cX8_earnedOn 47 = .ok (.if_icmp .ge 40, 3) := by decide +kernel
theorem dX8_earnedOn_50 : decode cX8_earnedOn 50 = .ok (.aload_n 0, 1) := by decide +kernel
theorem dX8_earnedOn_51 : decode cX8_earnedOn 51 = .ok (.getfield 34, 3) := by decide +kernel
theorem dX8_earnedOn_54 : decode cX8_earnedOn 54 = .ok (.iload 5, 2) := by decide +kernel
theorem dX8_earnedOn_56 : decode cX8_earnedOn 56 = .ok (.invokevirtual 408, 3) := by decide +kernel
theorem dX8_earnedOn_59 : decode cX8_earnedOn 59 = .ok (.ifCond .eq 22, 3) := by decide +kernel
theorem dX8_earnedOn_62 : decode cX8_earnedOn 62 = .ok (.iload 4, 2) := by decide +kernel
theorem dX8_earnedOn_64 : decode cX8_earnedOn 64 = .ok (.aload_n 0, 1) := by decide +kernel
theorem dX8_earnedOn_65 : decode cX8_earnedOn 65 = .ok (.getfield 34, 3) := by decide +kernel
theorem dX8_earnedOn_68 : decode cX8_earnedOn 68 = .ok (.aload_n 0, 1) := by decide +kernel
theorem dX8_earnedOn_69 : decode cX8_earnedOn 69 = .ok (.invokevirtual 236, 3) := by decide +kernel
theorem dX8_earnedOn_72 : decode cX8_earnedOn 72 = .ok (.aload_n 2, 1) := by decide +kernel
theorem dX8_earnedOn_73 : decode cX8_earnedOn 73 = .ok (.iload 5, 2) := by decide +kernel
theorem dX8_earnedOn_75 : decode cX8_earnedOn 75 = .ok (.invokevirtual 353, 3) := by decide +kernel
theorem dX8_earnedOn_78 : decode cX8_earnedOn 78 = .ok (.iadd, 1) := by decide +kernel
theorem dX8_earnedOn_79 : decode cX8_earnedOn 79 = .ok (.istore 4, 2) := by decide +kernel
theorem dX8_earnedOn_81 : decode cX8_earnedOn 81 = .ok (.iinc 5 1, 3) := by decide +kernel
theorem dX8_earnedOn_84 : decode cX8_earnedOn 84 = .ok (.goto (-43), 3) := by decide +kernel
theorem dX8_earnedOn_87 : decode cX8_earnedOn 87 = .ok (.iload 4, 2) := by decide +kernel
theorem dX8_earnedOn_89 : decode cX8_earnedOn 89 = .ok (.ireturn, 1) := by decide +kernel
def lX8_earnedOn_41 (F : Nat)  (t : Nat) (a1 : Int32) : Nat → mS → Int32 → Int32 → Option (mS × Int32)
  | 0, _, _, _ => none
  | n + 1, S, v4, v5 => if (S.1 (t + 40 + 1) 5) ≤ v5 then (some (S, v4)) else (if (f_X3_isOpen S (t + 37) v5) = true then (bd (f_X8_rule F S t) fun q1 => bd (f_X3_earnedBy F S (t + 37) q1 (t + 40 + 1) v5) fun q2 => lX8_earnedOn_41 F  t a1 n q2.1 (v4 + q2.2) (v5 + 1)) else (lX8_earnedOn_41 F  t a1 n S v4 (v5 + 1)))
set_option maxHeartbeats 4000000 in
set_option maxRecDepth 100000 in
theorem gX8_earnedOn_41 {x : mX} {F : Nat} {t : Nat} {a1 : Int32}   {R : mS × Int32} (ht : kd0 t = 8)  : ∀ (n : Nat) (S : mS) (v4 : Int32) (v5 : Int32) (kr2 : kd0 (t + 40 + 1) = 6), lX8_earnedOn_41 F  t a1 n S v4 v5 = some R → mG x μX8_earnedOn 5 0 0 (mQe R.1 (some (.int R.2))) 0 0 E0 S 41 [(0, .ref (t)), (2, .ref (t + 40 + 1)), (4, .int (v4)), (5, .int (v5))] [] := by
  intro n
  induction n with
  | zero =>
    intro S v4 v5 kr2 h
    cases h
  | succ n ih =>
    intro S v4 v5 kr2 h
    unfold lX8_earnedOn_41 at h
    refine mG.iload 3 dX8_earnedOn_41 rfl ?_
    refine mG.aload_n 1 dX8_earnedOn_43 rfl ?_
    refine mG.get (v := .int (S.1 (t + 40 + 1) 5)) dX8_earnedOn_44 mfX8_183 kr2 rfl ?_
    refine mG.icmp_ge 87 dX8_earnedOn_47 (by decide) (fun c4 => ?_) (fun c4 => ?_)
    · replace h := itp c4 h
      refine mG.iload 2 dX8_earnedOn_87 rfl ?_
      obtain rfl := Option.some.inj h
      exact mG.iret dX8_earnedOn_89 rfl ⟨rfl, rfl, rfl⟩
    · replace h := itn c4 h
      refine mG.aload_n 0 dX8_earnedOn_50 rfl ?_
      refine mG.get (v := .ref (t + 37)) dX8_earnedOn_51 mfX8_34 ht (lr8_laws ht) ?_
      refine mG.iload 3 dX8_earnedOn_54 rfl ?_
      refine mG.callV0 (as := [.int (v5)]) (st := []) (S2 := S) (r := some (.int (bI (f_X3_isOpen S (t + 37) v5)))) dX8_earnedOn_56 mvX3_isOpen wk62_11 rfl (lk8_laws ht) rfl (by decide) (Nat.le_of_ble_eq_true rfl) (c_X3_isOpen (lk8_laws ht) rfl) ?_
      refine mG.ifz_eq (b := f_X3_isOpen S (t + 37) v5) 81 dX8_earnedOn_59 (by decide) (fun c3 => ?_) (fun c3 => ?_)
      · replace h := itn c3 h
        refine mG.iinc 3 (u := v5 + 1) (lv2 := [(5, .int (v5 + 1)), (0, .ref (t)), (2, .ref (t + 40 + 1)), (4, .int (v4))]) dX8_earnedOn_81 rfl rfl (by decide) rfl ?_
        refine mG.goto 41 dX8_earnedOn_84 (by decide) ?_
        refine mG.sub (lv2 := [(0, .ref (t)), (2, .ref (t + 40 + 1)), (4, .int (v4)), (5, .int (v5 + 1))]) [1, 2, 3, 0] rfl ?_
        exact ih S v4 (v5 + 1) kr2 h
      · replace h := itp c3 h
        refine mG.iload 2 dX8_earnedOn_62 rfl ?_
        refine mG.aload_n 0 dX8_earnedOn_64 rfl ?_
        refine mG.get (v := .ref (t + 37)) dX8_earnedOn_65 mfX8_34 ht (lr8_laws ht) ?_
        refine mG.aload_n 0 dX8_earnedOn_68 rfl ?_
        obtain ⟨q1, hq1, h⟩ := bdp h
        refine mG.callV0 (as := []) (st := [.ref (t + 37), .int (v4)]) (S2 := S) (r := some (.ref (q1))) dX8_earnedOn_69 mvX8_rule wk30_12 rfl ht rfl (by decide) (Nat.le_of_ble_eq_true rfl) (c_X8_rule ht hq1) ?_
        refine mG.aload_n 1 dX8_earnedOn_72 rfl ?_
        refine mG.iload 3 dX8_earnedOn_73 rfl ?_
        obtain ⟨q2, hq2, h⟩ := bdp h
        refine mG.callV0 (as := [.ref (q1), .ref (t + 40 + 1), .int (v5)]) (st := [.int (v4)]) (S2 := q2.1) (r := some (.int (q2.2))) dX8_earnedOn_75 mvX3_earnedBy wk45_1 rfl (lk8_laws ht) rfl (by decide) (Nat.le_of_ble_eq_true rfl) (c_X3_earnedBy (lk8_laws ht) (rk_X8_rule ht hq1) kr2 hq2) ?_
        refine mG.iadd dX8_earnedOn_78 ?_
        refine mG.istore (lv2 := [(4, .int (v4 + q2.2)), (0, .ref (t)), (2, .ref (t + 40 + 1)), (5, .int (v5))]) dX8_earnedOn_79 (by decide) rfl ?_
        refine mG.iinc 3 (u := v5 + 1) (lv2 := [(5, .int (v5 + 1)), (4, .int (v4 + q2.2)), (0, .ref (t)), (2, .ref (t + 40 + 1))]) dX8_earnedOn_81 rfl rfl (by decide) rfl ?_
        refine mG.goto 41 dX8_earnedOn_84 (by decide) ?_
        refine mG.sub (lv2 := [(0, .ref (t)), (2, .ref (t + 40 + 1)), (4, .int (v4 + q2.2)), (5, .int (v5 + 1))]) [2, 3, 1, 0] rfl ?_
        exact ih q2.1 (v4 + q2.2) (v5 + 1) kr2 h
def f_X8_earnedOn (F : Nat) (S : mS) (t : Nat) (a1 : Int32) : Option (mS × Int32) := bd (f_X3_lookAt F S (t + 37) (t + 40 + 1) ((S.1 (t + 40 + 1) 7) + (((a1 - (f_X6_date S (t + 40 + 1))) + (20 : Int32)) - ((a1 - (f_X6_date S (t + 40 + 1))) + (20 : Int32)) / (20 : Int32) * (20 : Int32)))) fun q1 => lX8_earnedOn_41 F  t a1 F q1 (0 : Int32) (0 : Int32)
set_option maxHeartbeats 4000000 in
set_option maxRecDepth 100000 in
theorem c_X8_earnedOn {F : Nat} {S : mS} {t : Nat} {a1 : Int32} {R : mS × Int32} (ht : kd0 t = 8) (h : f_X8_earnedOn F S t a1 = some R) : mCt μX8_earnedOn 5 0 0 E0 S [.ref (t), .int (a1)] (mQe R.1 (some (.int R.2))) := by
  unfold f_X8_earnedOn at h
  refine mCt.of (by decide) (Nat.le_of_ble_eq_true rfl) ?_
  intro x
  refine mG.aload_n 0 dX8_earnedOn_0 rfl ?_
  refine mG.get (v := .ref (t + 40)) dX8_earnedOn_1 mfX8_41 ht (lr8_now ht) ?_
  refine mG.get (v := .ref (t + 40 + 1)) dX8_earnedOn_4 mfX8_88 (lk8_now ht) (lr7_town (lk8_now ht)) ?_
  refine mG.astore_n (lv2 := [(2, .ref (t + 40 + 1)), (0, .ref (t)), (1, .int (a1))]) dX8_earnedOn_7 rfl (by decide) rfl ?_
  refine mG.iload_n 2 dX8_earnedOn_8 rfl ?_
  refine mG.aload_n 0 dX8_earnedOn_9 rfl ?_
  refine mG.callV0 (as := []) (st := [.int (a1)]) (S2 := S) (r := some (.int (f_X6_date S (t + 40 + 1)))) dX8_earnedOn_10 mvX6_date wk28_19 rfl (lk7_town (lk8_now ht)) rfl (by decide) (Nat.le_of_ble_eq_true rfl) (c_X6_date (lk7_town (lk8_now ht)) rfl) ?_
  refine mG.isub dX8_earnedOn_13 ?_
  refine mG.bipush (v := 20) dX8_earnedOn_14 (by decide) ?_
  refine mG.iadd dX8_earnedOn_16 ?_
  refine mG.bipush (v := 20) dX8_earnedOn_17 (by decide) ?_
  refine mG.irem dX8_earnedOn_19 (by decide) ?_
  refine mG.istore_n (lv2 := [(3, .int (((a1 - (f_X6_date S (t + 40 + 1))) + (20 : Int32)) - ((a1 - (f_X6_date S (t + 40 + 1))) + (20 : Int32)) / (20 : Int32) * (20 : Int32))), (2, .ref (t + 40 + 1)), (0, .ref (t)), (1, .int (a1))]) dX8_earnedOn_20 rfl (by decide) rfl ?_
  refine mG.aload_n 2 dX8_earnedOn_21 rfl ?_
  refine mG.get (v := .ref (t + 37)) dX8_earnedOn_22 mfX8_34 ht (lr8_laws ht) ?_
  refine mG.aload_n 1 dX8_earnedOn_25 rfl ?_
  refine mG.aload_n 1 dX8_earnedOn_26 rfl ?_
  refine mG.get (v := .int (S.1 (t + 40 + 1) 7)) dX8_earnedOn_27 mfX8_166 (lk7_town (lk8_now ht)) rfl ?_
  refine mG.iload_n 0 dX8_earnedOn_30 rfl ?_
  refine mG.iadd dX8_earnedOn_31 ?_
  obtain ⟨q1, hq1, h⟩ := bdp h
  refine mG.callV0 (as := [.ref (t + 40 + 1), .int ((S.1 (t + 40 + 1) 7) + (((a1 - (f_X6_date S (t + 40 + 1))) + (20 : Int32)) - ((a1 - (f_X6_date S (t + 40 + 1))) + (20 : Int32)) / (20 : Int32) * (20 : Int32)))]) (st := []) (S2 := q1) (r := none) dX8_earnedOn_32 mvX3_lookAt wk29_12 rfl (lk8_laws ht) rfl (by decide) (Nat.le_of_ble_eq_true rfl) (c_X3_lookAt (lk8_laws ht) (lk7_town (lk8_now ht)) hq1) ?_
  refine mG.iconst (v := 0) dX8_earnedOn_35 rfl ?_
  refine mG.istore (lv2 := [(4, .int 0), (3, .int (((a1 - (f_X6_date S (t + 40 + 1))) + (20 : Int32)) - ((a1 - (f_X6_date S (t + 40 + 1))) + (20 : Int32)) / (20 : Int32) * (20 : Int32))), (2, .ref (t + 40 + 1)), (0, .ref (t)), (1, .int (a1))]) dX8_earnedOn_36 (by decide) rfl ?_
  refine mG.iconst (v := 0) dX8_earnedOn_38 rfl ?_
  refine mG.istore (lv2 := [(5, .int 0), (4, .int 0), (3, .int (((a1 - (f_X6_date S (t + 40 + 1))) + (20 : Int32)) - ((a1 - (f_X6_date S (t + 40 + 1))) + (20 : Int32)) / (20 : Int32) * (20 : Int32))), (2, .ref (t + 40 + 1)), (0, .ref (t)), (1, .int (a1))]) dX8_earnedOn_39 (by decide) rfl ?_
  refine mG.sub (lv2 := [(0, .ref (t)), (2, .ref (t + 40 + 1)), (4, .int 0), (5, .int 0)]) [4, 3, 1, 0] rfl ?_
  exact gX8_earnedOn_41 ht  F q1 (0 : Int32) (0 : Int32) (lk7_town (lk8_now ht)) h
theorem dX8_richest_0 : decode cX8_richest 0 = .ok (.iconst 0, 1) := by decide +kernel
theorem dX8_richest_1 : decode cX8_richest 1 = .ok (.istore_n 2, 1) := by decide +kernel
theorem dX8_richest_2 : decode cX8_richest 2 = .ok (.iconst (-1), 1) := by decide +kernel
theorem dX8_richest_3 : decode cX8_richest 3 = .ok (.istore_n 3, 1) := by decide +kernel
theorem dX8_richest_4 : decode cX8_richest 4 = .ok (.iconst 0, 1) := by decide +kernel
theorem dX8_richest_5 : decode cX8_richest 5 = .ok (.istore 4, 2) := by decide +kernel
theorem dX8_richest_7 : decode cX8_richest 7 = .ok (.iload 4, 2) := by decide +kernel
theorem dX8_richest_9 : decode cX8_richest 9 = .ok (.bipush 20, 2) := by decide +kernel
theorem dX8_richest_11 : decode cX8_richest 11 = .ok (.if_icmp .ge 29, 3) := by decide +kernel
theorem dX8_richest_14 : decode cX8_richest 14 = .ok (.aload_n 0, 1) := by decide +kernel
theorem dX8_richest_15 : decode cX8_richest 15 = .ok (.iload 4, 2) := by decide +kernel
theorem dX8_richest_17 : decode cX8_richest 17 = .ok (.invokevirtual 335, 3) := by decide +kernel
theorem dX8_richest_20 : decode cX8_richest 20 = .ok (.istore 5, 2) := by decide +kernel
theorem dX8_richest_22 : decode cX8_richest 22 = .ok (.iload 5, 2) := by decide +kernel
theorem dX8_richest_24 : decode cX8_richest 24 = .ok (.iload_n 3, 1) := by decide +kernel
theorem dX8_richest_25 : decode cX8_richest 25 = .ok (.if_icmp .le 9, 3) := by decide +kernel
theorem dX8_richest_28 : decode cX8_richest 28 = .ok (.iload 5, 2) := by decide +kernel
theorem dX8_richest_30 : decode cX8_richest 30 = .ok (.istore_n 3, 1) := by decide +kernel
theorem dX8_richest_31 : decode cX8_richest 31 = .ok (.iload 4, 2) := by decide +kernel
theorem dX8_richest_33 : decode cX8_richest 33 = .ok (.istore_n 2, 1) := by decide +kernel
theorem dX8_richest_34 : decode cX8_richest 34 = .ok (.iinc 4 1, 3) := by decide +kernel
theorem dX8_richest_37 : decode cX8_richest 37 = .ok (.goto (-30), 3) := by decide +kernel
theorem dX8_richest_40 : decode cX8_richest 40 = .ok (.iload_n 1, 1) := by decide +kernel
theorem dX8_richest_41 : decode cX8_richest 41 = .ok (.ifCond .eq 7, 3) := by decide +kernel
theorem dX8_richest_44 : decode cX8_richest 44 = .ok (.iload_n 3, 1) := by decide +kernel
theorem dX8_richest_45 : decode cX8_richest 45 = .ok (.goto 4, 3) := by decide +kernel
theorem dX8_richest_48 : decode cX8_richest 48 = .ok (.iload_n 2, 1) := by decide +kernel
theorem dX8_richest_49 : decode cX8_richest 49 = .ok (.ireturn, 1) := by decide +kernel
def lX8_richest_7 (F : Nat)  (t : Nat) (a1 : Int32) : Nat → mS → Int32 → Int32 → Int32 → Option (mS × Int32)
  | 0, _, _, _, _ => none
  | n + 1, S, v2, v3, v4 => if (20 : Int32) ≤ v4 then (if a1 = 0 then (some (S, v2)) else (some (S, v3))) else (bd (f_X8_earnedOn F S t v4) fun q2 => if q2.2 ≤ v3 then (lX8_richest_7 F  t a1 n q2.1 v2 v3 (v4 + 1)) else (lX8_richest_7 F  t a1 n q2.1 v4 q2.2 (v4 + 1)))
set_option maxHeartbeats 4000000 in
set_option maxRecDepth 100000 in
theorem gX8_richest_7 {x : mX} {F : Nat} {t : Nat} {a1 : Int32}   {R : mS × Int32} (ht : kd0 t = 8)  : ∀ (n : Nat) (S : mS) (v2 : Int32) (v3 : Int32) (v4 : Int32), lX8_richest_7 F  t a1 n S v2 v3 v4 = some R → mG x μX8_richest 6 0 0 (mQe R.1 (some (.int R.2))) 0 0 E0 S 7 [(0, .ref (t)), (1, .int (a1)), (2, .int (v2)), (3, .int (v3)), (4, .int (v4))] [] := by
  intro n
  induction n with
  | zero =>
    intro S v2 v3 v4 h
    cases h
  | succ n ih =>
    intro S v2 v3 v4 h
    unfold lX8_richest_7 at h
    refine mG.iload 4 dX8_richest_7 rfl ?_
    refine mG.bipush (v := 20) dX8_richest_9 (by decide) ?_
    refine mG.icmp_ge 40 dX8_richest_11 (by decide) (fun c4 => ?_) (fun c4 => ?_)
    · replace h := itp c4 h
      refine mG.iload_n 1 dX8_richest_40 rfl ?_
      refine mG.if_eq 48 dX8_richest_41 (by decide) (fun c1 => ?_) (fun c1 => ?_)
      · replace h := itp c1 h
        refine mG.iload_n 2 dX8_richest_48 rfl ?_
        obtain rfl := Option.some.inj h
        exact mG.iret dX8_richest_49 rfl ⟨rfl, rfl, rfl⟩
      · replace h := itn c1 h
        refine mG.iload_n 3 dX8_richest_44 rfl ?_
        refine mG.goto 49 dX8_richest_45 (by decide) ?_
        obtain rfl := Option.some.inj h
        exact mG.iret dX8_richest_49 rfl ⟨rfl, rfl, rfl⟩
    · replace h := itn c4 h
      refine mG.aload_n 0 dX8_richest_14 rfl ?_
      refine mG.iload 4 dX8_richest_15 rfl ?_
      obtain ⟨q2, hq2, h⟩ := bdp h
      refine mG.callV0 (as := [.int (v4)]) (st := []) (S2 := q2.1) (r := some (.int (q2.2))) dX8_richest_17 mvX8_earnedOn wk62_7 rfl ht rfl (by decide) (Nat.le_of_ble_eq_true rfl) (c_X8_earnedOn ht hq2) ?_
      refine mG.istore (lv2 := [(5, .int (q2.2)), (0, .ref (t)), (1, .int (a1)), (2, .int (v2)), (3, .int (v3)), (4, .int (v4))]) dX8_richest_20 (by decide) rfl ?_
      refine mG.iload 0 dX8_richest_22 rfl ?_
      refine mG.iload_n 4 dX8_richest_24 rfl ?_
      refine mG.icmp_le 34 dX8_richest_25 (by decide) (fun c3 => ?_) (fun c3 => ?_)
      · replace h := itp c3 h
        refine mG.iinc 5 (u := v4 + 1) (lv2 := [(4, .int (v4 + 1)), (5, .int (q2.2)), (0, .ref (t)), (1, .int (a1)), (2, .int (v2)), (3, .int (v3))]) dX8_richest_34 rfl rfl (by decide) rfl ?_
        refine mG.goto 7 dX8_richest_37 (by decide) ?_
        refine mG.sub (lv2 := [(0, .ref (t)), (1, .int (a1)), (2, .int (v2)), (3, .int (v3)), (4, .int (v4 + 1))]) [2, 3, 4, 5, 0] rfl ?_
        exact ih q2.1 v2 v3 (v4 + 1)  h
      · replace h := itn c3 h
        refine mG.iload 0 dX8_richest_28 rfl ?_
        refine mG.istore_n (lv2 := [(3, .int (q2.2)), (5, .int (q2.2)), (0, .ref (t)), (1, .int (a1)), (2, .int (v2)), (4, .int (v4))]) dX8_richest_30 rfl (by decide) rfl ?_
        refine mG.iload 5 dX8_richest_31 rfl ?_
        refine mG.istore_n (lv2 := [(2, .int (v4)), (3, .int (q2.2)), (5, .int (q2.2)), (0, .ref (t)), (1, .int (a1)), (4, .int (v4))]) dX8_richest_33 rfl (by decide) rfl ?_
        refine mG.iinc 5 (u := v4 + 1) (lv2 := [(4, .int (v4 + 1)), (2, .int (v4)), (3, .int (q2.2)), (5, .int (q2.2)), (0, .ref (t)), (1, .int (a1))]) dX8_richest_34 rfl rfl (by decide) rfl ?_
        refine mG.goto 7 dX8_richest_37 (by decide) ?_
        refine mG.sub (lv2 := [(0, .ref (t)), (1, .int (a1)), (2, .int (v4)), (3, .int (q2.2)), (4, .int (v4 + 1))]) [4, 5, 1, 2, 0] rfl ?_
        exact ih q2.1 v4 q2.2 (v4 + 1)  h
def f_X8_richest (F : Nat) (S : mS) (t : Nat) (a1 : Int32) : Option (mS × Int32) := lX8_richest_7 F  t a1 F S (0 : Int32) (-1 : Int32) (0 : Int32)
set_option maxHeartbeats 4000000 in
set_option maxRecDepth 100000 in
theorem c_X8_richest {F : Nat} {S : mS} {t : Nat} {a1 : Int32} {R : mS × Int32} (ht : kd0 t = 8) (h : f_X8_richest F S t a1 = some R) : mCt μX8_richest 6 0 0 E0 S [.ref (t), .int (a1)] (mQe R.1 (some (.int R.2))) := by
  unfold f_X8_richest at h
  refine mCt.of (by decide) (Nat.le_of_ble_eq_true rfl) ?_
  intro x
  refine mG.iconst (v := 0) dX8_richest_0 rfl ?_
  refine mG.istore_n (lv2 := [(2, .int 0), (0, .ref (t)), (1, .int (a1))]) dX8_richest_1 rfl (by decide) rfl ?_
  refine mG.iconst (v := (-1)) dX8_richest_2 rfl ?_
  refine mG.istore_n (lv2 := [(3, .int (-1)), (2, .int 0), (0, .ref (t)), (1, .int (a1))]) dX8_richest_3 rfl (by decide) rfl ?_
  refine mG.iconst (v := 0) dX8_richest_4 rfl ?_
  refine mG.istore (lv2 := [(4, .int 0), (3, .int (-1)), (2, .int 0), (0, .ref (t)), (1, .int (a1))]) dX8_richest_5 (by decide) rfl ?_
  refine mG.sub (lv2 := [(0, .ref (t)), (1, .int (a1)), (2, .int 0), (3, .int (-1)), (4, .int 0)]) [3, 4, 2, 1, 0] rfl ?_
  exact gX8_richest_7 ht  F S (0 : Int32) (-1 : Int32) (0 : Int32)  h
theorem dX8_whose_0 : decode cX8_whose 0 = .ok (.iload_n 1, 1) := by decide +kernel
theorem dX8_whose_1 : decode cX8_whose 1 = .ok (.iconst 1, 1) := by decide +kernel
theorem dX8_whose_2 : decode cX8_whose 2 = .ok (.bipush 60, 2) := by decide +kernel
theorem dX8_whose_4 : decode cX8_whose 4 = .ok (.invokestatic 84, 3) := by decide +kernel
theorem dX8_whose_7 : decode cX8_whose 7 = .ok (.ifCond .ne 5, 3) := by decide +kernel
theorem dX8_whose_10 : decode cX8_whose 10 = .ok (.iconst (-1), 1) := by decide +kernel
theorem dX8_whose_11 : decode cX8_whose 11 = .ok (.ireturn, 1) := by decide +kernel
theorem dX8_whose_12 : decode cX8_whose 12 = .ok (.iconst (-1), 1) := by decide +kernel
theorem dX8_whose_13 : decode cX8_whose 13 = .ok (.istore_n 2, 1) := by decide +kernel
theorem dX8_whose_14 : decode cX8_whose 14 = .ok (.iconst (-1), 1) := by decide +kernel
theorem dX8_whose_15 : decode cX8_whose 15 = .ok (.istore_n 3, 1) := by decide +kernel
theorem dX8_whose_16 : decode cX8_whose 16 = .ok (.iconst 0, 1) := by decide +kernel
theorem dX8_whose_17 : decode cX8_whose 17 = .ok (.istore 4, 2) := by decide +kernel
theorem dX8_whose_19 : decode cX8_whose 19 = .ok (.iload 4, 2) := by decide +kernel
theorem dX8_whose_21 : decode cX8_whose 21 = .ok (.aload_n 0, 1) := by decide +kernel
theorem dX8_whose_22 : decode cX8_whose 22 = .ok (.getfield 41, 3) := by decide +kernel
theorem dX8_whose_25 : decode cX8_whose 25 = .ok (.getfield 107, 3) := by decide +kernel
theorem dX8_whose_28 : decode cX8_whose 28 = .ok (.if_icmp .ge 48, 3) := by decide +kernel
theorem dX8_whose_31 : decode cX8_whose 31 = .ok (.iload 4, 2) := by decide +kernel
theorem dX8_whose_33 : decode cX8_whose 33 = .ok (.iconst 4, 1) := by decide +kernel
theorem dX8_whose_34 : decode cX8_whose 34 = .ok (.if_icmp .ge 42, 3) := by decide +kernel
theorem dX8_whose_37 : decode cX8_whose 37 = .ok (.aload_n 0, 1) := by decide +kernel
theorem dX8_whose_38 : decode cX8_whose 38 = .ok (.iload_n 1, 1) := by decide +kernel
theorem dX8_whose_39 : decode cX8_whose 39 = .ok (.aload_n 0, 1) := by decide +kernel
theorem dX8_whose_40 : decode cX8_whose 40 = .ok (.getfield 22, 3) := by decide +kernel
theorem dX8_whose_43 : decode cX8_whose 43 = .ok (.iload 4, 2) := by decide +kernel
theorem dX8_whose_45 : decode cX8_whose 45 = .ok (.aaload, 1) := by decide +kernel
theorem dX8_whose_46 : decode cX8_whose 46 = .ok (.invokevirtual 240, 3) := by decide +kernel
theorem dX8_whose_49 : decode cX8_whose 49 = .ok (.aload_n 0, 1) := by decide +kernel
theorem dX8_whose_50 : decode cX8_whose 50 = .ok (.getfield 51, 3) := by decide +kernel
theorem dX8_whose_53 : decode cX8_whose 53 = .ok (.invokevirtual 338, 3) := by decide +kernel
theorem dX8_whose_56 : decode cX8_whose 56 = .ok (.istore 5, 2) := by decide +kernel
theorem dX8_whose_58 : decode cX8_whose 58 = .ok (.iload 5, 2) := by decide +kernel
theorem dX8_whose_60 : decode cX8_whose 60 = .ok (.iload_n 3, 1) := by decide +kernel
theorem dX8_whose_61 : decode cX8_whose 61 = .ok (.if_icmp .le 9, 3) := by decide +kernel
theorem dX8_whose_64 : decode cX8_whose 64 = .ok (.iload 5, 2) := by decide +kernel
theorem dX8_whose_66 : decode cX8_whose 66 = .ok (.istore_n 3, 1) := by decide +kernel
theorem dX8_whose_67 : decode cX8_whose 67 = .ok (.iload 4, 2) := by decide +kernel
theorem dX8_whose_69 : decode cX8_whose 69 = .ok (.istore_n 2, 1) := by decide +kernel
theorem dX8_whose_70 : decode cX8_whose 70 = .ok (.iinc 4 1, 3) := by decide +kernel
theorem dX8_whose_73 : decode cX8_whose 73 = .ok (.goto (-54), 3) := by decide +kernel
theorem dX8_whose_76 : decode cX8_whose 76 = .ok (.iload_n 2, 1) := by decide +kernel
theorem dX8_whose_77 : decode cX8_whose 77 = .ok (.ireturn, 1) := by decide +kernel
def lX8_whose_19 (F : Nat)  (t : Nat) (a1 : Int32) : Nat → mS → Int32 → Int32 → Int32 → Option (mS × Int32)
  | 0, _, _, _, _ => none
  | n + 1, S, v2, v3, v4 => if (S.1 (t + 40) 4) ≤ v4 then (some (S, v2)) else (if (4 : Int32) ≤ v4 then (some (S, v2)) else (ck (inb v4 4) (bd (f_X8_tryDays F S t a1 (t + 11 + 1 + 5 * v4.toNatClampNeg)) fun q2 => bd (f_X6_wealth F q2 (t + 364)) fun q3 => if q3 ≤ v3 then (lX8_whose_19 F  t a1 n q2 v2 v3 (v4 + 1)) else (lX8_whose_19 F  t a1 n q2 v4 q3 (v4 + 1)))))
set_option maxHeartbeats 4000000 in
set_option maxRecDepth 100000 in
theorem gX8_whose_19 {x : mX} {F : Nat} {t : Nat} {a1 : Int32}   {R : mS × Int32} (ht : kd0 t = 8)  : ∀ (n : Nat) (S : mS) (v2 : Int32) (v3 : Int32) (v4 : Int32), lX8_whose_19 F  t a1 n S v2 v3 v4 = some R → mG x μX8_whose 7 0 0 (mQe R.1 (some (.int R.2))) 0 0 E0 S 19 [(0, .ref (t)), (1, .int (a1)), (2, .int (v2)), (3, .int (v3)), (4, .int (v4))] [] := by
  intro n
  induction n with
  | zero =>
    intro S v2 v3 v4 h
    cases h
  | succ n ih =>
    intro S v2 v3 v4 h
    unfold lX8_whose_19 at h
    refine mG.iload 4 dX8_whose_19 rfl ?_
    refine mG.aload_n 0 dX8_whose_21 rfl ?_
    refine mG.get (v := .ref (t + 40)) dX8_whose_22 mfX8_41 ht (lr8_now ht) ?_
    refine mG.get (v := .int (S.1 (t + 40) 4)) dX8_whose_25 mfX8_107 (lk8_now ht) rfl ?_
    refine mG.icmp_ge 76 dX8_whose_28 (by decide) (fun c6 => ?_) (fun c6 => ?_)
    · replace h := itp c6 h
      refine mG.iload_n 2 dX8_whose_76 rfl ?_
      obtain rfl := Option.some.inj h
      exact mG.iret dX8_whose_77 rfl ⟨rfl, rfl, rfl⟩
    · replace h := itn c6 h
      refine mG.iload 4 dX8_whose_31 rfl ?_
      refine mG.iconst (v := 4) dX8_whose_33 rfl ?_
      refine mG.icmp_ge 76 dX8_whose_34 (by decide) (fun c5 => ?_) (fun c5 => ?_)
      · replace h := itp c5 h
        refine mG.iload_n 2 dX8_whose_76 rfl ?_
        obtain rfl := Option.some.inj h
        exact mG.iret dX8_whose_77 rfl ⟨rfl, rfl, rfl⟩
      · replace h := itn c5 h
        refine mG.aload_n 0 dX8_whose_37 rfl ?_
        refine mG.iload_n 1 dX8_whose_38 rfl ?_
        refine mG.aload_n 0 dX8_whose_39 rfl ?_
        refine mG.get (v := .ref (t + 11)) dX8_whose_40 mfX8_22 ht (lr8_texts ht) ?_
        refine mG.iload 4 dX8_whose_43 rfl ?_
        obtain ⟨b1, h⟩ := ckp h
        refine mG.aald14 (u := t + 11 + 1 + 5 * v4.toNatClampNeg) dX8_whose_45 (lk8_texts ht) (ll8_texts ht) (inbp b1) (la14 (lk8_texts ht) _ (inbN (inbp b1))) ?_
        obtain ⟨q2, hq2, h⟩ := bdp h
        refine mG.callV0 (as := [.int (a1), .ref (t + 11 + 1 + 5 * v4.toNatClampNeg)]) (st := []) (S2 := q2) (r := none) dX8_whose_46 mvX8_tryDays wk46_23 rfl ht rfl (by decide) (Nat.le_of_ble_eq_true rfl) (c_X8_tryDays ht (lay14 (lk8_texts ht) (inbN (inbp b1))) hq2) ?_
        refine mG.aload_n 0 dX8_whose_49 rfl ?_
        refine mG.get (v := .ref (t + 364)) dX8_whose_50 mfX8_51 ht (lr8_trial ht) ?_
        obtain ⟨q3, hq3, h⟩ := bdp h
        refine mG.callV0 (as := []) (st := []) (S2 := q2) (r := some (.int (q3))) dX8_whose_53 mvX6_wealth wk63_0 rfl (lk8_trial ht) rfl (by decide) (Nat.le_of_ble_eq_true rfl) (c_X6_wealth (lk8_trial ht) hq3) ?_
        refine mG.istore (lv2 := [(5, .int (q3)), (0, .ref (t)), (1, .int (a1)), (2, .int (v2)), (3, .int (v3)), (4, .int (v4))]) dX8_whose_56 (by decide) rfl ?_
        refine mG.iload 0 dX8_whose_58 rfl ?_
        refine mG.iload_n 4 dX8_whose_60 rfl ?_
        refine mG.icmp_le 70 dX8_whose_61 (by decide) (fun c4 => ?_) (fun c4 => ?_)
        · replace h := itp c4 h
          refine mG.iinc 5 (u := v4 + 1) (lv2 := [(4, .int (v4 + 1)), (5, .int (q3)), (0, .ref (t)), (1, .int (a1)), (2, .int (v2)), (3, .int (v3))]) dX8_whose_70 rfl rfl (by decide) rfl ?_
          refine mG.goto 19 dX8_whose_73 (by decide) ?_
          refine mG.sub (lv2 := [(0, .ref (t)), (1, .int (a1)), (2, .int (v2)), (3, .int (v3)), (4, .int (v4 + 1))]) [2, 3, 4, 5, 0] rfl ?_
          exact ih q2 v2 v3 (v4 + 1)  h
        · replace h := itn c4 h
          refine mG.iload 0 dX8_whose_64 rfl ?_
          refine mG.istore_n (lv2 := [(3, .int (q3)), (5, .int (q3)), (0, .ref (t)), (1, .int (a1)), (2, .int (v2)), (4, .int (v4))]) dX8_whose_66 rfl (by decide) rfl ?_
          refine mG.iload 5 dX8_whose_67 rfl ?_
          refine mG.istore_n (lv2 := [(2, .int (v4)), (3, .int (q3)), (5, .int (q3)), (0, .ref (t)), (1, .int (a1)), (4, .int (v4))]) dX8_whose_69 rfl (by decide) rfl ?_
          refine mG.iinc 5 (u := v4 + 1) (lv2 := [(4, .int (v4 + 1)), (2, .int (v4)), (3, .int (q3)), (5, .int (q3)), (0, .ref (t)), (1, .int (a1))]) dX8_whose_70 rfl rfl (by decide) rfl ?_
          refine mG.goto 19 dX8_whose_73 (by decide) ?_
          refine mG.sub (lv2 := [(0, .ref (t)), (1, .int (a1)), (2, .int (v4)), (3, .int (q3)), (4, .int (v4 + 1))]) [4, 5, 1, 2, 0] rfl ?_
          exact ih q2 v4 q3 (v4 + 1)  h
def f_X8_whose (F : Nat) (S : mS) (t : Nat) (a1 : Int32) : Option (mS × Int32) := if (f_X8_isWithin S a1 (1 : Int32) (60 : Int32)) = true then (lX8_whose_19 F  t a1 F S (-1 : Int32) (-1 : Int32) (0 : Int32)) else (some (S, (-1 : Int32)))
set_option maxHeartbeats 4000000 in
set_option maxRecDepth 100000 in
theorem c_X8_whose {F : Nat} {S : mS} {t : Nat} {a1 : Int32} {R : mS × Int32} (ht : kd0 t = 8) (h : f_X8_whose F S t a1 = some R) : mCt μX8_whose 7 0 0 E0 S [.ref (t), .int (a1)] (mQe R.1 (some (.int R.2))) := by
  unfold f_X8_whose at h
  refine mCt.of (by decide) (Nat.le_of_ble_eq_true rfl) ?_
  intro x
  refine mG.iload_n 1 dX8_whose_0 rfl ?_
  refine mG.iconst (v := 1) dX8_whose_1 rfl ?_
  refine mG.bipush (v := 60) dX8_whose_2 (by decide) ?_
  refine mG.callS0 (as := [.int (a1), .int 1, .int 60]) (st := []) (S2 := S) (r := some (.int (bI (f_X8_isWithin S a1 (1 : Int32) (60 : Int32))))) dX8_whose_4 mbX8_isWithin wk6_19 wk6_18 rfl rfl (by decide) (Nat.le_of_ble_eq_true rfl) (c_X8_isWithin  rfl) ?_
  refine mG.ifz_ne (b := f_X8_isWithin S a1 (1 : Int32) (60 : Int32)) 12 dX8_whose_7 (by decide) (fun c1 => ?_) (fun c1 => ?_)
  · replace h := itp c1 h
    refine mG.iconst (v := (-1)) dX8_whose_12 rfl ?_
    refine mG.istore_n (lv2 := [(2, .int (-1)), (0, .ref (t)), (1, .int (a1))]) dX8_whose_13 rfl (by decide) rfl ?_
    refine mG.iconst (v := (-1)) dX8_whose_14 rfl ?_
    refine mG.istore_n (lv2 := [(3, .int (-1)), (2, .int (-1)), (0, .ref (t)), (1, .int (a1))]) dX8_whose_15 rfl (by decide) rfl ?_
    refine mG.iconst (v := 0) dX8_whose_16 rfl ?_
    refine mG.istore (lv2 := [(4, .int 0), (3, .int (-1)), (2, .int (-1)), (0, .ref (t)), (1, .int (a1))]) dX8_whose_17 (by decide) rfl ?_
    refine mG.sub (lv2 := [(0, .ref (t)), (1, .int (a1)), (2, .int (-1)), (3, .int (-1)), (4, .int 0)]) [3, 4, 2, 1, 0] rfl ?_
    exact gX8_whose_19 ht  F S (-1 : Int32) (-1 : Int32) (0 : Int32)  h
  · replace h := itn c1 h
    refine mG.iconst (v := (-1)) dX8_whose_10 rfl ?_
    obtain rfl := Option.some.inj h
    exact mG.iret dX8_whose_11 rfl ⟨rfl, rfl, rfl⟩
theorem dX8_knocks_0 : decode cX8_knocks 0 = .ok (.iload_n 1, 1) := by decide +kernel
theorem dX8_knocks_1 : decode cX8_knocks 1 = .ok (.iconst (-1), 1) := by decide +kernel
theorem dX8_knocks_2 : decode cX8_knocks 2 = .ok (.if_icmp .eq 20, 3) := by decide +kernel
theorem dX8_knocks_5 : decode cX8_knocks 5 = .ok (.aload_n 0, 1) := by decide +kernel
theorem dX8_knocks_6 : decode cX8_knocks 6 = .ok (.getfield 41, 3) := by decide +kernel
theorem dX8_knocks_9 : decode cX8_knocks 9 = .ok (.getfield 88, 3) := by decide +kernel
theorem dX8_knocks_12 : decode cX8_knocks 12 = .ok (.iload_n 1, 1) := by decide +kernel
theorem dX8_knocks_13 : decode cX8_knocks 13 = .ok (.invokevirtual 195, 3) := by decide +kernel
theorem dX8_knocks_16 : decode cX8_knocks 16 = .ok (.ifCond .ne 6, 3) := by decide +kernel
theorem dX8_knocks_19 : decode cX8_knocks 19 = .ok (.bipush (-2), 2) := by decide +kernel
theorem dX8_knocks_21 : decode cX8_knocks 21 = .ok (.ireturn, 1) := by decide +kernel
theorem dX8_knocks_22 : decode cX8_knocks 22 = .ok (.aload_n 0, 1) := by decide +kernel
theorem dX8_knocks_23 : decode cX8_knocks 23 = .ok (.getfield 41, 3) := by decide +kernel
theorem dX8_knocks_26 : decode cX8_knocks 26 = .ok (.getfield 88, 3) := by decide +kernel
theorem dX8_knocks_29 : decode cX8_knocks 29 = .ok (.iload_n 1, 1) := by decide +kernel
theorem dX8_knocks_30 : decode cX8_knocks 30 = .ok (.iload_n 2, 1) := by decide +kernel
theorem dX8_knocks_31 : decode cX8_knocks 31 = .ok (.invokevirtual 341, 3) := by decide +kernel
theorem dX8_knocks_34 : decode cX8_knocks 34 = .ok (.ireturn, 1) := by decide +kernel
def f_X8_knocks (F : Nat) (S0 : mS) (t : Nat) (a1 : Int32) (a2 : Int32) : Option Int32 := if a1 = (-1 : Int32) then (bd (f_X6_howManyKnocks F S0 (t + 40 + 1) a1 a2) fun q1 => some q1) else (if (f_X6_told S0 (t + 40 + 1) a1) = true then (bd (f_X6_howManyKnocks F S0 (t + 40 + 1) a1 a2) fun q2 => some q2) else (some (-2 : Int32)))
set_option maxHeartbeats 4000000 in
set_option maxRecDepth 100000 in
theorem c_X8_knocks {F : Nat} {S0 : mS} {t : Nat} {a1 : Int32} {a2 : Int32} {R : Int32} (ht : kd0 t = 8) (h : f_X8_knocks F S0 t a1 a2 = some R) : mCt μX8_knocks 4 0 0 E0 S0 [.ref (t), .int (a1), .int (a2)] (mQe S0 (some (.int R))) := by
  unfold f_X8_knocks at h
  refine mCt.of (by decide) (Nat.le_of_ble_eq_true rfl) ?_
  intro x
  refine mG.iload_n 1 dX8_knocks_0 rfl ?_
  refine mG.iconst (v := (-1)) dX8_knocks_1 rfl ?_
  refine mG.icmp_eq 22 dX8_knocks_2 (by decide) (fun c4 => ?_) (fun c4 => ?_)
  · replace h := itp c4 h
    refine mG.aload_n 0 dX8_knocks_22 rfl ?_
    refine mG.get (v := .ref (t + 40)) dX8_knocks_23 mfX8_41 ht (lr8_now ht) ?_
    refine mG.get (v := .ref (t + 40 + 1)) dX8_knocks_26 mfX8_88 (lk8_now ht) (lr7_town (lk8_now ht)) ?_
    refine mG.iload_n 1 dX8_knocks_29 rfl ?_
    refine mG.iload_n 2 dX8_knocks_30 rfl ?_
    obtain ⟨q1, hq1, h⟩ := bdp h
    refine mG.callV0 (as := [.int (a1), .int (a2)]) (st := []) (S2 := S0) (r := some (.int (q1))) dX8_knocks_31 mvX6_howManyKnocks wk63_12 rfl (lk7_town (lk8_now ht)) rfl (by decide) (Nat.le_of_ble_eq_true rfl) (c_X6_howManyKnocks (lk7_town (lk8_now ht)) hq1) ?_
    obtain rfl := Option.some.inj h
    exact mG.iret dX8_knocks_34 rfl ⟨rfl, rfl, rfl⟩
  · replace h := itn c4 h
    refine mG.aload_n 0 dX8_knocks_5 rfl ?_
    refine mG.get (v := .ref (t + 40)) dX8_knocks_6 mfX8_41 ht (lr8_now ht) ?_
    refine mG.get (v := .ref (t + 40 + 1)) dX8_knocks_9 mfX8_88 (lk8_now ht) (lr7_town (lk8_now ht)) ?_
    refine mG.iload_n 1 dX8_knocks_12 rfl ?_
    refine mG.callV0 (as := [.int (a1)]) (st := []) (S2 := S0) (r := some (.int (bI (f_X6_told S0 (t + 40 + 1) a1)))) dX8_knocks_13 mvX6_told wk44_19 rfl (lk7_town (lk8_now ht)) rfl (by decide) (Nat.le_of_ble_eq_true rfl) (c_X6_told (lk7_town (lk8_now ht)) rfl) ?_
    refine mG.ifz_ne (b := f_X6_told S0 (t + 40 + 1) a1) 22 dX8_knocks_16 (by decide) (fun c3 => ?_) (fun c3 => ?_)
    · replace h := itp c3 h
      refine mG.aload_n 0 dX8_knocks_22 rfl ?_
      refine mG.get (v := .ref (t + 40)) dX8_knocks_23 mfX8_41 ht (lr8_now ht) ?_
      refine mG.get (v := .ref (t + 40 + 1)) dX8_knocks_26 mfX8_88 (lk8_now ht) (lr7_town (lk8_now ht)) ?_
      refine mG.iload_n 1 dX8_knocks_29 rfl ?_
      refine mG.iload_n 2 dX8_knocks_30 rfl ?_
      obtain ⟨q2, hq2, h⟩ := bdp h
      refine mG.callV0 (as := [.int (a1), .int (a2)]) (st := []) (S2 := S0) (r := some (.int (q2))) dX8_knocks_31 mvX6_howManyKnocks wk63_12 rfl (lk7_town (lk8_now ht)) rfl (by decide) (Nat.le_of_ble_eq_true rfl) (c_X6_howManyKnocks (lk7_town (lk8_now ht)) hq2) ?_
      obtain rfl := Option.some.inj h
      exact mG.iret dX8_knocks_34 rfl ⟨rfl, rfl, rfl⟩
    · replace h := itn c3 h
      refine mG.bipush (v := (-2)) dX8_knocks_19 (by decide) ?_
      obtain rfl := Option.some.inj h
      exact mG.iret dX8_knocks_21 rfl ⟨rfl, rfl, rfl⟩
theorem dX8_offended_0 : decode cX8_offended 0 = .ok (.iconst (-1), 1) := by decide +kernel
theorem dX8_offended_1 : decode cX8_offended 1 = .ok (.istore_n 1, 1) := by decide +kernel
theorem dX8_offended_2 : decode cX8_offended 2 = .ok (.iconst 0, 1) := by decide +kernel
theorem dX8_offended_3 : decode cX8_offended 3 = .ok (.istore_n 2, 1) := by decide +kernel
theorem dX8_offended_4 : decode cX8_offended 4 = .ok (.iconst 0, 1) := by decide +kernel
theorem dX8_offended_5 : decode cX8_offended 5 = .ok (.istore_n 3, 1) := by decide +kernel
theorem dX8_offended_6 : decode cX8_offended 6 = .ok (.iload_n 3, 1) := by decide +kernel
theorem dX8_offended_7 : decode cX8_offended 7 = .ok (.aload_n 0, 1) := by decide +kernel
theorem dX8_offended_8 : decode cX8_offended 8 = .ok (.getfield 41, 3) := by decide +kernel
theorem dX8_offended_11 : decode cX8_offended 11 = .ok (.getfield 88, 3) := by decide +kernel
theorem dX8_offended_14 : decode cX8_offended 14 = .ok (.getfield 183, 3) := by decide +kernel
theorem dX8_offended_17 : decode cX8_offended 17 = .ok (.if_icmp .ge 34, 3) := by decide +kernel
theorem dX8_offended_20 : decode cX8_offended 20 = .ok (.aload_n 0, 1) := by decide +kernel
theorem dX8_offended_21 : decode cX8_offended 21 = .ok (.getfield 41, 3) := by decide +kernel
theorem dX8_offended_24 : decode cX8_offended 24 = .ok (.getfield 88, 3) := by decide +kernel
theorem dX8_offended_27 : decode cX8_offended 27 = .ok (.iload_n 3, 1) := by decide +kernel
theorem dX8_offended_28 : decode cX8_offended 28 = .ok (.iconst 1, 1) := by decide +kernel
theorem dX8_offended_29 : decode cX8_offended 29 = .ok (.invokevirtual 341, 3) := by decide +kernel
theorem dX8_offended_32 : decode cX8_offended 32 = .ok (.istore 4, 2) := by decide +kernel
theorem dX8_offended_34 : decode cX8_offended 34 = .ok (.iload 4, 2) := by decide +kernel
theorem dX8_offended_36 : decode cX8_offended 36 = .ok (.iload_n 2, 1) := by decide +kernel
theorem dX8_offended_37 : decode cX8_offended 37 = .ok (.if_icmp .le 8, 3) := by decide +kernel
theorem dX8_offended_40 : decode cX8_offended 40 = .ok (.iload 4, 2) := by decide +kernel
theorem dX8_offended_42 : decode cX8_offended 42 = .ok (.istore_n 2, 1) := by decide +kernel
theorem dX8_offended_43 : decode cX8_offended 43 = .ok (.iload_n 3, 1) := by decide +kernel
theorem dX8_offended_44 : decode cX8_offended 44 = .ok (.istore_n 1, 1) := by decide +kernel
theorem dX8_offended_45 : decode cX8_offended 45 = .ok (.iinc 3 1, 3) := by decide +kernel
theorem dX8_offended_48 : decode cX8_offended 48 = .ok (.goto (-42), 3) := by decide +kernel
theorem dX8_offended_51 : decode cX8_offended 51 = .ok (.iload_n 1, 1) := by decide +kernel
theorem dX8_offended_52 : decode cX8_offended 52 = .ok (.ireturn, 1) := by decide +kernel
def lX8_offended_6 (F : Nat)  (t : Nat) : Nat → mS → Int32 → Int32 → Int32 → Option Int32
  | 0, _, _, _, _ => none
  | n + 1, S0, v1, v2, v3 => if (S0.1 (t + 40 + 1) 5) ≤ v3 then (some v1) else (bd (f_X6_howManyKnocks F S0 (t + 40 + 1) v3 (1 : Int32)) fun q1 => if q1 ≤ v2 then (lX8_offended_6 F  t n S0 v1 v2 (v3 + 1)) else (lX8_offended_6 F  t n S0 v3 q1 (v3 + 1)))
set_option maxHeartbeats 4000000 in
set_option maxRecDepth 100000 in
theorem gX8_offended_6 {x : mX} {F : Nat} {t : Nat} {S0 : mS}   {R : Int32} (ht : kd0 t = 8)  : ∀ (n : Nat) (v1 : Int32) (v2 : Int32) (v3 : Int32), lX8_offended_6 F  t n S0 v1 v2 v3 = some R → mG x μX8_offended 4 0 0 (mQe S0 (some (.int R))) 0 0 E0 S0 6 [(0, .ref (t)), (1, .int (v1)), (2, .int (v2)), (3, .int (v3))] [] := by
  intro n
  induction n with
  | zero =>
    intro v1 v2 v3 h
    cases h
  | succ n ih =>
    intro v1 v2 v3 h
    unfold lX8_offended_6 at h
    refine mG.iload_n 3 dX8_offended_6 rfl ?_
    refine mG.aload_n 0 dX8_offended_7 rfl ?_
    refine mG.get (v := .ref (t + 40)) dX8_offended_8 mfX8_41 ht (lr8_now ht) ?_
    refine mG.get (v := .ref (t + 40 + 1)) dX8_offended_11 mfX8_88 (lk8_now ht) (lr7_town (lk8_now ht)) ?_
    refine mG.get (v := .int (S0.1 (t + 40 + 1) 5)) dX8_offended_14 mfX8_183 (lk7_town (lk8_now ht)) rfl ?_
    refine mG.icmp_ge 51 dX8_offended_17 (by decide) (fun c3 => ?_) (fun c3 => ?_)
    · replace h := itp c3 h
      refine mG.iload_n 1 dX8_offended_51 rfl ?_
      obtain rfl := Option.some.inj h
      exact mG.iret dX8_offended_52 rfl ⟨rfl, rfl, rfl⟩
    · replace h := itn c3 h
      refine mG.aload_n 0 dX8_offended_20 rfl ?_
      refine mG.get (v := .ref (t + 40)) dX8_offended_21 mfX8_41 ht (lr8_now ht) ?_
      refine mG.get (v := .ref (t + 40 + 1)) dX8_offended_24 mfX8_88 (lk8_now ht) (lr7_town (lk8_now ht)) ?_
      refine mG.iload_n 3 dX8_offended_27 rfl ?_
      refine mG.iconst (v := 1) dX8_offended_28 rfl ?_
      obtain ⟨q1, hq1, h⟩ := bdp h
      refine mG.callV0 (as := [.int (v3), .int 1]) (st := []) (S2 := S0) (r := some (.int (q1))) dX8_offended_29 mvX6_howManyKnocks wk63_12 rfl (lk7_town (lk8_now ht)) rfl (by decide) (Nat.le_of_ble_eq_true rfl) (c_X6_howManyKnocks (lk7_town (lk8_now ht)) hq1) ?_
      refine mG.istore (lv2 := [(4, .int (q1)), (0, .ref (t)), (1, .int (v1)), (2, .int (v2)), (3, .int (v3))]) dX8_offended_32 (by decide) rfl ?_
      refine mG.iload 0 dX8_offended_34 rfl ?_
      refine mG.iload_n 3 dX8_offended_36 rfl ?_
      refine mG.icmp_le 45 dX8_offended_37 (by decide) (fun c2 => ?_) (fun c2 => ?_)
      · replace h := itp c2 h
        refine mG.iinc 4 (u := v3 + 1) (lv2 := [(3, .int (v3 + 1)), (4, .int (q1)), (0, .ref (t)), (1, .int (v1)), (2, .int (v2))]) dX8_offended_45 rfl rfl (by decide) rfl ?_
        refine mG.goto 6 dX8_offended_48 (by decide) ?_
        refine mG.sub (lv2 := [(0, .ref (t)), (1, .int (v1)), (2, .int (v2)), (3, .int (v3 + 1))]) [2, 3, 4, 0] rfl ?_
        exact ih  v1 v2 (v3 + 1)  h
      · replace h := itn c2 h
        refine mG.iload 0 dX8_offended_40 rfl ?_
        refine mG.istore_n (lv2 := [(2, .int (q1)), (4, .int (q1)), (0, .ref (t)), (1, .int (v1)), (3, .int (v3))]) dX8_offended_42 rfl (by decide) rfl ?_
        refine mG.iload_n 4 dX8_offended_43 rfl ?_
        refine mG.istore_n (lv2 := [(1, .int (v3)), (2, .int (q1)), (4, .int (q1)), (0, .ref (t)), (3, .int (v3))]) dX8_offended_44 rfl (by decide) rfl ?_
        refine mG.iinc 4 (u := v3 + 1) (lv2 := [(3, .int (v3 + 1)), (1, .int (v3)), (2, .int (q1)), (4, .int (q1)), (0, .ref (t))]) dX8_offended_45 rfl rfl (by decide) rfl ?_
        refine mG.goto 6 dX8_offended_48 (by decide) ?_
        refine mG.sub (lv2 := [(0, .ref (t)), (1, .int (v3)), (2, .int (q1)), (3, .int (v3 + 1))]) [4, 1, 2, 0] rfl ?_
        exact ih  v3 q1 (v3 + 1)  h
def f_X8_offended (F : Nat) (S0 : mS) (t : Nat) : Option Int32 := lX8_offended_6 F  t F S0 (-1 : Int32) (0 : Int32) (0 : Int32)
set_option maxHeartbeats 4000000 in
set_option maxRecDepth 100000 in
theorem c_X8_offended {F : Nat} {S0 : mS} {t : Nat} {R : Int32} (ht : kd0 t = 8) (h : f_X8_offended F S0 t = some R) : mCt μX8_offended 4 0 0 E0 S0 [.ref (t)] (mQe S0 (some (.int R))) := by
  unfold f_X8_offended at h
  refine mCt.of (by decide) (Nat.le_of_ble_eq_true rfl) ?_
  intro x
  refine mG.iconst (v := (-1)) dX8_offended_0 rfl ?_
  refine mG.istore_n (lv2 := [(1, .int (-1)), (0, .ref (t))]) dX8_offended_1 rfl (by decide) rfl ?_
  refine mG.iconst (v := 0) dX8_offended_2 rfl ?_
  refine mG.istore_n (lv2 := [(2, .int 0), (1, .int (-1)), (0, .ref (t))]) dX8_offended_3 rfl (by decide) rfl ?_
  refine mG.iconst (v := 0) dX8_offended_4 rfl ?_
  refine mG.istore_n (lv2 := [(3, .int 0), (2, .int 0), (1, .int (-1)), (0, .ref (t))]) dX8_offended_5 rfl (by decide) rfl ?_
  refine mG.sub (lv2 := [(0, .ref (t)), (1, .int (-1)), (2, .int 0), (3, .int 0)]) [3, 2, 1, 0] rfl ?_
  exact gX8_offended_6 ht  F  (-1 : Int32) (0 : Int32) (0 : Int32)  h
theorem dX8_leap_0 : decode cX8_leap 0 = .ok (.aload_n 0, 1) := by decide +kernel
theorem dX8_leap_1 : decode cX8_leap 1 = .ok (.getfield 41, 3) := by decide +kernel
theorem dX8_leap_4 : decode cX8_leap 4 = .ok (.getfield 88, 3) := by decide +kernel
theorem dX8_leap_7 : decode cX8_leap 7 = .ok (.iload_n 1, 1) := by decide +kernel
theorem dX8_leap_8 : decode cX8_leap 8 = .ok (.invokevirtual 195, 3) := by decide +kernel
theorem dX8_leap_11 : decode cX8_leap 11 = .ok (.ifCond .eq 17, 3) := by decide +kernel
theorem dX8_leap_14 : decode cX8_leap 14 = .ok (.aload_n 0, 1) := by decide +kernel
theorem dX8_leap_15 : decode cX8_leap 15 = .ok (.getfield 41, 3) := by decide +kernel
theorem dX8_leap_18 : decode cX8_leap 18 = .ok (.getfield 88, 3) := by decide +kernel
theorem dX8_leap_21 : decode cX8_leap 21 = .ok (.iload_n 2, 1) := by decide +kernel
theorem dX8_leap_22 : decode cX8_leap 22 = .ok (.invokevirtual 195, 3) := by decide +kernel
theorem dX8_leap_25 : decode cX8_leap 25 = .ok (.ifCond .ne 5, 3) := by decide +kernel
theorem dX8_leap_28 : decode cX8_leap 28 = .ok (.iconst (-1), 1) := by decide +kernel
theorem dX8_leap_29 : decode cX8_leap 29 = .ok (.ireturn, 1) := by decide +kernel
theorem dX8_leap_30 : decode cX8_leap 30 = .ok (.aload_n 0, 1) := by decide +kernel
theorem dX8_leap_31 : decode cX8_leap 31 = .ok (.getfield 41, 3) := by decide +kernel
theorem dX8_leap_34 : decode cX8_leap 34 = .ok (.getfield 88, 3) := by decide +kernel
theorem dX8_leap_37 : decode cX8_leap 37 = .ok (.getfield 198, 3) := by decide +kernel
theorem dX8_leap_40 : decode cX8_leap 40 = .ok (.iload_n 1, 1) := by decide +kernel
theorem dX8_leap_41 : decode cX8_leap 41 = .ok (.iaload, 1) := by decide +kernel
theorem dX8_leap_42 : decode cX8_leap 42 = .ok (.istore_n 3, 1) := by decide +kernel
theorem dX8_leap_43 : decode cX8_leap 43 = .ok (.iconst 0, 1) := by decide +kernel
theorem dX8_leap_44 : decode cX8_leap 44 = .ok (.istore 4, 2) := by decide +kernel
theorem dX8_leap_46 : decode cX8_leap 46 = .ok (.iload 4, 2) := by decide +kernel
theorem dX8_leap_48 : decode cX8_leap 48 = .ok (.bipush 20, 2) := by decide +kernel
theorem dX8_leap_50 : decode cX8_leap 50 = .ok (.if_icmp .ge 40, 3) := by decide +kernel
theorem dX8_leap_53 : decode cX8_leap 53 = .ok (.iload_n 3, 1) := by decide +kernel
theorem dX8_leap_54 : decode cX8_leap 54 = .ok (.aload_n 0, 1) := by decide +kernel
theorem dX8_leap_55 : decode cX8_leap 55 = .ok (.getfield 41, 3) := by decide +kernel
theorem dX8_leap_58 : decode cX8_leap 58 = .ok (.getfield 88, 3) := by decide +kernel
theorem dX8_leap_61 : decode cX8_leap 61 = .ok (.getfield 198, 3) := by decide +kernel
theorem dX8_leap_64 : decode cX8_leap 64 = .ok (.iload_n 2, 1) := by decide +kernel
theorem dX8_leap_65 : decode cX8_leap 65 = .ok (.iaload, 1) := by decide +kernel
theorem dX8_leap_66 : decode cX8_leap 66 = .ok (.if_icmp .ne 6, 3) := by decide +kernel
theorem dX8_leap_69 : decode cX8_leap 69 = .ok (.iload 4, 2) := by decide +kernel
theorem dX8_leap_71 : decode cX8_leap 71 = .ok (.ireturn, 1) := by decide +kernel
theorem dX8_leap_72 : decode cX8_leap 72 = .ok (.iload_n 3, 1) := by decide +kernel
theorem dX8_leap_73 : decode cX8_leap 73 = .ok (.iconst 1, 1) := by decide +kernel
theorem dX8_leap_74 : decode cX8_leap 74 = .ok (.ishl, 1) := by decide +kernel
theorem dX8_leap_75 : decode cX8_leap 75 = .ok (.iload_n 3, 1) := by decide +kernel
theorem dX8_leap_76 : decode cX8_leap 76 = .ok (.bipush 19, 2) := by decide +kernel
theorem dX8_leap_78 : decode cX8_leap 78 = .ok (.ishr, 1) := by decide +kernel
theorem dX8_leap_79 : decode cX8_leap 79 = .ok (.ior, 1) := by decide +kernel
theorem dX8_leap_80 : decode cX8_leap 80 = .ok (.ldc 253, 2) := by decide +kernel
theorem dX8_leap_82 : decode cX8_leap 82 = .ok (.iand, 1) := by decide +kernel
theorem dX8_leap_83 : decode cX8_leap 83 = .ok (.istore_n 3, 1) := by decide +kernel
theorem dX8_leap_84 : decode cX8_leap 84 = .ok (.iinc 4 1, 3) := by decide +kernel
theorem dX8_leap_87 : decode cX8_leap 87 = .ok (.goto (-41), 3) := by decide +kernel
theorem dX8_leap_90 : decode cX8_leap 90 = .ok (.iconst (-1), 1) := by decide +kernel
theorem dX8_leap_91 : decode cX8_leap 91 = .ok (.ireturn, 1) := by decide +kernel
def lX8_leap_46 (F : Nat)  (t : Nat) (a1 : Int32) (a2 : Int32) : Nat → mS → Int32 → Int32 → Option Int32
  | 0, _, _, _ => none
  | n + 1, S0, v3, v4 => if (20 : Int32) ≤ v4 then (some (-1 : Int32)) else (ck (inb a2 7) (if v3 = (S0.1 (t + 40 + 1 + 1) a2.toNatClampNeg) then (some v4) else (lX8_leap_46 F  t a1 a2 n S0 (((v3 <<< ((1 : Int32) &&& 31)) ||| (v3 >>> ((19 : Int32) &&& 31))) &&& (1048575 : Int32)) (v4 + 1))))
set_option maxHeartbeats 4000000 in
set_option maxRecDepth 100000 in
theorem gX8_leap_46 {x : mX} {F : Nat} {t : Nat} {a1 : Int32} {a2 : Int32} {S0 : mS}   {R : Int32} (ht : kd0 t = 8)  : ∀ (n : Nat) (v3 : Int32) (v4 : Int32), lX8_leap_46 F  t a1 a2 n S0 v3 v4 = some R → mG x μX8_leap 2 0 0 (mQe S0 (some (.int R))) 0 0 E0 S0 46 [(0, .ref (t)), (2, .int (a2)), (3, .int (v3)), (4, .int (v4))] [] := by
  intro n
  induction n with
  | zero =>
    intro v3 v4 h
    cases h
  | succ n ih =>
    intro v3 v4 h
    unfold lX8_leap_46 at h
    refine mG.iload 3 dX8_leap_46 rfl ?_
    refine mG.bipush (v := 20) dX8_leap_48 (by decide) ?_
    refine mG.icmp_ge 90 dX8_leap_50 (by decide) (fun c3 => ?_) (fun c3 => ?_)
    · replace h := itp c3 h
      refine mG.iconst (v := (-1)) dX8_leap_90 rfl ?_
      obtain rfl := Option.some.inj h
      exact mG.iret dX8_leap_91 rfl ⟨rfl, rfl, rfl⟩
    · replace h := itn c3 h
      refine mG.iload_n 2 dX8_leap_53 rfl ?_
      refine mG.aload_n 0 dX8_leap_54 rfl ?_
      refine mG.get (v := .ref (t + 40)) dX8_leap_55 mfX8_41 ht (lr8_now ht) ?_
      refine mG.get (v := .ref (t + 40 + 1)) dX8_leap_58 mfX8_88 (lk8_now ht) (lr7_town (lk8_now ht)) ?_
      refine mG.get (v := .ref (t + 40 + 1 + 1)) dX8_leap_61 mfX8_198 (lk7_town (lk8_now ht)) (lr6_shut (lk7_town (lk8_now ht))) ?_
      refine mG.iload_n 1 dX8_leap_64 rfl ?_
      obtain ⟨b1, h⟩ := ckp h
      refine mG.iald dX8_leap_65 (lk6_shut (lk7_town (lk8_now ht))) (ll6_shut (lk7_town (lk8_now ht))) (inbp b1) ?_
      refine mG.icmp_ne 72 dX8_leap_66 (by decide) (fun c2 => ?_) (fun c2 => ?_)
      · replace h := itn c2 h
        refine mG.iload_n 2 dX8_leap_72 rfl ?_
        refine mG.iconst (v := 1) dX8_leap_73 rfl ?_
        refine mG.ishl dX8_leap_74 ?_
        refine mG.iload_n 2 dX8_leap_75 rfl ?_
        refine mG.bipush (v := 19) dX8_leap_76 (by decide) ?_
        refine mG.ishr dX8_leap_78 ?_
        refine mG.ior dX8_leap_79 ?_
        refine mG.ldc (v := 1048575) dX8_leap_80 wk50_5 ?_
        refine mG.iand dX8_leap_82 ?_
        refine mG.istore_n (lv2 := [(3, .int (((v3 <<< ((1 : Int32) &&& 31)) ||| (v3 >>> ((19 : Int32) &&& 31))) &&& (1048575 : Int32))), (0, .ref (t)), (2, .int (a2)), (4, .int (v4))]) dX8_leap_83 rfl (by decide) rfl ?_
        refine mG.iinc 3 (u := v4 + 1) (lv2 := [(4, .int (v4 + 1)), (3, .int (((v3 <<< ((1 : Int32) &&& 31)) ||| (v3 >>> ((19 : Int32) &&& 31))) &&& (1048575 : Int32))), (0, .ref (t)), (2, .int (a2))]) dX8_leap_84 rfl rfl (by decide) rfl ?_
        refine mG.goto 46 dX8_leap_87 (by decide) ?_
        refine mG.sub (lv2 := [(0, .ref (t)), (2, .int (a2)), (3, .int (((v3 <<< ((1 : Int32) &&& 31)) ||| (v3 >>> ((19 : Int32) &&& 31))) &&& (1048575 : Int32))), (4, .int (v4 + 1))]) [2, 3, 1, 0] rfl ?_
        exact ih  (((v3 <<< ((1 : Int32) &&& 31)) ||| (v3 >>> ((19 : Int32) &&& 31))) &&& (1048575 : Int32)) (v4 + 1)  h
      · replace h := itp c2 h
        refine mG.iload 3 dX8_leap_69 rfl ?_
        obtain rfl := Option.some.inj h
        exact mG.iret dX8_leap_71 rfl ⟨rfl, rfl, rfl⟩
def f_X8_leap (F : Nat) (S0 : mS) (t : Nat) (a1 : Int32) (a2 : Int32) : Option Int32 := if (f_X6_told S0 (t + 40 + 1) a1) = true then (if (f_X6_told S0 (t + 40 + 1) a2) = true then (ck (inb a1 7) (lX8_leap_46 F  t a1 a2 F S0 (S0.1 (t + 40 + 1 + 1) a1.toNatClampNeg) (0 : Int32))) else (some (-1 : Int32))) else (some (-1 : Int32))
set_option maxHeartbeats 4000000 in
set_option maxRecDepth 100000 in
theorem c_X8_leap {F : Nat} {S0 : mS} {t : Nat} {a1 : Int32} {a2 : Int32} {R : Int32} (ht : kd0 t = 8) (h : f_X8_leap F S0 t a1 a2 = some R) : mCt μX8_leap 2 0 0 E0 S0 [.ref (t), .int (a1), .int (a2)] (mQe S0 (some (.int R))) := by
  unfold f_X8_leap at h
  refine mCt.of (by decide) (Nat.le_of_ble_eq_true rfl) ?_
  intro x
  refine mG.aload_n 0 dX8_leap_0 rfl ?_
  refine mG.get (v := .ref (t + 40)) dX8_leap_1 mfX8_41 ht (lr8_now ht) ?_
  refine mG.get (v := .ref (t + 40 + 1)) dX8_leap_4 mfX8_88 (lk8_now ht) (lr7_town (lk8_now ht)) ?_
  refine mG.iload_n 1 dX8_leap_7 rfl ?_
  refine mG.callV0 (as := [.int (a1)]) (st := []) (S2 := S0) (r := some (.int (bI (f_X6_told S0 (t + 40 + 1) a1)))) dX8_leap_8 mvX6_told wk44_19 rfl (lk7_town (lk8_now ht)) rfl (by decide) (Nat.le_of_ble_eq_true rfl) (c_X6_told (lk7_town (lk8_now ht)) rfl) ?_
  refine mG.ifz_eq (b := f_X6_told S0 (t + 40 + 1) a1) 28 dX8_leap_11 (by decide) (fun c3 => ?_) (fun c3 => ?_)
  · replace h := itn c3 h
    refine mG.iconst (v := (-1)) dX8_leap_28 rfl ?_
    obtain rfl := Option.some.inj h
    exact mG.iret dX8_leap_29 rfl ⟨rfl, rfl, rfl⟩
  · replace h := itp c3 h
    refine mG.aload_n 0 dX8_leap_14 rfl ?_
    refine mG.get (v := .ref (t + 40)) dX8_leap_15 mfX8_41 ht (lr8_now ht) ?_
    refine mG.get (v := .ref (t + 40 + 1)) dX8_leap_18 mfX8_88 (lk8_now ht) (lr7_town (lk8_now ht)) ?_
    refine mG.iload_n 2 dX8_leap_21 rfl ?_
    refine mG.callV0 (as := [.int (a2)]) (st := []) (S2 := S0) (r := some (.int (bI (f_X6_told S0 (t + 40 + 1) a2)))) dX8_leap_22 mvX6_told wk44_19 rfl (lk7_town (lk8_now ht)) rfl (by decide) (Nat.le_of_ble_eq_true rfl) (c_X6_told (lk7_town (lk8_now ht)) rfl) ?_
    refine mG.ifz_ne (b := f_X6_told S0 (t + 40 + 1) a2) 30 dX8_leap_25 (by decide) (fun c2 => ?_) (fun c2 => ?_)
    · replace h := itp c2 h
      refine mG.aload_n 0 dX8_leap_30 rfl ?_
      refine mG.get (v := .ref (t + 40)) dX8_leap_31 mfX8_41 ht (lr8_now ht) ?_
      refine mG.get (v := .ref (t + 40 + 1)) dX8_leap_34 mfX8_88 (lk8_now ht) (lr7_town (lk8_now ht)) ?_
      refine mG.get (v := .ref (t + 40 + 1 + 1)) dX8_leap_37 mfX8_198 (lk7_town (lk8_now ht)) (lr6_shut (lk7_town (lk8_now ht))) ?_
      refine mG.iload_n 1 dX8_leap_40 rfl ?_
      obtain ⟨b1, h⟩ := ckp h
      refine mG.iald dX8_leap_41 (lk6_shut (lk7_town (lk8_now ht))) (ll6_shut (lk7_town (lk8_now ht))) (inbp b1) ?_
      refine mG.istore_n (lv2 := [(3, .int (S0.1 (t + 40 + 1 + 1) a1.toNatClampNeg)), (0, .ref (t)), (1, .int (a1)), (2, .int (a2))]) dX8_leap_42 rfl (by decide) rfl ?_
      refine mG.iconst (v := 0) dX8_leap_43 rfl ?_
      refine mG.istore (lv2 := [(4, .int 0), (3, .int (S0.1 (t + 40 + 1 + 1) a1.toNatClampNeg)), (0, .ref (t)), (1, .int (a1)), (2, .int (a2))]) dX8_leap_44 (by decide) rfl ?_
      refine mG.sub (lv2 := [(0, .ref (t)), (2, .int (a2)), (3, .int (S0.1 (t + 40 + 1 + 1) a1.toNatClampNeg)), (4, .int 0)]) [2, 4, 1, 0] rfl ?_
      exact gX8_leap_46 ht  F  (S0.1 (t + 40 + 1 + 1) a1.toNatClampNeg) (0 : Int32)  h
    · replace h := itn c2 h
      refine mG.iconst (v := (-1)) dX8_leap_28 rfl ?_
      obtain rfl := Option.some.inj h
      exact mG.iret dX8_leap_29 rfl ⟨rfl, rfl, rfl⟩
theorem dX8_image_0 : decode cX8_image 0 = .ok (.aload_n 0, 1) := by decide +kernel
theorem dX8_image_1 : decode cX8_image 1 = .ok (.getfield 45, 3) := by decide +kernel
theorem dX8_image_4 : decode cX8_image 4 = .ok (.aload_n 0, 1) := by decide +kernel
theorem dX8_image_5 : decode cX8_image 5 = .ok (.getfield 41, 3) := by decide +kernel
theorem dX8_image_8 : decode cX8_image 8 = .ok (.invokevirtual 345, 3) := by decide +kernel
theorem dX8_image_11 : decode cX8_image 11 = .ok (.aload_n 0, 1) := by decide +kernel
theorem dX8_image_12 : decode cX8_image 12 = .ok (.getfield 41, 3) := by decide +kernel
theorem dX8_image_15 : decode cX8_image 15 = .ok (.getfield 88, 3) := by decide +kernel
theorem dX8_image_18 : decode cX8_image 18 = .ok (.getfield 166, 3) := by decide +kernel
theorem dX8_image_21 : decode cX8_image 21 = .ok (.ireturn, 1) := by decide +kernel
def f_X8_image (F : Nat) (S : mS) (t : Nat) : Option (mS × Int32) := bd (f_X7_copyFrom F S (t + 202) (t + 40)) fun q1 => some (q1, q1.1 (t + 40 + 1) 7)
set_option maxHeartbeats 4000000 in
set_option maxRecDepth 100000 in
theorem c_X8_image {F : Nat} {S : mS} {t : Nat} {R : mS × Int32} (ht : kd0 t = 8) (h : f_X8_image F S t = some R) : mCt μX8_image 4 0 0 E0 S [.ref (t)] (mQe R.1 (some (.int R.2))) := by
  unfold f_X8_image at h
  refine mCt.of (by decide) (Nat.le_of_ble_eq_true rfl) ?_
  intro x
  refine mG.aload_n 0 dX8_image_0 rfl ?_
  refine mG.get (v := .ref (t + 202)) dX8_image_1 mfX8_45 ht (lr8_image ht) ?_
  refine mG.aload_n 0 dX8_image_4 rfl ?_
  refine mG.get (v := .ref (t + 40)) dX8_image_5 mfX8_41 ht (lr8_now ht) ?_
  obtain ⟨q1, hq1, h⟩ := bdp h
  refine mG.callV0 (as := [.ref (t + 40)]) (st := []) (S2 := q1) (r := none) dX8_image_8 mvX7_copyFrom wk65_1 rfl (lk8_image ht) rfl (by decide) (Nat.le_of_ble_eq_true rfl) (c_X7_copyFrom (lk8_image ht) (lk8_now ht) hq1) ?_
  refine mG.aload_n 0 dX8_image_11 rfl ?_
  refine mG.get (v := .ref (t + 40)) dX8_image_12 mfX8_41 ht (lr8_now ht) ?_
  refine mG.get (v := .ref (t + 40 + 1)) dX8_image_15 mfX8_88 (lk8_now ht) (lr7_town (lk8_now ht)) ?_
  refine mG.get (v := .int (q1.1 (t + 40 + 1) 7)) dX8_image_18 mfX8_166 (lk7_town (lk8_now ht)) rfl ?_
  obtain rfl := Option.some.inj h
  exact mG.iret dX8_image_21 rfl ⟨rfl, rfl, rfl⟩
theorem dX8_back_0 : decode cX8_back 0 = .ok (.aload_n 0, 1) := by decide +kernel
theorem dX8_back_1 : decode cX8_back 1 = .ok (.getfield 41, 3) := by decide +kernel
theorem dX8_back_4 : decode cX8_back 4 = .ok (.aload_n 0, 1) := by decide +kernel
theorem dX8_back_5 : decode cX8_back 5 = .ok (.getfield 45, 3) := by decide +kernel
theorem dX8_back_8 : decode cX8_back 8 = .ok (.invokevirtual 345, 3) := by decide +kernel
theorem dX8_back_11 : decode cX8_back 11 = .ok (.aload_n 0, 1) := by decide +kernel
theorem dX8_back_12 : decode cX8_back 12 = .ok (.getfield 41, 3) := by decide +kernel
theorem dX8_back_15 : decode cX8_back 15 = .ok (.getfield 88, 3) := by decide +kernel
theorem dX8_back_18 : decode cX8_back 18 = .ok (.getfield 166, 3) := by decide +kernel
theorem dX8_back_21 : decode cX8_back 21 = .ok (.ireturn, 1) := by decide +kernel
def f_X8_back (F : Nat) (S : mS) (t : Nat) : Option (mS × Int32) := bd (f_X7_copyFrom F S (t + 40) (t + 202)) fun q1 => some (q1, q1.1 (t + 40 + 1) 7)
set_option maxHeartbeats 4000000 in
set_option maxRecDepth 100000 in
theorem c_X8_back {F : Nat} {S : mS} {t : Nat} {R : mS × Int32} (ht : kd0 t = 8) (h : f_X8_back F S t = some R) : mCt μX8_back 4 0 0 E0 S [.ref (t)] (mQe R.1 (some (.int R.2))) := by
  unfold f_X8_back at h
  refine mCt.of (by decide) (Nat.le_of_ble_eq_true rfl) ?_
  intro x
  refine mG.aload_n 0 dX8_back_0 rfl ?_
  refine mG.get (v := .ref (t + 40)) dX8_back_1 mfX8_41 ht (lr8_now ht) ?_
  refine mG.aload_n 0 dX8_back_4 rfl ?_
  refine mG.get (v := .ref (t + 202)) dX8_back_5 mfX8_45 ht (lr8_image ht) ?_
  obtain ⟨q1, hq1, h⟩ := bdp h
  refine mG.callV0 (as := [.ref (t + 202)]) (st := []) (S2 := q1) (r := none) dX8_back_8 mvX7_copyFrom wk65_1 rfl (lk8_now ht) rfl (by decide) (Nat.le_of_ble_eq_true rfl) (c_X7_copyFrom (lk8_now ht) (lk8_image ht) hq1) ?_
  refine mG.aload_n 0 dX8_back_11 rfl ?_
  refine mG.get (v := .ref (t + 40)) dX8_back_12 mfX8_41 ht (lr8_now ht) ?_
  refine mG.get (v := .ref (t + 40 + 1)) dX8_back_15 mfX8_88 (lk8_now ht) (lr7_town (lk8_now ht)) ?_
  refine mG.get (v := .int (q1.1 (t + 40 + 1) 7)) dX8_back_18 mfX8_166 (lk7_town (lk8_now ht)) rfl ?_
  obtain rfl := Option.some.inj h
  exact mG.iret dX8_back_21 rfl ⟨rfl, rfl, rfl⟩
theorem dX8_about_0 : decode cX8_about 0 = .ok (.iload_n 1, 1) := by decide +kernel
theorem dX8_about_1 : decode cX8_about 1 = .ok (.tableswitch 99 0 6 #[43, 54, 62, 70, 78, 86, 94], 43) := by decide +kernel
theorem dX8_about_44 : decode cX8_about 44 = .ok (.aload_n 0, 1) := by decide +kernel
theorem dX8_about_45 : decode cX8_about 45 = .ok (.getfield 41, 3) := by decide +kernel
theorem dX8_about_48 : decode cX8_about 48 = .ok (.getfield 88, 3) := by decide +kernel
theorem dX8_about_51 : decode cX8_about 51 = .ok (.getfield 183, 3) := by decide +kernel
theorem dX8_about_54 : decode cX8_about 54 = .ok (.ireturn, 1) := by decide +kernel
theorem dX8_about_55 : decode cX8_about 55 = .ok (.aload_n 0, 1) := by decide +kernel
theorem dX8_about_56 : decode cX8_about 56 = .ok (.getfield 41, 3) := by decide +kernel
theorem dX8_about_59 : decode cX8_about 59 = .ok (.getfield 107, 3) := by decide +kernel
theorem dX8_about_62 : decode cX8_about 62 = .ok (.ireturn, 1) := by decide +kernel
theorem dX8_about_63 : decode cX8_about 63 = .ok (.aload_n 0, 1) := by decide +kernel
theorem dX8_about_64 : decode cX8_about 64 = .ok (.getfield 41, 3) := by decide +kernel
theorem dX8_about_67 : decode cX8_about 67 = .ok (.getfield 133, 3) := by decide +kernel
theorem dX8_about_70 : decode cX8_about 70 = .ok (.ireturn, 1) := by decide +kernel
theorem dX8_about_71 : decode cX8_about 71 = .ok (.aload_n 0, 1) := by decide +kernel
theorem dX8_about_72 : decode cX8_about 72 = .ok (.getfield 41, 3) := by decide +kernel
theorem dX8_about_75 : decode cX8_about 75 = .ok (.getfield 348, 3) := by decide +kernel
theorem dX8_about_78 : decode cX8_about 78 = .ok (.ireturn, 1) := by decide +kernel
theorem dX8_about_79 : decode cX8_about 79 = .ok (.aload_n 0, 1) := by decide +kernel
theorem dX8_about_80 : decode cX8_about 80 = .ok (.getfield 41, 3) := by decide +kernel
theorem dX8_about_83 : decode cX8_about 83 = .ok (.getfield 254, 3) := by decide +kernel
theorem dX8_about_86 : decode cX8_about 86 = .ok (.ireturn, 1) := by decide +kernel
theorem dX8_about_87 : decode cX8_about 87 = .ok (.aload_n 0, 1) := by decide +kernel
theorem dX8_about_88 : decode cX8_about 88 = .ok (.getfield 41, 3) := by decide +kernel
theorem dX8_about_91 : decode cX8_about 91 = .ok (.getfield 323, 3) := by decide +kernel
theorem dX8_about_94 : decode cX8_about 94 = .ok (.ireturn, 1) := by decide +kernel
theorem dX8_about_95 : decode cX8_about 95 = .ok (.aload_n 0, 1) := by decide +kernel
theorem dX8_about_96 : decode cX8_about 96 = .ok (.getfield 99, 3) := by decide +kernel
theorem dX8_about_99 : decode cX8_about 99 = .ok (.ireturn, 1) := by decide +kernel
theorem dX8_about_100 : decode cX8_about 100 = .ok (.bipush (-2), 2) := by decide +kernel
theorem dX8_about_102 : decode cX8_about 102 = .ok (.ireturn, 1) := by decide +kernel
def f_X8_about (S0 : mS) (t : Nat) (a1 : Int32) : Int32 := if a1 = (0 : Int32) then (S0.1 (t + 40 + 1) 5) else (if a1 = (1 : Int32) then (S0.1 (t + 40) 4) else (if a1 = (2 : Int32) then (S0.1 (t + 40) 5) else (if a1 = (3 : Int32) then (S0.1 (t + 40) 3) else (if a1 = (4 : Int32) then (S0.1 (t + 40) 9) else (if a1 = (5 : Int32) then (S0.1 (t + 40) 12) else (if a1 = (6 : Int32) then (S0.1 t 1) else ((-2 : Int32))))))))
set_option maxHeartbeats 4000000 in
set_option maxRecDepth 100000 in
theorem c_X8_about {S0 : mS} {t : Nat} {a1 : Int32} {R : Int32} (ht : kd0 t = 8) (h : f_X8_about S0 t a1 = R) : mCt μX8_about 1 0 0 E0 S0 [.ref (t), .int (a1)] (mQe S0 (some (.int R))) := by
  unfold f_X8_about at h
  refine mCt.of (by decide) (Nat.le_of_ble_eq_true rfl) ?_
  intro x
  refine mG.iload_n 1 dX8_about_0 rfl ?_
  by_cases c1 : a1 = (0 : Int32)
  · replace h := itp c1 h
    refine mG.tblIn (43) 44 dX8_about_1 (by rw [c1]; decide) (by rw [c1]; decide) (by rw [c1]; decide) (by decide) ?_
    refine mG.aload_n 0 dX8_about_44 rfl ?_
    refine mG.get (v := .ref (t + 40)) dX8_about_45 mfX8_41 ht (lr8_now ht) ?_
    refine mG.get (v := .ref (t + 40 + 1)) dX8_about_48 mfX8_88 (lk8_now ht) (lr7_town (lk8_now ht)) ?_
    refine mG.get (v := .int (S0.1 (t + 40 + 1) 5)) dX8_about_51 mfX8_183 (lk7_town (lk8_now ht)) rfl ?_
    subst h
    exact mG.iret dX8_about_54 rfl ⟨rfl, rfl, rfl⟩
  replace h := itn c1 h
  by_cases c2 : a1 = (1 : Int32)
  · replace h := itp c2 h
    refine mG.tblIn (54) 55 dX8_about_1 (by rw [c2]; decide) (by rw [c2]; decide) (by rw [c2]; decide) (by decide) ?_
    refine mG.aload_n 0 dX8_about_55 rfl ?_
    refine mG.get (v := .ref (t + 40)) dX8_about_56 mfX8_41 ht (lr8_now ht) ?_
    refine mG.get (v := .int (S0.1 (t + 40) 4)) dX8_about_59 mfX8_107 (lk8_now ht) rfl ?_
    subst h
    exact mG.iret dX8_about_62 rfl ⟨rfl, rfl, rfl⟩
  replace h := itn c2 h
  by_cases c3 : a1 = (2 : Int32)
  · replace h := itp c3 h
    refine mG.tblIn (62) 63 dX8_about_1 (by rw [c3]; decide) (by rw [c3]; decide) (by rw [c3]; decide) (by decide) ?_
    refine mG.aload_n 0 dX8_about_63 rfl ?_
    refine mG.get (v := .ref (t + 40)) dX8_about_64 mfX8_41 ht (lr8_now ht) ?_
    refine mG.get (v := .int (S0.1 (t + 40) 5)) dX8_about_67 mfX8_133 (lk8_now ht) rfl ?_
    subst h
    exact mG.iret dX8_about_70 rfl ⟨rfl, rfl, rfl⟩
  replace h := itn c3 h
  by_cases c4 : a1 = (3 : Int32)
  · replace h := itp c4 h
    refine mG.tblIn (70) 71 dX8_about_1 (by rw [c4]; decide) (by rw [c4]; decide) (by rw [c4]; decide) (by decide) ?_
    refine mG.aload_n 0 dX8_about_71 rfl ?_
    refine mG.get (v := .ref (t + 40)) dX8_about_72 mfX8_41 ht (lr8_now ht) ?_
    refine mG.get (v := .int (S0.1 (t + 40) 3)) dX8_about_75 mfX8_348 (lk8_now ht) rfl ?_
    subst h
    exact mG.iret dX8_about_78 rfl ⟨rfl, rfl, rfl⟩
  replace h := itn c4 h
  by_cases c5 : a1 = (4 : Int32)
  · replace h := itp c5 h
    refine mG.tblIn (78) 79 dX8_about_1 (by rw [c5]; decide) (by rw [c5]; decide) (by rw [c5]; decide) (by decide) ?_
    refine mG.aload_n 0 dX8_about_79 rfl ?_
    refine mG.get (v := .ref (t + 40)) dX8_about_80 mfX8_41 ht (lr8_now ht) ?_
    refine mG.get (v := .int (S0.1 (t + 40) 9)) dX8_about_83 mfX8_254 (lk8_now ht) rfl ?_
    subst h
    exact mG.iret dX8_about_86 rfl ⟨rfl, rfl, rfl⟩
  replace h := itn c5 h
  by_cases c6 : a1 = (5 : Int32)
  · replace h := itp c6 h
    refine mG.tblIn (86) 87 dX8_about_1 (by rw [c6]; decide) (by rw [c6]; decide) (by rw [c6]; decide) (by decide) ?_
    refine mG.aload_n 0 dX8_about_87 rfl ?_
    refine mG.get (v := .ref (t + 40)) dX8_about_88 mfX8_41 ht (lr8_now ht) ?_
    refine mG.get (v := .int (S0.1 (t + 40) 12)) dX8_about_91 mfX8_323 (lk8_now ht) rfl ?_
    subst h
    exact mG.iret dX8_about_94 rfl ⟨rfl, rfl, rfl⟩
  replace h := itn c6 h
  by_cases c7 : a1 = (6 : Int32)
  · replace h := itp c7 h
    refine mG.tblIn (94) 95 dX8_about_1 (by rw [c7]; decide) (by rw [c7]; decide) (by rw [c7]; decide) (by decide) ?_
    refine mG.aload_n 0 dX8_about_95 rfl ?_
    refine mG.get (v := .int (S0.1 t 1)) dX8_about_96 mfX8_99 ht rfl ?_
    subst h
    exact mG.iret dX8_about_99 rfl ⟨rfl, rfl, rfl⟩
  replace h := itn c7 h
  refine mG.tblOut 100 dX8_about_1 (by have e0 : Int32.toInt a1 ≠ 0 := fun q => c1 (Int32.toInt_inj.mp (q.trans (by decide))); have e1 : Int32.toInt a1 ≠ 1 := fun q => c2 (Int32.toInt_inj.mp (q.trans (by decide))); have e2 : Int32.toInt a1 ≠ 2 := fun q => c3 (Int32.toInt_inj.mp (q.trans (by decide))); have e3 : Int32.toInt a1 ≠ 3 := fun q => c4 (Int32.toInt_inj.mp (q.trans (by decide))); have e4 : Int32.toInt a1 ≠ 4 := fun q => c5 (Int32.toInt_inj.mp (q.trans (by decide))); have e5 : Int32.toInt a1 ≠ 5 := fun q => c6 (Int32.toInt_inj.mp (q.trans (by decide))); have e6 : Int32.toInt a1 ≠ 6 := fun q => c7 (Int32.toInt_inj.mp (q.trans (by decide))); omega) (by decide) ?_
  refine mG.bipush (v := (-2)) dX8_about_100 (by decide) ?_
  subst h
  exact mG.iret dX8_about_102 rfl ⟨rfl, rfl, rfl⟩
