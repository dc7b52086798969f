theorem dX9_marry_0 : decode cX9_marry 0 = .ok (.aload_n 0, 1) := by decide +kernel
theorem dX9_marry_1 : decode cX9_marry 1 = .ok (.iload_n 1, 1) := by decide +kernel
theorem dX9_marry_2 : decode cX9_marry 2 = .ok (.invokevirtual 77, 3) := by decide +kernel
theorem dX9_marry_5 : decode cX9_marry 5 = .ok (.ifCond .eq 16, 3) := by decide +kernel
theorem dX9_marry_8 : decode cX9_marry 8 = .ok (.aload_n 0, 1) := by decide +kernel
theorem dX9_marry_9 : decode cX9_marry 9 = .ok (.iload_n 2, 1) := by decide +kernel
theorem dX9_marry_10 : decode cX9_marry 10 = .ok (.invokevirtual 77, 3) := by decide +kernel
theorem dX9_marry_13 : decode cX9_marry 13 = .ok (.ifCond .eq 8, 3) := by decide +kernel
theorem dX9_marry_16 : decode cX9_marry 16 = .ok (.iload_n 1, 1) := by decide +kernel
theorem dX9_marry_17 : decode cX9_marry 17 = .ok (.iload_n 2, 1) := by decide +kernel
theorem dX9_marry_18 : decode cX9_marry 18 = .ok (.if_icmp .ne 5, 3) := by decide +kernel
theorem dX9_marry_21 : decode cX9_marry 21 = .ok (.iconst (-1), 1) := by decide +kernel
theorem dX9_marry_22 : decode cX9_marry 22 = .ok (.ireturn, 1) := by decide +kernel
theorem dX9_marry_23 : decode cX9_marry 23 = .ok (.aload_n 0, 1) := by decide +kernel
theorem dX9_marry_24 : decode cX9_marry 24 = .ok (.iload_n 1, 1) := by decide +kernel
theorem dX9_marry_25 : decode cX9_marry 25 = .ok (.iconst 0, 1) := by decide +kernel
theorem dX9_marry_26 : decode cX9_marry 26 = .ok (.invokevirtual 73, 3) := by decide +kernel
theorem dX9_marry_29 : decode cX9_marry 29 = .ok (.aload_n 0, 1) := by decide +kernel
theorem dX9_marry_30 : decode cX9_marry 30 = .ok (.iload_n 2, 1) := by decide +kernel
theorem dX9_marry_31 : decode cX9_marry 31 = .ok (.iconst 0, 1) := by decide +kernel
theorem dX9_marry_32 : decode cX9_marry 32 = .ok (.invokevirtual 73, 3) := by decide +kernel
theorem dX9_marry_35 : decode cX9_marry 35 = .ok (.iand, 1) := by decide +kernel
theorem dX9_marry_36 : decode cX9_marry 36 = .ok (.istore_n 3, 1) := by decide +kernel
theorem dX9_marry_37 : decode cX9_marry 37 = .ok (.iload_n 3, 1) := by decide +kernel
theorem dX9_marry_38 : decode cX9_marry 38 = .ok (.ifCond .eq 7, 3) := by decide +kernel
theorem dX9_marry_41 : decode cX9_marry 41 = .ok (.iload_n 3, 1) := by decide +kernel
theorem dX9_marry_42 : decode cX9_marry 42 = .ok (.goto 16, 3) := by decide +kernel
theorem dX9_marry_45 : decode cX9_marry 45 = .ok (.aload_n 0, 1) := by decide +kernel
theorem dX9_marry_46 : decode cX9_marry 46 = .ok (.iload_n 1, 1) := by decide +kernel
theorem dX9_marry_47 : decode cX9_marry 47 = .ok (.iconst 0, 1) := by decide +kernel
theorem dX9_marry_48 : decode cX9_marry 48 = .ok (.invokevirtual 73, 3) := by decide +kernel
theorem dX9_marry_51 : decode cX9_marry 51 = .ok (.aload_n 0, 1) := by decide +kernel
theorem dX9_marry_52 : decode cX9_marry 52 = .ok (.iload_n 2, 1) := by decide +kernel
theorem dX9_marry_53 : decode cX9_marry 53 = .ok (.iconst 0, 1) := by decide +kernel
theorem dX9_marry_54 : decode cX9_marry 54 = .ok (.invokevirtual 73, 3) := by decide +kernel
theorem dX9_marry_57 : decode cX9_marry 57 = .ok (.ior, 1) := by decide +kernel
theorem dX9_marry_58 : decode cX9_marry 58 = .ok (.istore 4, 2) := by decide +kernel
theorem dX9_marry_60 : decode cX9_marry 60 = .ok (.iload 4, 2) := by decide +kernel
theorem dX9_marry_62 : decode cX9_marry 62 = .ok (.invokestatic 305, 3) := by decide +kernel
theorem dX9_marry_65 : decode cX9_marry 65 = .ok (.iconst 3, 1) := by decide +kernel
theorem dX9_marry_66 : decode cX9_marry 66 = .ok (.if_icmp .le 5, 3) := by decide +kernel
theorem dX9_marry_69 : decode cX9_marry 69 = .ok (.iconst (-1), 1) := by decide +kernel
theorem dX9_marry_70 : decode cX9_marry 70 = .ok (.ireturn, 1) := by decide +kernel
theorem dX9_marry_71 : decode cX9_marry 71 = .ok (.aload_n 0, 1) := by decide +kernel
theorem dX9_marry_72 : decode cX9_marry 72 = .ok (.invokevirtual 335, 3) := by decide +kernel
theorem dX9_marry_75 : decode cX9_marry 75 = .ok (.aload_n 0, 1) := by decide +kernel
theorem dX9_marry_76 : decode cX9_marry 76 = .ok (.iload_n 2, 1) := by decide +kernel
theorem dX9_marry_77 : decode cX9_marry 77 = .ok (.iconst 0, 1) := by decide +kernel
theorem dX9_marry_78 : decode cX9_marry 78 = .ok (.iload 4, 2) := by decide +kernel
theorem dX9_marry_80 : decode cX9_marry 80 = .ok (.invokevirtual 84, 3) := by decide +kernel
theorem dX9_marry_83 : decode cX9_marry 83 = .ok (.aload_n 0, 1) := by decide +kernel
theorem dX9_marry_84 : decode cX9_marry 84 = .ok (.iload_n 2, 1) := by decide +kernel
theorem dX9_marry_85 : decode cX9_marry 85 = .ok (.iconst 1, 1) := by decide +kernel
theorem dX9_marry_86 : decode cX9_marry 86 = .ok (.aload_n 0, 1) := by decide +kernel
theorem dX9_marry_87 : decode cX9_marry 87 = .ok (.iload_n 2, 1) := by decide +kernel
theorem dX9_marry_88 : decode cX9_marry 88 = .ok (.iconst 1, 1) := by decide +kernel
theorem dX9_marry_89 : decode cX9_marry 89 = .ok (.invokevirtual 73, 3) := by decide +kernel
theorem dX9_marry_92 : decode cX9_marry 92 = .ok (.aload_n 0, 1) := by decide +kernel
theorem dX9_marry_93 : decode cX9_marry 93 = .ok (.iload_n 1, 1) := by decide +kernel
theorem dX9_marry_94 : decode cX9_marry 94 = .ok (.iconst 1, 1) := by decide +kernel
theorem dX9_marry_95 : decode cX9_marry 95 = .ok (.invokevirtual 73, 3) := by decide +kernel
theorem dX9_marry_98 : decode cX9_marry 98 = .ok (.iadd, 1) := by decide +kernel
theorem dX9_marry_99 : decode cX9_marry 99 = .ok (.i2l, 1) := by decide +kernel
theorem dX9_marry_100 : decode cX9_marry 100 = .ok (.iconst 0, 1) := by decide +kernel
theorem dX9_marry_101 : decode cX9_marry 101 = .ok (.sipush 9999, 3) := by decide +kernel
theorem dX9_marry_104 : decode cX9_marry 104 = .ok (.invokestatic 299, 3) := by decide +kernel
theorem dX9_marry_107 : decode cX9_marry 107 = .ok (.invokevirtual 84, 3) := by decide +kernel
theorem dX9_marry_110 : decode cX9_marry 110 = .ok (.aload_n 0, 1) := by decide +kernel
theorem dX9_marry_111 : decode cX9_marry 111 = .ok (.iload_n 2, 1) := by decide +kernel
theorem dX9_marry_112 : decode cX9_marry 112 = .ok (.iconst 2, 1) := by decide +kernel
theorem dX9_marry_113 : decode cX9_marry 113 = .ok (.aload_n 0, 1) := by decide +kernel
theorem dX9_marry_114 : decode cX9_marry 114 = .ok (.iload_n 2, 1) := by decide +kernel
theorem dX9_marry_115 : decode cX9_marry 115 = .ok (.iconst 2, 1) := by decide +kernel
theorem dX9_marry_116 : decode cX9_marry 116 = .ok (.invokevirtual 73, 3) := by decide +kernel
theorem dX9_marry_119 : decode cX9_marry 119 = .ok (.aload_n 0, 1) := by decide +kernel
theorem dX9_marry_120 : decode cX9_marry 120 = .ok (.iload_n 1, 1) := by decide +kernel
theorem dX9_marry_121 : decode cX9_marry 121 = .ok (.iconst 2, 1) := by decide +kernel
theorem dX9_marry_122 : decode cX9_marry 122 = .ok (.invokevirtual 73, 3) := by decide +kernel
theorem dX9_marry_125 : decode cX9_marry 125 = .ok (.iadd, 1) := by decide +kernel
theorem dX9_marry_126 : decode cX9_marry 126 = .ok (.i2l, 1) := by decide +kernel
theorem dX9_marry_127 : decode cX9_marry 127 = .ok (.iconst 0, 1) := by decide +kernel
theorem dX9_marry_128 : decode cX9_marry 128 = .ok (.bipush 99, 2) := by decide +kernel
theorem dX9_marry_130 : decode cX9_marry 130 = .ok (.invokestatic 299, 3) := by decide +kernel
theorem dX9_marry_133 : decode cX9_marry 133 = .ok (.invokevirtual 84, 3) := by decide +kernel
theorem dX9_marry_136 : decode cX9_marry 136 = .ok (.aload_n 0, 1) := by decide +kernel
theorem dX9_marry_137 : decode cX9_marry 137 = .ok (.iload_n 1, 1) := by decide +kernel
theorem dX9_marry_138 : decode cX9_marry 138 = .ok (.iconst 3, 1) := by decide +kernel
theorem dX9_marry_139 : decode cX9_marry 139 = .ok (.iconst 1, 1) := by decide +kernel
theorem dX9_marry_140 : decode cX9_marry 140 = .ok (.invokevirtual 84, 3) := by decide +kernel
theorem dX9_marry_143 : decode cX9_marry 143 = .ok (.iload 4, 2) := by decide +kernel
theorem dX9_marry_145 : decode cX9_marry 145 = .ok (.ireturn, 1) := by decide +kernel
def lX9_marry_58 (F : Nat)  (t : Nat) (a1 : Int32) (a2 : Int32) (S : mS) (s0 : Int32) : Option (mS × Int32) := bd (f_X9_bits F S s0) fun q1 => if q1 ≤ (3 : Int32) then (bd (f_X9_keep F S t) fun q2 => bd (f_X9_put F q2 t a2 (0 : Int32) s0) fun q3 => bd (f_X9_get F q3 t a2 (1 : Int32)) fun q4 => bd (f_X9_get F q3 t a1 (1 : Int32)) fun q5 => bd (f_X9_put F q3 t a2 (1 : Int32) (f_X9_cut q3 (Int32.toInt64 (q4 + q5)) (0 : Int32) (9999 : Int32))) fun q6 => bd (f_X9_get F q6 t a2 (2 : Int32)) fun q7 => bd (f_X9_get F q6 t a1 (2 : Int32)) fun q8 => bd (f_X9_put F q6 t a2 (2 : Int32) (f_X9_cut q6 (Int32.toInt64 (q7 + q8)) (0 : Int32) (99 : Int32))) fun q9 => bd (f_X9_put F q9 t a1 (3 : Int32) (1 : Int32)) fun q10 => some (q10, s0)) else (some (S, (-1 : Int32)))
set_option maxHeartbeats 4000000 in
set_option maxRecDepth 100000 in
theorem gX9_marry_58 {x : mX} {F : Nat} {t : Nat} {a1 : Int32} {a2 : Int32}  {R : mS × Int32} (ht : kd0 t = 9)  (S : mS) (s0 : Int32)  (h : lX9_marry_58 F  t a1 a2 S s0 = some R) : mG x μX9_marry 4 0 0 (mQe R.1 (some (.int R.2))) 0 0 E0 S 58 [(0, .ref (t)), (1, .int (a1)), (2, .int (a2))] [.int (s0)] := by
  unfold lX9_marry_58 at h
  refine mG.istore (lv2 := [(4, .int (s0)), (0, .ref (t)), (1, .int (a1)), (2, .int (a2))]) dX9_marry_58 (by decide) rfl ?_
  refine mG.iload 0 dX9_marry_60 rfl ?_
  obtain ⟨q1, hq1, h⟩ := bdp h
  refine mG.callS0 (as := [.int (s0)]) (st := []) (S2 := S) (r := some (.int (q1))) dX9_marry_62 mbX9_bits wk34_9 wk34_8 rfl rfl (by decide) (Nat.le_of_ble_eq_true rfl) (c_X9_bits  hq1) ?_
  refine mG.iconst (v := 3) dX9_marry_65 rfl ?_
  refine mG.icmp_le 71 dX9_marry_66 (by decide) (fun c11 => ?_) (fun c11 => ?_)
  · replace h := itp c11 h
    refine mG.aload_n 1 dX9_marry_71 rfl ?_
    obtain ⟨q2, hq2, h⟩ := bdp h
    refine mG.callV0 (as := []) (st := []) (S2 := q2) (r := none) dX9_marry_72 mvX9_keep wk33_4 rfl ht rfl (by decide) (Nat.le_of_ble_eq_true rfl) (c_X9_keep ht hq2) ?_
    refine mG.aload_n 1 dX9_marry_75 rfl ?_
    refine mG.iload_n 3 dX9_marry_76 rfl ?_
    refine mG.iconst (v := 0) dX9_marry_77 rfl ?_
    refine mG.iload 0 dX9_marry_78 rfl ?_
    obtain ⟨q3, hq3, h⟩ := bdp h
    refine mG.callV0 (as := [.int (a2), .int 0, .int (s0)]) (st := []) (S2 := q3) (r := none) dX9_marry_80 mvX9_put wk7_15 rfl ht rfl (by decide) (Nat.le_of_ble_eq_true rfl) (c_X9_put ht hq3) ?_
    refine mG.aload_n 1 dX9_marry_83 rfl ?_
    refine mG.iload_n 3 dX9_marry_84 rfl ?_
    refine mG.iconst (v := 1) dX9_marry_85 rfl ?_
    refine mG.aload_n 1 dX9_marry_86 rfl ?_
    refine mG.iload_n 3 dX9_marry_87 rfl ?_
    refine mG.iconst (v := 1) dX9_marry_88 rfl ?_
    obtain ⟨q4, hq4, h⟩ := bdp h
    refine mG.callV0 (as := [.int (a2), .int 1]) (st := [.int 1, .int (a2), .ref (t)]) (S2 := q3) (r := some (.int (q4))) dX9_marry_89 mvX9_get wk7_23 rfl ht rfl (by decide) (Nat.le_of_ble_eq_true rfl) (c_X9_get ht hq4) ?_
    refine mG.aload_n 1 dX9_marry_92 rfl ?_
    refine mG.iload_n 2 dX9_marry_93 rfl ?_
    refine mG.iconst (v := 1) dX9_marry_94 rfl ?_
    obtain ⟨q5, hq5, h⟩ := bdp h
    refine mG.callV0 (as := [.int (a1), .int 1]) (st := [.int (q4), .int 1, .int (a2), .ref (t)]) (S2 := q3) (r := some (.int (q5))) dX9_marry_95 mvX9_get wk7_23 rfl ht rfl (by decide) (Nat.le_of_ble_eq_true rfl) (c_X9_get ht hq5) ?_
    refine mG.iadd dX9_marry_98 ?_
    refine mG.i2l dX9_marry_99 ?_
    refine mG.iconst (v := 0) dX9_marry_100 rfl ?_
    refine mG.sipush (v := 9999) dX9_marry_101 (by decide) ?_
    refine mG.callS0 (as := [.long (Int32.toInt64 (q4 + q5)), .int 0, .int 9999]) (st := [.int 1, .int (a2), .ref (t)]) (S2 := q3) (r := some (.int (f_X9_cut q3 (Int32.toInt64 (q4 + q5)) (0 : Int32) (9999 : Int32)))) dX9_marry_104 mbX9_cut wk36_2 wk36_1 rfl rfl (by decide) (Nat.le_of_ble_eq_true rfl) (c_X9_cut  rfl) ?_
    obtain ⟨q6, hq6, h⟩ := bdp h
    refine mG.callV0 (as := [.int (a2), .int 1, .int (f_X9_cut q3 (Int32.toInt64 (q4 + q5)) (0 : Int32) (9999 : Int32))]) (st := []) (S2 := q6) (r := none) dX9_marry_107 mvX9_put wk7_15 rfl ht rfl (by decide) (Nat.le_of_ble_eq_true rfl) (c_X9_put ht hq6) ?_
    refine mG.aload_n 1 dX9_marry_110 rfl ?_
    refine mG.iload_n 3 dX9_marry_111 rfl ?_
    refine mG.iconst (v := 2) dX9_marry_112 rfl ?_
    refine mG.aload_n 1 dX9_marry_113 rfl ?_
    refine mG.iload_n 3 dX9_marry_114 rfl ?_
    refine mG.iconst (v := 2) dX9_marry_115 rfl ?_
    obtain ⟨q7, hq7, h⟩ := bdp h
    refine mG.callV0 (as := [.int (a2), .int 2]) (st := [.int 2, .int (a2), .ref (t)]) (S2 := q6) (r := some (.int (q7))) dX9_marry_116 mvX9_get wk7_23 rfl ht rfl (by decide) (Nat.le_of_ble_eq_true rfl) (c_X9_get ht hq7) ?_
    refine mG.aload_n 1 dX9_marry_119 rfl ?_
    refine mG.iload_n 2 dX9_marry_120 rfl ?_
    refine mG.iconst (v := 2) dX9_marry_121 rfl ?_
    obtain ⟨q8, hq8, h⟩ := bdp h
    refine mG.callV0 (as := [.int (a1), .int 2]) (st := [.int (q7), .int 2, .int (a2), .ref (t)]) (S2 := q6) (r := some (.int (q8))) dX9_marry_122 mvX9_get wk7_23 rfl ht rfl (by decide) (Nat.le_of_ble_eq_true rfl) (c_X9_get ht hq8) ?_
    refine mG.iadd dX9_marry_125 ?_
    refine mG.i2l dX9_marry_126 ?_
    refine mG.iconst (v := 0) dX9_marry_127 rfl ?_
    refine mG.bipush (v := 99) dX9_marry_128 (by decide) ?_
    refine mG.callS0 (as := [.long (Int32.toInt64 (q7 + q8)), .int 0, .int 99]) (st := [.int 2, .int (a2), .ref (t)]) (S2 := q6) (r := some (.int (f_X9_cut q6 (Int32.toInt64 (q7 + q8)) (0 : Int32) (99 : Int32)))) dX9_marry_130 mbX9_cut wk36_2 wk36_1 rfl rfl (by decide) (Nat.le_of_ble_eq_true rfl) (c_X9_cut  rfl) ?_
    obtain ⟨q9, hq9, h⟩ := bdp h
    refine mG.callV0 (as := [.int (a2), .int 2, .int (f_X9_cut q6 (Int32.toInt64 (q7 + q8)) (0 : Int32) (99 : Int32))]) (st := []) (S2 := q9) (r := none) dX9_marry_133 mvX9_put wk7_15 rfl ht rfl (by decide) (Nat.le_of_ble_eq_true rfl) (c_X9_put ht hq9) ?_
    refine mG.aload_n 1 dX9_marry_136 rfl ?_
    refine mG.iload_n 2 dX9_marry_137 rfl ?_
    refine mG.iconst (v := 3) dX9_marry_138 rfl ?_
    refine mG.iconst (v := 1) dX9_marry_139 rfl ?_
    obtain ⟨q10, hq10, h⟩ := bdp h
    refine mG.callV0 (as := [.int (a1), .int 3, .int 1]) (st := []) (S2 := q10) (r := none) dX9_marry_140 mvX9_put wk7_15 rfl ht rfl (by decide) (Nat.le_of_ble_eq_true rfl) (c_X9_put ht hq10) ?_
    refine mG.iload 0 dX9_marry_143 rfl ?_
    obtain rfl := Option.some.inj h
    exact mG.iret dX9_marry_145 rfl ⟨rfl, rfl, rfl⟩
  · replace h := itn c11 h
    refine mG.iconst (v := (-1)) dX9_marry_69 rfl ?_
    obtain rfl := Option.some.inj h
    exact mG.iret dX9_marry_70 rfl ⟨rfl, rfl, rfl⟩
def f_X9_marry (F : Nat) (S : mS) (t : Nat) (a1 : Int32) (a2 : Int32) : Option (mS × Int32) := bd (f_X9_isHere F S t a1) fun q1 => if q1 = true then (bd (f_X9_isHere F S t a2) fun q2 => if q2 = true then (if a1 = a2 then (some (S, (-1 : Int32))) else (bd (f_X9_get F S t a1 (0 : Int32)) fun q3 => bd (f_X9_get F S t a2 (0 : Int32)) fun q4 => if (q3 &&& q4) = 0 then (bd (f_X9_get F S t a1 (0 : Int32)) fun q5 => bd (f_X9_get F S t a2 (0 : Int32)) fun q6 => lX9_marry_58 F  t a1 a2 S (q5 ||| q6)) else (lX9_marry_58 F  t a1 a2 S (q3 &&& q4)))) else (some (S, (-1 : Int32)))) else (some (S, (-1 : Int32)))
set_option maxHeartbeats 4000000 in
set_option maxRecDepth 100000 in
theorem c_X9_marry {F : Nat} {S : mS} {t : Nat} {a1 : Int32} {a2 : Int32} {R : mS × Int32} (ht : kd0 t = 9) (h : f_X9_marry F S t a1 a2 = some R) : mCt μX9_marry 4 0 0 E0 S [.ref (t), .int (a1), .int (a2)] (mQe R.1 (some (.int R.2))) := by
  unfold f_X9_marry at h
  refine mCt.of (by decide) (Nat.le_of_ble_eq_true rfl) ?_
  intro x
  refine mG.aload_n 0 dX9_marry_0 rfl ?_
  refine mG.iload_n 1 dX9_marry_1 rfl ?_
  obtain ⟨q1, hq1, h⟩ := bdp h
  refine mG.callV0 (as := [.int (a1)]) (st := []) (S2 := S) (r := some (.int (bI (q1)))) dX9_marry_2 mvX9_isHere wk32_20 rfl ht rfl (by decide) (Nat.le_of_ble_eq_true rfl) (c_X9_isHere ht hq1) ?_
  refine mG.ifz_eq (b := q1) 21 dX9_marry_5 (by decide) (fun c10 => ?_) (fun c10 => ?_)
  · replace h := itn c10 h
    refine mG.iconst (v := (-1)) dX9_marry_21 rfl ?_
    obtain rfl := Option.some.inj h
    exact mG.iret dX9_marry_22 rfl ⟨rfl, rfl, rfl⟩
  · replace h := itp c10 h
    refine mG.aload_n 0 dX9_marry_8 rfl ?_
    refine mG.iload_n 2 dX9_marry_9 rfl ?_
    obtain ⟨q2, hq2, h⟩ := bdp h
    refine mG.callV0 (as := [.int (a2)]) (st := []) (S2 := S) (r := some (.int (bI (q2)))) dX9_marry_10 mvX9_isHere wk32_20 rfl ht rfl (by decide) (Nat.le_of_ble_eq_true rfl) (c_X9_isHere ht hq2) ?_
    refine mG.ifz_eq (b := q2) 21 dX9_marry_13 (by decide) (fun c9 => ?_) (fun c9 => ?_)
    · replace h := itn c9 h
      refine mG.iconst (v := (-1)) dX9_marry_21 rfl ?_
      obtain rfl := Option.some.inj h
      exact mG.iret dX9_marry_22 rfl ⟨rfl, rfl, rfl⟩
    · replace h := itp c9 h
      refine mG.iload_n 1 dX9_marry_16 rfl ?_
      refine mG.iload_n 2 dX9_marry_17 rfl ?_
      refine mG.icmp_ne 23 dX9_marry_18 (by decide) (fun c8 => ?_) (fun c8 => ?_)
      · replace h := itn c8 h
        refine mG.aload_n 0 dX9_marry_23 rfl ?_
        refine mG.iload_n 1 dX9_marry_24 rfl ?_
        refine mG.iconst (v := 0) dX9_marry_25 rfl ?_
        obtain ⟨q3, hq3, h⟩ := bdp h
        refine mG.callV0 (as := [.int (a1), .int 0]) (st := []) (S2 := S) (r := some (.int (q3))) dX9_marry_26 mvX9_get wk7_23 rfl ht rfl (by decide) (Nat.le_of_ble_eq_true rfl) (c_X9_get ht hq3) ?_
        refine mG.aload_n 0 dX9_marry_29 rfl ?_
        refine mG.iload_n 2 dX9_marry_30 rfl ?_
        refine mG.iconst (v := 0) dX9_marry_31 rfl ?_
        obtain ⟨q4, hq4, h⟩ := bdp h
        refine mG.callV0 (as := [.int (a2), .int 0]) (st := [.int (q3)]) (S2 := S) (r := some (.int (q4))) dX9_marry_32 mvX9_get wk7_23 rfl ht rfl (by decide) (Nat.le_of_ble_eq_true rfl) (c_X9_get ht hq4) ?_
        refine mG.iand dX9_marry_35 ?_
        refine mG.istore_n (lv2 := [(3, .int (q3 &&& q4)), (0, .ref (t)), (1, .int (a1)), (2, .int (a2))]) dX9_marry_36 rfl (by decide) rfl ?_
        refine mG.iload_n 0 dX9_marry_37 rfl ?_
        refine mG.if_eq 45 dX9_marry_38 (by decide) (fun c7 => ?_) (fun c7 => ?_)
        · replace h := itp c7 h
          refine mG.aload_n 1 dX9_marry_45 rfl ?_
          refine mG.iload_n 2 dX9_marry_46 rfl ?_
          refine mG.iconst (v := 0) dX9_marry_47 rfl ?_
          obtain ⟨q5, hq5, h⟩ := bdp h
          refine mG.callV0 (as := [.int (a1), .int 0]) (st := []) (S2 := S) (r := some (.int (q5))) dX9_marry_48 mvX9_get wk7_23 rfl ht rfl (by decide) (Nat.le_of_ble_eq_true rfl) (c_X9_get ht hq5) ?_
          refine mG.aload_n 1 dX9_marry_51 rfl ?_
          refine mG.iload_n 3 dX9_marry_52 rfl ?_
          refine mG.iconst (v := 0) dX9_marry_53 rfl ?_
          obtain ⟨q6, hq6, h⟩ := bdp h
          refine mG.callV0 (as := [.int (a2), .int 0]) (st := [.int (q5)]) (S2 := S) (r := some (.int (q6))) dX9_marry_54 mvX9_get wk7_23 rfl ht rfl (by decide) (Nat.le_of_ble_eq_true rfl) (c_X9_get ht hq6) ?_
          refine mG.ior dX9_marry_57 ?_
          refine mG.sub (lv2 := [(0, .ref (t)), (1, .int (a1)), (2, .int (a2))]) [1, 2, 3] rfl ?_
          exact gX9_marry_58 ht   S (q5 ||| q6)  h
        · replace h := itn c7 h
          refine mG.iload_n 0 dX9_marry_41 rfl ?_
          refine mG.goto 58 dX9_marry_42 (by decide) ?_
          refine mG.sub (lv2 := [(0, .ref (t)), (1, .int (a1)), (2, .int (a2))]) [1, 2, 3] rfl ?_
          exact gX9_marry_58 ht   S (q3 &&& q4)  h
      · replace h := itp c8 h
        refine mG.iconst (v := (-1)) dX9_marry_21 rfl ?_
        obtain rfl := Option.some.inj h
        exact mG.iret dX9_marry_22 rfl ⟨rfl, rfl, rfl⟩
theorem dX9_canDraw_0 : decode cX9_canDraw 0 = .ok (.aload_n 0, 1) := by decide +kernel
theorem dX9_canDraw_1 : decode cX9_canDraw 1 = .ok (.iload_n 1, 1) := by decide +kernel
theorem dX9_canDraw_2 : decode cX9_canDraw 2 = .ok (.invokevirtual 77, 3) := by decide +kernel
theorem dX9_canDraw_5 : decode cX9_canDraw 5 = .ok (.ifCond .eq 20, 3) := by decide +kernel
theorem dX9_canDraw_8 : decode cX9_canDraw 8 = .ok (.aload_n 0, 1) := by decide +kernel
theorem dX9_canDraw_9 : decode cX9_canDraw 9 = .ok (.iload_n 1, 1) := by decide +kernel
theorem dX9_canDraw_10 : decode cX9_canDraw 10 = .ok (.iconst 0, 1) := by decide +kernel
theorem dX9_canDraw_11 : decode cX9_canDraw 11 = .ok (.invokevirtual 73, 3) := by decide +kernel
theorem dX9_canDraw_14 : decode cX9_canDraw 14 = .ok (.invokestatic 305, 3) := by decide +kernel
theorem dX9_canDraw_17 : decode cX9_canDraw 17 = .ok (.iconst 3, 1) := by decide +kernel
theorem dX9_canDraw_18 : decode cX9_canDraw 18 = .ok (.if_icmp .ge 7, 3) := by decide +kernel
theorem dX9_canDraw_21 : decode cX9_canDraw 21 = .ok (.iconst 1, 1) := by decide +kernel
theorem dX9_canDraw_22 : decode cX9_canDraw 22 = .ok (.goto 4, 3) := by decide +kernel
theorem dX9_canDraw_25 : decode cX9_canDraw 25 = .ok (.iconst 0, 1) := by decide +kernel
theorem dX9_canDraw_26 : decode cX9_canDraw 26 = .ok (.ireturn, 1) := by decide +kernel
def f_X9_canDraw (F : Nat) (S0 : mS) (t : Nat) (a1 : Int32) : Option Bool := bd (f_X9_isHere F S0 t a1) fun q1 => if q1 = true then (bd (f_X9_get F S0 t a1 (0 : Int32)) fun q2 => bd (f_X9_bits F S0 q2) fun q3 => if (3 : Int32) ≤ q3 then (some false) else (some true)) else (some false)
set_option maxHeartbeats 4000000 in
set_option maxRecDepth 100000 in
theorem c_X9_canDraw {F : Nat} {S0 : mS} {t : Nat} {a1 : Int32} {R : Bool} (ht : kd0 t = 9) (h : f_X9_canDraw F S0 t a1 = some R) : mCt μX9_canDraw 4 0 0 E0 S0 [.ref (t), .int (a1)] (mQe S0 (some (.int (bI R)))) := by
  unfold f_X9_canDraw at h
  refine mCt.of (by decide) (Nat.le_of_ble_eq_true rfl) ?_
  intro x
  refine mG.aload_n 0 dX9_canDraw_0 rfl ?_
  refine mG.iload_n 1 dX9_canDraw_1 rfl ?_
  obtain ⟨q1, hq1, h⟩ := bdp h
  refine mG.callV0 (as := [.int (a1)]) (st := []) (S2 := S0) (r := some (.int (bI (q1)))) dX9_canDraw_2 mvX9_isHere wk32_20 rfl ht rfl (by decide) (Nat.le_of_ble_eq_true rfl) (c_X9_isHere ht hq1) ?_
  refine mG.ifz_eq (b := q1) 25 dX9_canDraw_5 (by decide) (fun c5 => ?_) (fun c5 => ?_)
  · replace h := itn c5 h
    refine mG.iconst (v := 0) dX9_canDraw_25 rfl ?_
    obtain rfl := Option.some.inj h
    exact mG.zret (b := false) dX9_canDraw_26 rfl rfl ⟨rfl, rfl, rfl⟩
  · replace h := itp c5 h
    refine mG.aload_n 0 dX9_canDraw_8 rfl ?_
    refine mG.iload_n 1 dX9_canDraw_9 rfl ?_
    refine mG.iconst (v := 0) dX9_canDraw_10 rfl ?_
    obtain ⟨q2, hq2, h⟩ := bdp h
    refine mG.callV0 (as := [.int (a1), .int 0]) (st := []) (S2 := S0) (r := some (.int (q2))) dX9_canDraw_11 mvX9_get wk7_23 rfl ht rfl (by decide) (Nat.le_of_ble_eq_true rfl) (c_X9_get ht hq2) ?_
    obtain ⟨q3, hq3, h⟩ := bdp h
    refine mG.callS0 (as := [.int (q2)]) (st := []) (S2 := S0) (r := some (.int (q3))) dX9_canDraw_14 mbX9_bits wk34_9 wk34_8 rfl rfl (by decide) (Nat.le_of_ble_eq_true rfl) (c_X9_bits  hq3) ?_
    refine mG.iconst (v := 3) dX9_canDraw_17 rfl ?_
    refine mG.icmp_ge 25 dX9_canDraw_18 (by decide) (fun c4 => ?_) (fun c4 => ?_)
    · replace h := itp c4 h
      refine mG.iconst (v := 0) dX9_canDraw_25 rfl ?_
      obtain rfl := Option.some.inj h
      exact mG.zret (b := false) dX9_canDraw_26 rfl rfl ⟨rfl, rfl, rfl⟩
    · replace h := itn c4 h
      refine mG.iconst (v := 1) dX9_canDraw_21 rfl ?_
      refine mG.goto 26 dX9_canDraw_22 (by decide) ?_
      obtain rfl := Option.some.inj h
      exact mG.zret (b := true) dX9_canDraw_26 rfl rfl ⟨rfl, rfl, rfl⟩
theorem dX9_anew_0 : decode cX9_anew 0 = .ok (.aload_n 0, 1) := by decide +kernel
theorem dX9_anew_1 : decode cX9_anew 1 = .ok (.getfield 7, 3) := by decide +kernel
theorem dX9_anew_4 : decode cX9_anew 4 = .ok (.bipush 9, 2) := by decide +kernel
theorem dX9_anew_6 : decode cX9_anew 6 = .ok (.aload_n 0, 1) := by decide +kernel
theorem dX9_anew_7 : decode cX9_anew 7 = .ok (.getfield 7, 3) := by decide +kernel
theorem dX9_anew_10 : decode cX9_anew 10 = .ok (.bipush 9, 2) := by decide +kernel
theorem dX9_anew_12 : decode cX9_anew 12 = .ok (.iaload, 1) := by decide +kernel
theorem dX9_anew_13 : decode cX9_anew 13 = .ok (.i2l, 1) := by decide +kernel
theorem dX9_anew_14 : decode cX9_anew 14 = .ok (.ldc2_w 341, 3) := by decide +kernel
theorem dX9_anew_17 : decode cX9_anew 17 = .ok (.lmul, 1) := by decide +kernel
theorem dX9_anew_18 : decode cX9_anew 18 = .ok (.ldc2_w 343, 3) := by decide +kernel
theorem dX9_anew_21 : decode cX9_anew 21 = .ok (.ladd, 1) := by decide +kernel
theorem dX9_anew_22 : decode cX9_anew 22 = .ok (.ldc2_w 345, 3) := by decide +kernel
theorem dX9_anew_25 : decode cX9_anew 25 = .ok (.lrem, 1) := by decide +kernel
theorem dX9_anew_26 : decode cX9_anew 26 = .ok (.l2i, 1) := by decide +kernel
theorem dX9_anew_27 : decode cX9_anew 27 = .ok (.iastore, 1) := by decide +kernel
theorem dX9_anew_28 : decode cX9_anew 28 = .ok (.return_, 1) := by decide +kernel
def f_X9_anew (F : Nat) (S : mS) (t : Nat) : Option mS := ck (inb (9 : Int32) 2308) (ck (inb (9 : Int32) 2308) (stp (sI S (t + 1) (9 : Int32).toNatClampNeg (Int64.toInt32 ((((Int32.toInt64 (S.1 (t + 1) (9 : Int32).toNatClampNeg)) * (359 : Int64)) + (239 : Int64)) - (((Int32.toInt64 (S.1 (t + 1) (9 : Int32).toNatClampNeg)) * (359 : Int64)) + (239 : Int64)) / (30431 : Int64) * (30431 : Int64)))) fun S3 => some S3))
set_option maxHeartbeats 4000000 in
set_option maxRecDepth 100000 in
theorem c_X9_anew {F : Nat} {S : mS} {t : Nat} {R : mS} (ht : kd0 t = 9) (h : f_X9_anew F S t = some R) : mCt μX9_anew 1 0 0 E0 S [.ref (t)] (mQe R none) := by
  unfold f_X9_anew at h
  refine mCt.of (by decide) (Nat.le_of_ble_eq_true rfl) ?_
  intro x
  refine mG.aload_n 0 dX9_anew_0 rfl ?_
  refine mG.get (v := .ref (t + 1)) dX9_anew_1 mfX9_7 ht (lr9_a ht) ?_
  refine mG.bipush (v := 9) dX9_anew_4 (by decide) ?_
  refine mG.aload_n 0 dX9_anew_6 rfl ?_
  refine mG.get (v := .ref (t + 1)) dX9_anew_7 mfX9_7 ht (lr9_a ht) ?_
  refine mG.bipush (v := 9) dX9_anew_10 (by decide) ?_
  obtain ⟨b1, h⟩ := ckp h
  refine mG.iald dX9_anew_12 (lk9_a ht) (ll9_a ht) (inbp b1) ?_
  refine mG.i2l dX9_anew_13 ?_
  refine mG.ldc2 (v := 359) dX9_anew_14 wk38_8 ?_
  refine mG.lmul dX9_anew_17 ?_
  refine mG.ldc2 (v := 239) dX9_anew_18 wk38_9 ?_
  refine mG.ladd dX9_anew_21 ?_
  refine mG.ldc2 (v := 30431) dX9_anew_22 wk38_10 ?_
  refine mG.lrem dX9_anew_25 (by decide) ?_
  refine mG.l2i dX9_anew_26 ?_
  obtain ⟨b2, h⟩ := ckp h
  obtain ⟨S3, hS3, h⟩ := stpp h
  refine mG.iast dX9_anew_27 (lk9_a ht) (ll9_a ht) (inbp b2) hS3 ?_
  obtain rfl := Option.some.inj h
  exact mG.vret dX9_anew_28 rfl ⟨rfl, rfl, rfl⟩
theorem dX9_hatNow_0 : decode cX9_hatNow 0 = .ok (.iconst 0, 1) := by decide +kernel
theorem dX9_hatNow_1 : decode cX9_hatNow 1 = .ok (.istore_n 2, 1) := by decide +kernel
theorem dX9_hatNow_2 : decode cX9_hatNow 2 = .ok (.iload_n 2, 1) := by decide +kernel
theorem dX9_hatNow_3 : decode cX9_hatNow 3 = .ok (.bipush 20, 2) := by decide +kernel
theorem dX9_hatNow_5 : decode cX9_hatNow 5 = .ok (.if_icmp .ge 58, 3) := by decide +kernel
theorem dX9_hatNow_8 : decode cX9_hatNow 8 = .ok (.aload_n 0, 1) := by decide +kernel
theorem dX9_hatNow_9 : decode cX9_hatNow 9 = .ok (.getfield 7, 3) := by decide +kernel
theorem dX9_hatNow_12 : decode cX9_hatNow 12 = .ok (.bipush 9, 2) := by decide +kernel
theorem dX9_hatNow_14 : decode cX9_hatNow 14 = .ok (.iaload, 1) := by decide +kernel
theorem dX9_hatNow_15 : decode cX9_hatNow 15 = .ok (.bipush 20, 2) := by decide +kernel
theorem dX9_hatNow_17 : decode cX9_hatNow 17 = .ok (.irem, 1) := by decide +kernel
theorem dX9_hatNow_18 : decode cX9_hatNow 18 = .ok (.istore_n 3, 1) := by decide +kernel
theorem dX9_hatNow_19 : decode cX9_hatNow 19 = .ok (.aload_n 0, 1) := by decide +kernel
theorem dX9_hatNow_20 : decode cX9_hatNow 20 = .ok (.invokevirtual 347, 3) := by decide +kernel
theorem dX9_hatNow_23 : decode cX9_hatNow 23 = .ok (.aload_n 0, 1) := by decide +kernel
theorem dX9_hatNow_24 : decode cX9_hatNow 24 = .ok (.iload_n 1, 1) := by decide +kernel
theorem dX9_hatNow_25 : decode cX9_hatNow 25 = .ok (.iconst 0, 1) := by decide +kernel
theorem dX9_hatNow_26 : decode cX9_hatNow 26 = .ok (.invokevirtual 73, 3) := by decide +kernel
theorem dX9_hatNow_29 : decode cX9_hatNow 29 = .ok (.iload_n 3, 1) := by decide +kernel
theorem dX9_hatNow_30 : decode cX9_hatNow 30 = .ok (.invokestatic 80, 3) := by decide +kernel
theorem dX9_hatNow_33 : decode cX9_hatNow 33 = .ok (.ifCond .eq 6, 3) := by decide +kernel
theorem dX9_hatNow_36 : decode cX9_hatNow 36 = .ok (.goto 21, 3) := by decide +kernel
theorem dX9_hatNow_39 : decode cX9_hatNow 39 = .ok (.aload_n 0, 1) := by decide +kernel
theorem dX9_hatNow_40 : decode cX9_hatNow 40 = .ok (.iload_n 1, 1) := by decide +kernel
theorem dX9_hatNow_41 : decode cX9_hatNow 41 = .ok (.iconst 0, 1) := by decide +kernel
theorem dX9_hatNow_42 : decode cX9_hatNow 42 = .ok (.aload_n 0, 1) := by decide +kernel
theorem dX9_hatNow_43 : decode cX9_hatNow 43 = .ok (.iload_n 1, 1) := by decide +kernel
theorem dX9_hatNow_44 : decode cX9_hatNow 44 = .ok (.iconst 0, 1) := by decide +kernel
theorem dX9_hatNow_45 : decode cX9_hatNow 45 = .ok (.invokevirtual 73, 3) := by decide +kernel
theorem dX9_hatNow_48 : decode cX9_hatNow 48 = .ok (.iconst 1, 1) := by decide +kernel
theorem dX9_hatNow_49 : decode cX9_hatNow 49 = .ok (.iload_n 3, 1) := by decide +kernel
theorem dX9_hatNow_50 : decode cX9_hatNow 50 = .ok (.ishl, 1) := by decide +kernel
theorem dX9_hatNow_51 : decode cX9_hatNow 51 = .ok (.ior, 1) := by decide +kernel
theorem dX9_hatNow_52 : decode cX9_hatNow 52 = .ok (.invokevirtual 84, 3) := by decide +kernel
theorem dX9_hatNow_55 : decode cX9_hatNow 55 = .ok (.iload_n 3, 1) := by decide +kernel
theorem dX9_hatNow_56 : decode cX9_hatNow 56 = .ok (.ireturn, 1) := by decide +kernel
theorem dX9_hatNow_57 : decode cX9_hatNow 57 = .ok (.iinc 2 1, 3) := by decide +kernel
theorem dX9_hatNow_60 : decode cX9_hatNow 60 = .ok (.goto (-58), 3) := by decide +kernel
theorem dX9_hatNow_63 : decode cX9_hatNow 63 = .ok (.iconst (-1), 1) := by decide +kernel
theorem dX9_hatNow_64 : decode cX9_hatNow 64 = .ok (.ireturn, 1) := by decide +kernel
def lX9_hatNow_2 (F : Nat)  (t : Nat) (a1 : Int32) : Nat → mS → Int32 → Option (mS × Int32)
  | 0, _, _ => none
  | n + 1, S, v2 => if (20 : Int32) ≤ v2 then (some (S, (-1 : Int32))) else (ck (inb (9 : Int32) 2308) (bd (f_X9_anew F S t) fun q2 => bd (f_X9_get F q2 t a1 (0 : Int32)) fun q3 => if (f_X9_has q2 q3 ((S.1 (t + 1) (9 : Int32).toNatClampNeg) - (S.1 (t + 1) (9 : Int32).toNatClampNeg) / (20 : Int32) * (20 : Int32))) = true then (lX9_hatNow_2 F  t a1 n q2 (v2 + 1)) else (bd (f_X9_get F q2 t a1 (0 : Int32)) fun q4 => bd (f_X9_put F q2 t a1 (0 : Int32) (q4 ||| ((1 : Int32) <<< (((S.1 (t + 1) (9 : Int32).toNatClampNeg) - (S.1 (t + 1) (9 : Int32).toNatClampNeg) / (20 : Int32) * (20 : Int32)) &&& 31)))) fun q5 => some (q5, (S.1 (t + 1) (9 : Int32).toNatClampNeg) - (S.1 (t + 1) (9 : Int32).toNatClampNeg) / (20 : Int32) * (20 : Int32)))))
set_option maxHeartbeats 4000000 in
set_option maxRecDepth 100000 in
theorem gX9_hatNow_2 {x : mX} {F : Nat} {t : Nat} {a1 : Int32}   {R : mS × Int32} (ht : kd0 t = 9)  : ∀ (n : Nat) (S : mS) (v2 : Int32), lX9_hatNow_2 F  t a1 n S v2 = some R → mG x μX9_hatNow 2 0 0 (mQe R.1 (some (.int R.2))) 0 0 E0 S 2 [(0, .ref (t)), (1, .int (a1)), (2, .int (v2))] [] := by
  intro n
  induction n with
  | zero =>
    intro S v2 h
    cases h
  | succ n ih =>
    intro S v2 h
    unfold lX9_hatNow_2 at h
    refine mG.iload_n 2 dX9_hatNow_2 rfl ?_
    refine mG.bipush (v := 20) dX9_hatNow_3 (by decide) ?_
    refine mG.icmp_ge 63 dX9_hatNow_5 (by decide) (fun c7 => ?_) (fun c7 => ?_)
    · replace h := itp c7 h
      refine mG.iconst (v := (-1)) dX9_hatNow_63 rfl ?_
      obtain rfl := Option.some.inj h
      exact mG.iret dX9_hatNow_64 rfl ⟨rfl, rfl, rfl⟩
    · replace h := itn c7 h
      refine mG.aload_n 0 dX9_hatNow_8 rfl ?_
      refine mG.get (v := .ref (t + 1)) dX9_hatNow_9 mfX9_7 ht (lr9_a ht) ?_
      refine mG.bipush (v := 9) dX9_hatNow_12 (by decide) ?_
      obtain ⟨b1, h⟩ := ckp h
      refine mG.iald dX9_hatNow_14 (lk9_a ht) (ll9_a ht) (inbp b1) ?_
      refine mG.bipush (v := 20) dX9_hatNow_15 (by decide) ?_
      refine mG.irem dX9_hatNow_17 (by decide) ?_
      refine mG.istore_n (lv2 := [(3, .int ((S.1 (t + 1) (9 : Int32).toNatClampNeg) - (S.1 (t + 1) (9 : Int32).toNatClampNeg) / (20 : Int32) * (20 : Int32))), (0, .ref (t)), (1, .int (a1)), (2, .int (v2))]) dX9_hatNow_18 rfl (by decide) rfl ?_
      refine mG.aload_n 1 dX9_hatNow_19 rfl ?_
      obtain ⟨q2, hq2, h⟩ := bdp h
      refine mG.callV0 (as := []) (st := []) (S2 := q2) (r := none) dX9_hatNow_20 mvX9_anew wk38_4 rfl ht rfl (by decide) (Nat.le_of_ble_eq_true rfl) (c_X9_anew ht hq2) ?_
      refine mG.aload_n 1 dX9_hatNow_23 rfl ?_
      refine mG.iload_n 2 dX9_hatNow_24 rfl ?_
      refine mG.iconst (v := 0) dX9_hatNow_25 rfl ?_
      obtain ⟨q3, hq3, h⟩ := bdp h
      refine mG.callV0 (as := [.int (a1), .int 0]) (st := []) (S2 := q2) (r := some (.int (q3))) dX9_hatNow_26 mvX9_get wk7_23 rfl ht rfl (by decide) (Nat.le_of_ble_eq_true rfl) (c_X9_get ht hq3) ?_
      refine mG.iload_n 0 dX9_hatNow_29 rfl ?_
      refine mG.callS0 (as := [.int (q3), .int ((S.1 (t + 1) (9 : Int32).toNatClampNeg) - (S.1 (t + 1) (9 : Int32).toNatClampNeg) / (20 : Int32) * (20 : Int32))]) (st := []) (S2 := q2) (r := some (.int (bI (f_X9_has q2 q3 ((S.1 (t + 1) (9 : Int32).toNatClampNeg) - (S.1 (t + 1) (9 : Int32).toNatClampNeg) / (20 : Int32) * (20 : Int32)))))) dX9_hatNow_30 mbX9_has wk22_12 wk22_11 rfl rfl (by decide) (Nat.le_of_ble_eq_true rfl) (c_X9_has  rfl) ?_
      refine mG.ifz_eq (b := f_X9_has q2 q3 ((S.1 (t + 1) (9 : Int32).toNatClampNeg) - (S.1 (t + 1) (9 : Int32).toNatClampNeg) / (20 : Int32) * (20 : Int32))) 39 dX9_hatNow_33 (by decide) (fun c6 => ?_) (fun c6 => ?_)
      · replace h := itn c6 h
        refine mG.aload_n 1 dX9_hatNow_39 rfl ?_
        refine mG.iload_n 2 dX9_hatNow_40 rfl ?_
        refine mG.iconst (v := 0) dX9_hatNow_41 rfl ?_
        refine mG.aload_n 1 dX9_hatNow_42 rfl ?_
        refine mG.iload_n 2 dX9_hatNow_43 rfl ?_
        refine mG.iconst (v := 0) dX9_hatNow_44 rfl ?_
        obtain ⟨q4, hq4, h⟩ := bdp h
        refine mG.callV0 (as := [.int (a1), .int 0]) (st := [.int 0, .int (a1), .ref (t)]) (S2 := q2) (r := some (.int (q4))) dX9_hatNow_45 mvX9_get wk7_23 rfl ht rfl (by decide) (Nat.le_of_ble_eq_true rfl) (c_X9_get ht hq4) ?_
        refine mG.iconst (v := 1) dX9_hatNow_48 rfl ?_
        refine mG.iload_n 0 dX9_hatNow_49 rfl ?_
        refine mG.ishl dX9_hatNow_50 ?_
        refine mG.ior dX9_hatNow_51 ?_
        obtain ⟨q5, hq5, h⟩ := bdp h
        refine mG.callV0 (as := [.int (a1), .int 0, .int (q4 ||| ((1 : Int32) <<< (((S.1 (t + 1) (9 : Int32).toNatClampNeg) - (S.1 (t + 1) (9 : Int32).toNatClampNeg) / (20 : Int32) * (20 : Int32)) &&& 31)))]) (st := []) (S2 := q5) (r := none) dX9_hatNow_52 mvX9_put wk7_15 rfl ht rfl (by decide) (Nat.le_of_ble_eq_true rfl) (c_X9_put ht hq5) ?_
        refine mG.iload_n 0 dX9_hatNow_55 rfl ?_
        obtain rfl := Option.some.inj h
        exact mG.iret dX9_hatNow_56 rfl ⟨rfl, rfl, rfl⟩
      · replace h := itp c6 h
        refine mG.goto 57 dX9_hatNow_36 (by decide) ?_
        refine mG.iinc 3 (u := v2 + 1) (lv2 := [(2, .int (v2 + 1)), (3, .int ((S.1 (t + 1) (9 : Int32).toNatClampNeg) - (S.1 (t + 1) (9 : Int32).toNatClampNeg) / (20 : Int32) * (20 : Int32))), (0, .ref (t)), (1, .int (a1))]) dX9_hatNow_57 rfl rfl (by decide) rfl ?_
        refine mG.goto 2 dX9_hatNow_60 (by decide) ?_
        refine mG.sub (lv2 := [(0, .ref (t)), (1, .int (a1)), (2, .int (v2 + 1))]) [2, 3, 0] rfl ?_
        exact ih q2 (v2 + 1)  h
def f_X9_hatNow (F : Nat) (S : mS) (t : Nat) (a1 : Int32) : Option (mS × Int32) := lX9_hatNow_2 F  t a1 F S (0 : Int32)
set_option maxHeartbeats 4000000 in
set_option maxRecDepth 100000 in
theorem c_X9_hatNow {F : Nat} {S : mS} {t : Nat} {a1 : Int32} {R : mS × Int32} (ht : kd0 t = 9) (h : f_X9_hatNow F S t a1 = some R) : mCt μX9_hatNow 2 0 0 E0 S [.ref (t), .int (a1)] (mQe R.1 (some (.int R.2))) := by
  unfold f_X9_hatNow at h
  refine mCt.of (by decide) (Nat.le_of_ble_eq_true rfl) ?_
  intro x
  refine mG.iconst (v := 0) dX9_hatNow_0 rfl ?_
  refine mG.istore_n (lv2 := [(2, .int 0), (0, .ref (t)), (1, .int (a1))]) dX9_hatNow_1 rfl (by decide) rfl ?_
  refine mG.sub (lv2 := [(0, .ref (t)), (1, .int (a1)), (2, .int 0)]) [1, 2, 0] rfl ?_
  exact gX9_hatNow_2 ht  F S (0 : Int32)  h
theorem dX9_hat_0 : decode cX9_hat 0 = .ok (.aload_n 0, 1) := by decide +kernel
theorem dX9_hat_1 : decode cX9_hat 1 = .ok (.iload_n 1, 1) := by decide +kernel
theorem dX9_hat_2 : decode cX9_hat 2 = .ok (.invokevirtual 350, 3) := by decide +kernel
theorem dX9_hat_5 : decode cX9_hat 5 = .ok (.ifCond .ne 5, 3) := by decide +kernel
theorem dX9_hat_8 : decode cX9_hat 8 = .ok (.iconst (-1), 1) := by decide +kernel
theorem dX9_hat_9 : decode cX9_hat 9 = .ok (.ireturn, 1) := by decide +kernel
theorem dX9_hat_10 : decode cX9_hat 10 = .ok (.aload_n 0, 1) := by decide +kernel
theorem dX9_hat_11 : decode cX9_hat 11 = .ok (.invokevirtual 335, 3) := by decide +kernel
theorem dX9_hat_14 : decode cX9_hat 14 = .ok (.aload_n 0, 1) := by decide +kernel
theorem dX9_hat_15 : decode cX9_hat 15 = .ok (.iload_n 1, 1) := by decide +kernel
theorem dX9_hat_16 : decode cX9_hat 16 = .ok (.invokevirtual 353, 3) := by decide +kernel
theorem dX9_hat_19 : decode cX9_hat 19 = .ok (.ireturn, 1) := by decide +kernel
def f_X9_hat (F : Nat) (S : mS) (t : Nat) (a1 : Int32) : Option (mS × Int32) := bd (f_X9_canDraw F S t a1) fun q1 => if q1 = true then (bd (f_X9_keep F S t) fun q2 => bd (f_X9_hatNow F q2 t a1) fun q3 => some (q3.1, q3.2)) else (some (S, (-1 : Int32)))
set_option maxHeartbeats 4000000 in
set_option maxRecDepth 100000 in
theorem c_X9_hat {F : Nat} {S : mS} {t : Nat} {a1 : Int32} {R : mS × Int32} (ht : kd0 t = 9) (h : f_X9_hat F S t a1 = some R) : mCt μX9_hat 5 0 0 E0 S [.ref (t), .int (a1)] (mQe R.1 (some (.int R.2))) := by
  unfold f_X9_hat at h
  refine mCt.of (by decide) (Nat.le_of_ble_eq_true rfl) ?_
  intro x
  refine mG.aload_n 0 dX9_hat_0 rfl ?_
  refine mG.iload_n 1 dX9_hat_1 rfl ?_
  obtain ⟨q1, hq1, h⟩ := bdp h
  refine mG.callV0 (as := [.int (a1)]) (st := []) (S2 := S) (r := some (.int (bI (q1)))) dX9_hat_2 mvX9_canDraw wk37_20 rfl ht rfl (by decide) (Nat.le_of_ble_eq_true rfl) (c_X9_canDraw ht hq1) ?_
  refine mG.ifz_ne (b := q1) 10 dX9_hat_5 (by decide) (fun c4 => ?_) (fun c4 => ?_)
  · replace h := itp c4 h
    refine mG.aload_n 0 dX9_hat_10 rfl ?_
    obtain ⟨q2, hq2, h⟩ := bdp h
    refine mG.callV0 (as := []) (st := []) (S2 := q2) (r := none) dX9_hat_11 mvX9_keep wk33_4 rfl ht rfl (by decide) (Nat.le_of_ble_eq_true rfl) (c_X9_keep ht hq2) ?_
    refine mG.aload_n 0 dX9_hat_14 rfl ?_
    refine mG.iload_n 1 dX9_hat_15 rfl ?_
    obtain ⟨q3, hq3, h⟩ := bdp h
    refine mG.callV0 (as := [.int (a1)]) (st := []) (S2 := q3.1) (r := some (.int (q3.2))) dX9_hat_16 mvX9_hatNow wk38_0 rfl ht rfl (by decide) (Nat.le_of_ble_eq_true rfl) (c_X9_hatNow ht hq3) ?_
    obtain rfl := Option.some.inj h
    exact mG.iret dX9_hat_19 rfl ⟨rfl, rfl, rfl⟩
  · replace h := itn c4 h
    refine mG.iconst (v := (-1)) dX9_hat_8 rfl ?_
    obtain rfl := Option.some.inj h
    exact mG.iret dX9_hat_9 rfl ⟨rfl, rfl, rfl⟩
theorem dX9_canForget_0 : decode cX9_canForget 0 = .ok (.aload_n 0, 1) := by decide +kernel
theorem dX9_canForget_1 : decode cX9_canForget 1 = .ok (.iload_n 2, 1) := by decide +kernel
theorem dX9_canForget_2 : decode cX9_canForget 2 = .ok (.invokevirtual 77, 3) := by decide +kernel
theorem dX9_canForget_5 : decode cX9_canForget 5 = .ok (.ifCond .eq 30, 3) := by decide +kernel
theorem dX9_canForget_8 : decode cX9_canForget 8 = .ok (.iload_n 1, 1) := by decide +kernel
theorem dX9_canForget_9 : decode cX9_canForget 9 = .ok (.iconst 0, 1) := by decide +kernel
theorem dX9_canForget_10 : decode cX9_canForget 10 = .ok (.bipush 19, 2) := by decide +kernel
theorem dX9_canForget_12 : decode cX9_canForget 12 = .ok (.invokestatic 65, 3) := by decide +kernel
theorem dX9_canForget_15 : decode cX9_canForget 15 = .ok (.ifCond .eq 20, 3) := by decide +kernel
theorem dX9_canForget_18 : decode cX9_canForget 18 = .ok (.aload_n 0, 1) := by decide +kernel
theorem dX9_canForget_19 : decode cX9_canForget 19 = .ok (.iload_n 2, 1) := by decide +kernel
theorem dX9_canForget_20 : decode cX9_canForget 20 = .ok (.iconst 0, 1) := by decide +kernel
theorem dX9_canForget_21 : decode cX9_canForget 21 = .ok (.invokevirtual 73, 3) := by decide +kernel
theorem dX9_canForget_24 : decode cX9_canForget 24 = .ok (.iload_n 1, 1) := by decide +kernel
theorem dX9_canForget_25 : decode cX9_canForget 25 = .ok (.invokestatic 80, 3) := by decide +kernel
theorem dX9_canForget_28 : decode cX9_canForget 28 = .ok (.ifCond .eq 7, 3) := by decide +kernel
theorem dX9_canForget_31 : decode cX9_canForget 31 = .ok (.iconst 1, 1) := by decide +kernel
theorem dX9_canForget_32 : decode cX9_canForget 32 = .ok (.goto 4, 3) := by decide +kernel
theorem dX9_canForget_35 : decode cX9_canForget 35 = .ok (.iconst 0, 1) := by decide +kernel
theorem dX9_canForget_36 : decode cX9_canForget 36 = .ok (.ireturn, 1) := by decide +kernel
def f_X9_canForget (F : Nat) (S0 : mS) (t : Nat) (a1 : Int32) (a2 : Int32) : Option Bool := bd (f_X9_isHere F S0 t a2) fun q1 => if q1 = true then (if (f_X9_isIn S0 a1 (0 : Int32) (19 : Int32)) = true then (bd (f_X9_get F S0 t a2 (0 : Int32)) fun q2 => if (f_X9_has S0 q2 a1) = true then (some true) else (some false)) else (some false)) else (some false)
set_option maxHeartbeats 4000000 in
set_option maxRecDepth 100000 in
theorem c_X9_canForget {F : Nat} {S0 : mS} {t : Nat} {a1 : Int32} {a2 : Int32} {R : Bool} (ht : kd0 t = 9) (h : f_X9_canForget F S0 t a1 a2 = some R) : mCt μX9_canForget 4 0 0 E0 S0 [.ref (t), .int (a1), .int (a2)] (mQe S0 (some (.int (bI R)))) := by
  unfold f_X9_canForget at h
  refine mCt.of (by decide) (Nat.le_of_ble_eq_true rfl) ?_
  intro x
  refine mG.aload_n 0 dX9_canForget_0 rfl ?_
  refine mG.iload_n 2 dX9_canForget_1 rfl ?_
  obtain ⟨q1, hq1, h⟩ := bdp h
  refine mG.callV0 (as := [.int (a2)]) (st := []) (S2 := S0) (r := some (.int (bI (q1)))) dX9_canForget_2 mvX9_isHere wk32_20 rfl ht rfl (by decide) (Nat.le_of_ble_eq_true rfl) (c_X9_isHere ht hq1) ?_
  refine mG.ifz_eq (b := q1) 35 dX9_canForget_5 (by decide) (fun c5 => ?_) (fun c5 => ?_)
  · replace h := itn c5 h
    refine mG.iconst (v := 0) dX9_canForget_35 rfl ?_
    obtain rfl := Option.some.inj h
    exact mG.zret (b := false) dX9_canForget_36 rfl rfl ⟨rfl, rfl, rfl⟩
  · replace h := itp c5 h
    refine mG.iload_n 1 dX9_canForget_8 rfl ?_
    refine mG.iconst (v := 0) dX9_canForget_9 rfl ?_
    refine mG.bipush (v := 19) dX9_canForget_10 (by decide) ?_
    refine mG.callS0 (as := [.int (a1), .int 0, .int 19]) (st := []) (S2 := S0) (r := some (.int (bI (f_X9_isIn S0 a1 (0 : Int32) (19 : Int32))))) dX9_canForget_12 mbX9_isIn wk7_13 wk7_12 rfl rfl (by decide) (Nat.le_of_ble_eq_true rfl) (c_X9_isIn  rfl) ?_
    refine mG.ifz_eq (b := f_X9_isIn S0 a1 (0 : Int32) (19 : Int32)) 35 dX9_canForget_15 (by decide) (fun c4 => ?_) (fun c4 => ?_)
    · replace h := itn c4 h
      refine mG.iconst (v := 0) dX9_canForget_35 rfl ?_
      obtain rfl := Option.some.inj h
      exact mG.zret (b := false) dX9_canForget_36 rfl rfl ⟨rfl, rfl, rfl⟩
    · replace h := itp c4 h
      refine mG.aload_n 0 dX9_canForget_18 rfl ?_
      refine mG.iload_n 2 dX9_canForget_19 rfl ?_
      refine mG.iconst (v := 0) dX9_canForget_20 rfl ?_
      obtain ⟨q2, hq2, h⟩ := bdp h
      refine mG.callV0 (as := [.int (a2), .int 0]) (st := []) (S2 := S0) (r := some (.int (q2))) dX9_canForget_21 mvX9_get wk7_23 rfl ht rfl (by decide) (Nat.le_of_ble_eq_true rfl) (c_X9_get ht hq2) ?_
      refine mG.iload_n 1 dX9_canForget_24 rfl ?_
      refine mG.callS0 (as := [.int (q2), .int (a1)]) (st := []) (S2 := S0) (r := some (.int (bI (f_X9_has S0 q2 a1)))) dX9_canForget_25 mbX9_has wk22_12 wk22_11 rfl rfl (by decide) (Nat.le_of_ble_eq_true rfl) (c_X9_has  rfl) ?_
      refine mG.ifz_eq (b := f_X9_has S0 q2 a1) 35 dX9_canForget_28 (by decide) (fun c3 => ?_) (fun c3 => ?_)
      · replace h := itn c3 h
        refine mG.iconst (v := 0) dX9_canForget_35 rfl ?_
        obtain rfl := Option.some.inj h
        exact mG.zret (b := false) dX9_canForget_36 rfl rfl ⟨rfl, rfl, rfl⟩
      · replace h := itp c3 h
        refine mG.iconst (v := 1) dX9_canForget_31 rfl ?_
        refine mG.goto 36 dX9_canForget_32 (by decide) ?_
        obtain rfl := Option.some.inj h
        exact mG.zret (b := true) dX9_canForget_36 rfl rfl ⟨rfl, rfl, rfl⟩
theorem dX9_forgetNow_0 : decode cX9_forgetNow 0 = .ok (.aload_n 0, 1) := by decide +kernel
theorem dX9_forgetNow_1 : decode cX9_forgetNow 1 = .ok (.iload_n 2, 1) := by decide +kernel
theorem dX9_forgetNow_2 : decode cX9_forgetNow 2 = .ok (.iconst 0, 1) := by decide +kernel
theorem dX9_forgetNow_3 : decode cX9_forgetNow 3 = .ok (.aload_n 0, 1) := by decide +kernel
theorem dX9_forgetNow_4 : decode cX9_forgetNow 4 = .ok (.iload_n 2, 1) := by decide +kernel
theorem dX9_forgetNow_5 : decode cX9_forgetNow 5 = .ok (.iconst 0, 1) := by decide +kernel
theorem dX9_forgetNow_6 : decode cX9_forgetNow 6 = .ok (.invokevirtual 73, 3) := by decide +kernel
theorem dX9_forgetNow_9 : decode cX9_forgetNow 9 = .ok (.iconst 1, 1) := by decide +kernel
theorem dX9_forgetNow_10 : decode cX9_forgetNow 10 = .ok (.iload_n 1, 1) := by decide +kernel
theorem dX9_forgetNow_11 : decode cX9_forgetNow 11 = .ok (.ishl, 1) := by decide +kernel
theorem dX9_forgetNow_12 : decode cX9_forgetNow 12 = .ok (.iconst (-1), 1) := by decide +kernel
theorem dX9_forgetNow_13 : decode cX9_forgetNow 13 = .ok (.ixor, 1) := by decide +kernel
theorem dX9_forgetNow_14 : decode cX9_forgetNow 14 = .ok (.iand, 1) := by decide +kernel
theorem dX9_forgetNow_15 : decode cX9_forgetNow 15 = .ok (.invokevirtual 84, 3) := by decide +kernel
theorem dX9_forgetNow_18 : decode cX9_forgetNow 18 = .ok (.return_, 1) := by decide +kernel
def f_X9_forgetNow (F : Nat) (S : mS) (t : Nat) (a1 : Int32) (a2 : Int32) : Option mS := bd (f_X9_get F S t a2 (0 : Int32)) fun q1 => bd (f_X9_put F S t a2 (0 : Int32) (q1 &&& (((1 : Int32) <<< (a1 &&& 31)) ^^^ (-1 : Int32)))) fun q2 => some q2
set_option maxHeartbeats 4000000 in
set_option maxRecDepth 100000 in
theorem c_X9_forgetNow {F : Nat} {S : mS} {t : Nat} {a1 : Int32} {a2 : Int32} {R : mS} (ht : kd0 t = 9) (h : f_X9_forgetNow F S t a1 a2 = some R) : mCt μX9_forgetNow 2 0 0 E0 S [.ref (t), .int (a1), .int (a2)] (mQe R none) := by
  unfold f_X9_forgetNow at h
  refine mCt.of (by decide) (Nat.le_of_ble_eq_true rfl) ?_
  intro x
  refine mG.aload_n 0 dX9_forgetNow_0 rfl ?_
  refine mG.iload_n 2 dX9_forgetNow_1 rfl ?_
  refine mG.iconst (v := 0) dX9_forgetNow_2 rfl ?_
  refine mG.aload_n 0 dX9_forgetNow_3 rfl ?_
  refine mG.iload_n 2 dX9_forgetNow_4 rfl ?_
  refine mG.iconst (v := 0) dX9_forgetNow_5 rfl ?_
  obtain ⟨q1, hq1, h⟩ := bdp h
  refine mG.callV0 (as := [.int (a2), .int 0]) (st := [.int 0, .int (a2), .ref (t)]) (S2 := S) (r := some (.int (q1))) dX9_forgetNow_6 mvX9_get wk7_23 rfl ht rfl (by decide) (Nat.le_of_ble_eq_true rfl) (c_X9_get ht hq1) ?_
  refine mG.iconst (v := 1) dX9_forgetNow_9 rfl ?_
  refine mG.iload_n 1 dX9_forgetNow_10 rfl ?_
  refine mG.ishl dX9_forgetNow_11 ?_
  refine mG.iconst (v := (-1)) dX9_forgetNow_12 rfl ?_
  refine mG.ixor dX9_forgetNow_13 ?_
  refine mG.iand dX9_forgetNow_14 ?_
  obtain ⟨q2, hq2, h⟩ := bdp h
  refine mG.callV0 (as := [.int (a2), .int 0, .int (q1 &&& (((1 : Int32) <<< (a1 &&& 31)) ^^^ (-1 : Int32)))]) (st := []) (S2 := q2) (r := none) dX9_forgetNow_15 mvX9_put wk7_15 rfl ht rfl (by decide) (Nat.le_of_ble_eq_true rfl) (c_X9_put ht hq2) ?_
  obtain rfl := Option.some.inj h
  exact mG.vret dX9_forgetNow_18 rfl ⟨rfl, rfl, rfl⟩
theorem dX9_forget_0 : decode cX9_forget 0 = .ok (.aload_n 0, 1) := by decide +kernel
theorem dX9_forget_1 : decode cX9_forget 1 = .ok (.iload_n 1, 1) := by decide +kernel
theorem dX9_forget_2 : decode cX9_forget 2 = .ok (.iload_n 2, 1) := by decide +kernel
theorem dX9_forget_3 : decode cX9_forget 3 = .ok (.invokevirtual 356, 3) := by decide +kernel
theorem dX9_forget_6 : decode cX9_forget 6 = .ok (.ifCond .ne 5, 3) := by decide +kernel
theorem dX9_forget_9 : decode cX9_forget 9 = .ok (.iconst 0, 1) := by decide +kernel
theorem dX9_forget_10 : decode cX9_forget 10 = .ok (.ireturn, 1) := by decide +kernel
theorem dX9_forget_11 : decode cX9_forget 11 = .ok (.aload_n 0, 1) := by decide +kernel
theorem dX9_forget_12 : decode cX9_forget 12 = .ok (.invokevirtual 335, 3) := by decide +kernel
theorem dX9_forget_15 : decode cX9_forget 15 = .ok (.aload_n 0, 1) := by decide +kernel
theorem dX9_forget_16 : decode cX9_forget 16 = .ok (.iload_n 1, 1) := by decide +kernel
theorem dX9_forget_17 : decode cX9_forget 17 = .ok (.iload_n 2, 1) := by decide +kernel
theorem dX9_forget_18 : decode cX9_forget 18 = .ok (.invokevirtual 359, 3) := by decide +kernel
theorem dX9_forget_21 : decode cX9_forget 21 = .ok (.iconst 1, 1) := by decide +kernel
theorem dX9_forget_22 : decode cX9_forget 22 = .ok (.ireturn, 1) := by decide +kernel
def f_X9_forget (F : Nat) (S : mS) (t : Nat) (a1 : Int32) (a2 : Int32) : Option (mS × Bool) := bd (f_X9_canForget F S t a1 a2) fun q1 => if q1 = true then (bd (f_X9_keep F S t) fun q2 => bd (f_X9_forgetNow F q2 t a1 a2) fun q3 => some (q3, true)) else (some (S, false))
set_option maxHeartbeats 4000000 in
set_option maxRecDepth 100000 in
theorem c_X9_forget {F : Nat} {S : mS} {t : Nat} {a1 : Int32} {a2 : Int32} {R : mS × Bool} (ht : kd0 t = 9) (h : f_X9_forget F S t a1 a2 = some R) : mCt μX9_forget 5 0 0 E0 S [.ref (t), .int (a1), .int (a2)] (mQe R.1 (some (.int (bI R.2)))) := by
  unfold f_X9_forget at h
  refine mCt.of (by decide) (Nat.le_of_ble_eq_true rfl) ?_
  intro x
  refine mG.aload_n 0 dX9_forget_0 rfl ?_
  refine mG.iload_n 1 dX9_forget_1 rfl ?_
  refine mG.iload_n 2 dX9_forget_2 rfl ?_
  obtain ⟨q1, hq1, h⟩ := bdp h
  refine mG.callV0 (as := [.int (a1), .int (a2)]) (st := []) (S2 := S) (r := some (.int (bI (q1)))) dX9_forget_3 mvX9_canForget wk39_4 rfl ht rfl (by decide) (Nat.le_of_ble_eq_true rfl) (c_X9_canForget ht hq1) ?_
  refine mG.ifz_ne (b := q1) 11 dX9_forget_6 (by decide) (fun c4 => ?_) (fun c4 => ?_)
  · replace h := itp c4 h
    refine mG.aload_n 0 dX9_forget_11 rfl ?_
    obtain ⟨q2, hq2, h⟩ := bdp h
    refine mG.callV0 (as := []) (st := []) (S2 := q2) (r := none) dX9_forget_12 mvX9_keep wk33_4 rfl ht rfl (by decide) (Nat.le_of_ble_eq_true rfl) (c_X9_keep ht hq2) ?_
    refine mG.aload_n 0 dX9_forget_15 rfl ?_
    refine mG.iload_n 1 dX9_forget_16 rfl ?_
    refine mG.iload_n 2 dX9_forget_17 rfl ?_
    obtain ⟨q3, hq3, h⟩ := bdp h
    refine mG.callV0 (as := [.int (a1), .int (a2)]) (st := []) (S2 := q3) (r := none) dX9_forget_18 mvX9_forgetNow wk39_8 rfl ht rfl (by decide) (Nat.le_of_ble_eq_true rfl) (c_X9_forgetNow ht hq3) ?_
    refine mG.iconst (v := 1) dX9_forget_21 rfl ?_
    obtain rfl := Option.some.inj h
    exact mG.zret (b := true) dX9_forget_22 rfl rfl ⟨rfl, rfl, rfl⟩
  · replace h := itn c4 h
    refine mG.iconst (v := 0) dX9_forget_9 rfl ?_
    obtain rfl := Option.some.inj h
    exact mG.zret (b := false) dX9_forget_10 rfl rfl ⟨rfl, rfl, rfl⟩
theorem dX9_arePassed_0 : decode cX9_arePassed 0 = .ok (.iconst 0, 1) := by decide +kernel
theorem dX9_arePassed_1 : decode cX9_arePassed 1 = .ok (.istore_n 2, 1) := by decide +kernel
theorem dX9_arePassed_2 : decode cX9_arePassed 2 = .ok (.iload_n 2, 1) := by decide +kernel
theorem dX9_arePassed_3 : decode cX9_arePassed 3 = .ok (.iload_n 1, 1) := by decide +kernel
theorem dX9_arePassed_4 : decode cX9_arePassed 4 = .ok (.if_icmp .ge 32, 3) := by decide +kernel
theorem dX9_arePassed_7 : decode cX9_arePassed 7 = .ok (.aload_n 0, 1) := by decide +kernel
theorem dX9_arePassed_8 : decode cX9_arePassed 8 = .ok (.getfield 7, 3) := by decide +kernel
theorem dX9_arePassed_11 : decode cX9_arePassed 11 = .ok (.bipush 8, 2) := by decide +kernel
theorem dX9_arePassed_13 : decode cX9_arePassed 13 = .ok (.iaload, 1) := by decide +kernel
theorem dX9_arePassed_14 : decode cX9_arePassed 14 = .ok (.sipush 9999, 3) := by decide +kernel
theorem dX9_arePassed_17 : decode cX9_arePassed 17 = .ok (.if_icmp .ne 5, 3) := by decide +kernel
theorem dX9_arePassed_20 : decode cX9_arePassed 20 = .ok (.iconst 0, 1) := by decide +kernel
theorem dX9_arePassed_21 : decode cX9_arePassed 21 = .ok (.ireturn, 1) := by decide +kernel
theorem dX9_arePassed_22 : decode cX9_arePassed 22 = .ok (.aload_n 0, 1) := by decide +kernel
theorem dX9_arePassed_23 : decode cX9_arePassed 23 = .ok (.invokevirtual 335, 3) := by decide +kernel
theorem dX9_arePassed_26 : decode cX9_arePassed 26 = .ok (.aload_n 0, 1) := by decide +kernel
theorem dX9_arePassed_27 : decode cX9_arePassed 27 = .ok (.invokevirtual 362, 3) := by decide +kernel
theorem dX9_arePassed_30 : decode cX9_arePassed 30 = .ok (.iinc 2 1, 3) := by decide +kernel
theorem dX9_arePassed_33 : decode cX9_arePassed 33 = .ok (.goto (-31), 3) := by decide +kernel
theorem dX9_arePassed_36 : decode cX9_arePassed 36 = .ok (.iconst 1, 1) := by decide +kernel
theorem dX9_arePassed_37 : decode cX9_arePassed 37 = .ok (.ireturn, 1) := by decide +kernel
def lX9_arePassed_2 (F : Nat)  (t : Nat) (a1 : Int32) : Nat → mS → Int32 → Option (mS × Bool)
  | 0, _, _ => none
  | n + 1, S, v2 => if a1 ≤ v2 then (some (S, true)) else (ck (inb (8 : Int32) 2308) (if (S.1 (t + 1) (8 : Int32).toNatClampNeg) = (9999 : Int32) then (some (S, false)) else (bd (f_X9_keep F S t) fun q2 => bd (f_X9_pass F q2 t) fun q3 => lX9_arePassed_2 F  t a1 n q3 (v2 + 1))))
set_option maxHeartbeats 4000000 in
set_option maxRecDepth 100000 in
theorem gX9_arePassed_2 {x : mX} {F : Nat} {t : Nat} {a1 : Int32}   {R : mS × Bool} (ht : kd0 t = 9)  : ∀ (n : Nat) (S : mS) (v2 : Int32), lX9_arePassed_2 F  t a1 n S v2 = some R → mG x μX9_arePassed 9 0 0 (mQe R.1 (some (.int (bI R.2)))) 0 0 E0 S 2 [(0, .ref (t)), (1, .int (a1)), (2, .int (v2))] [] := by
  intro n
  induction n with
  | zero =>
    intro S v2 h
    cases h
  | succ n ih =>
    intro S v2 h
    unfold lX9_arePassed_2 at h
    refine mG.iload_n 2 dX9_arePassed_2 rfl ?_
    refine mG.iload_n 1 dX9_arePassed_3 rfl ?_
    refine mG.icmp_ge 36 dX9_arePassed_4 (by decide) (fun c5 => ?_) (fun c5 => ?_)
    · replace h := itp c5 h
      refine mG.iconst (v := 1) dX9_arePassed_36 rfl ?_
      obtain rfl := Option.some.inj h
      exact mG.zret (b := true) dX9_arePassed_37 rfl rfl ⟨rfl, rfl, rfl⟩
    · replace h := itn c5 h
      refine mG.aload_n 0 dX9_arePassed_7 rfl ?_
      refine mG.get (v := .ref (t + 1)) dX9_arePassed_8 mfX9_7 ht (lr9_a ht) ?_
      refine mG.bipush (v := 8) dX9_arePassed_11 (by decide) ?_
      obtain ⟨b1, h⟩ := ckp h
      refine mG.iald dX9_arePassed_13 (lk9_a ht) (ll9_a ht) (inbp b1) ?_
      refine mG.sipush (v := 9999) dX9_arePassed_14 (by decide) ?_
      refine mG.icmp_ne 22 dX9_arePassed_17 (by decide) (fun c4 => ?_) (fun c4 => ?_)
      · replace h := itn c4 h
        refine mG.aload_n 0 dX9_arePassed_22 rfl ?_
        obtain ⟨q2, hq2, h⟩ := bdp h
        refine mG.callV0 (as := []) (st := []) (S2 := q2) (r := none) dX9_arePassed_23 mvX9_keep wk33_4 rfl ht rfl (by decide) (Nat.le_of_ble_eq_true rfl) (c_X9_keep ht hq2) ?_
        refine mG.aload_n 0 dX9_arePassed_26 rfl ?_
        obtain ⟨q3, hq3, h⟩ := bdp h
        refine mG.callV0 (as := []) (st := []) (S2 := q3) (r := none) dX9_arePassed_27 mvX9_pass wk40_21 rfl ht rfl (by decide) (Nat.le_of_ble_eq_true rfl) (c_X9_pass ht hq3) ?_
        refine mG.iinc 2 (u := v2 + 1) (lv2 := [(2, .int (v2 + 1)), (0, .ref (t)), (1, .int (a1))]) dX9_arePassed_30 rfl rfl (by decide) rfl ?_
        refine mG.goto 2 dX9_arePassed_33 (by decide) ?_
        refine mG.sub (lv2 := [(0, .ref (t)), (1, .int (a1)), (2, .int (v2 + 1))]) [1, 2, 0] rfl ?_
        exact ih q3 (v2 + 1)  h
      · replace h := itp c4 h
        refine mG.iconst (v := 0) dX9_arePassed_20 rfl ?_
        obtain rfl := Option.some.inj h
        exact mG.zret (b := false) dX9_arePassed_21 rfl rfl ⟨rfl, rfl, rfl⟩
def f_X9_arePassed (F : Nat) (S : mS) (t : Nat) (a1 : Int32) : Option (mS × Bool) := lX9_arePassed_2 F  t a1 F S (0 : Int32)
set_option maxHeartbeats 4000000 in
set_option maxRecDepth 100000 in
theorem c_X9_arePassed {F : Nat} {S : mS} {t : Nat} {a1 : Int32} {R : mS × Bool} (ht : kd0 t = 9) (h : f_X9_arePassed F S t a1 = some R) : mCt μX9_arePassed 9 0 0 E0 S [.ref (t), .int (a1)] (mQe R.1 (some (.int (bI R.2)))) := by
  unfold f_X9_arePassed at h
  refine mCt.of (by decide) (Nat.le_of_ble_eq_true rfl) ?_
  intro x
  refine mG.iconst (v := 0) dX9_arePassed_0 rfl ?_
  refine mG.istore_n (lv2 := [(2, .int 0), (0, .ref (t)), (1, .int (a1))]) dX9_arePassed_1 rfl (by decide) rfl ?_
  refine mG.sub (lv2 := [(0, .ref (t)), (1, .int (a1)), (2, .int 0)]) [1, 2, 0] rfl ?_
  exact gX9_arePassed_2 ht  F S (0 : Int32)  h
theorem dX9_day_0 : decode cX9_day 0 = .ok (.iload_n 1, 1) := by decide +kernel
theorem dX9_day_1 : decode cX9_day 1 = .ok (.iconst 1, 1) := by decide +kernel
theorem dX9_day_2 : decode cX9_day 2 = .ok (.bipush 60, 2) := by decide +kernel
theorem dX9_day_4 : decode cX9_day 4 = .ok (.invokestatic 65, 3) := by decide +kernel
theorem dX9_day_7 : decode cX9_day 7 = .ok (.ifCond .eq 33, 3) := by decide +kernel
theorem dX9_day_10 : decode cX9_day 10 = .ok (.aload_n 0, 1) := by decide +kernel
theorem dX9_day_11 : decode cX9_day 11 = .ok (.getfield 7, 3) := by decide +kernel
theorem dX9_day_14 : decode cX9_day 14 = .ok (.bipush 8, 2) := by decide +kernel
theorem dX9_day_16 : decode cX9_day 16 = .ok (.iaload, 1) := by decide +kernel
theorem dX9_day_17 : decode cX9_day 17 = .ok (.iload_n 1, 1) := by decide +kernel
theorem dX9_day_18 : decode cX9_day 18 = .ok (.iadd, 1) := by decide +kernel
theorem dX9_day_19 : decode cX9_day 19 = .ok (.sipush 9999, 3) := by decide +kernel
theorem dX9_day_22 : decode cX9_day 22 = .ok (.if_icmp .gt 18, 3) := by decide +kernel
theorem dX9_day_25 : decode cX9_day 25 = .ok (.aload_n 0, 1) := by decide +kernel
theorem dX9_day_26 : decode cX9_day 26 = .ok (.iload_n 1, 1) := by decide +kernel
theorem dX9_day_27 : decode cX9_day 27 = .ok (.invokevirtual 365, 3) := by decide +kernel
theorem dX9_day_30 : decode cX9_day 30 = .ok (.ifCond .eq 10, 3) := by decide +kernel
theorem dX9_day_33 : decode cX9_day 33 = .ok (.aload_n 0, 1) := by decide +kernel
theorem dX9_day_34 : decode cX9_day 34 = .ok (.invokevirtual 320, 3) := by decide +kernel
theorem dX9_day_37 : decode cX9_day 37 = .ok (.goto 4, 3) := by decide +kernel
theorem dX9_day_40 : decode cX9_day 40 = .ok (.iconst (-1), 1) := by decide +kernel
theorem dX9_day_41 : decode cX9_day 41 = .ok (.ireturn, 1) := by decide +kernel
def f_X9_day (F : Nat) (S : mS) (t : Nat) (a1 : Int32) : Option (mS × Int32) := if (f_X9_isIn S a1 (1 : Int32) (60 : Int32)) = true then (ck (inb (8 : Int32) 2308) (if (9999 : Int32) < ((S.1 (t + 1) (8 : Int32).toNatClampNeg) + a1) then (some (S, (-1 : Int32))) else (bd (f_X9_arePassed F S t a1) fun q2 => if q2.2 = true then (bd (f_X9_date F q2.1 t) fun q3 => some (q2.1, q3)) else (some (q2.1, (-1 : Int32)))))) else (some (S, (-1 : Int32)))
set_option maxHeartbeats 4000000 in
set_option maxRecDepth 100000 in
theorem c_X9_day {F : Nat} {S : mS} {t : Nat} {a1 : Int32} {R : mS × Int32} (ht : kd0 t = 9) (h : f_X9_day F S t a1 = some R) : mCt μX9_day 10 0 0 E0 S [.ref (t), .int (a1)] (mQe R.1 (some (.int R.2))) := by
  unfold f_X9_day at h
  refine mCt.of (by decide) (Nat.le_of_ble_eq_true rfl) ?_
  intro x
  refine mG.iload_n 1 dX9_day_0 rfl ?_
  refine mG.iconst (v := 1) dX9_day_1 rfl ?_
  refine mG.bipush (v := 60) dX9_day_2 (by decide) ?_
  refine mG.callS0 (as := [.int (a1), .int 1, .int 60]) (st := []) (S2 := S) (r := some (.int (bI (f_X9_isIn S a1 (1 : Int32) (60 : Int32))))) dX9_day_4 mbX9_isIn wk7_13 wk7_12 rfl rfl (by decide) (Nat.le_of_ble_eq_true rfl) (c_X9_isIn  rfl) ?_
  refine mG.ifz_eq (b := f_X9_isIn S a1 (1 : Int32) (60 : Int32)) 40 dX9_day_7 (by decide) (fun c6 => ?_) (fun c6 => ?_)
  · replace h := itn c6 h
    refine mG.iconst (v := (-1)) dX9_day_40 rfl ?_
    obtain rfl := Option.some.inj h
    exact mG.iret dX9_day_41 rfl ⟨rfl, rfl, rfl⟩
  · replace h := itp c6 h
    refine mG.aload_n 0 dX9_day_10 rfl ?_
    refine mG.get (v := .ref (t + 1)) dX9_day_11 mfX9_7 ht (lr9_a ht) ?_
    refine mG.bipush (v := 8) dX9_day_14 (by decide) ?_
    obtain ⟨b1, h⟩ := ckp h
    refine mG.iald dX9_day_16 (lk9_a ht) (ll9_a ht) (inbp b1) ?_
    refine mG.iload_n 1 dX9_day_17 rfl ?_
    refine mG.iadd dX9_day_18 ?_
    refine mG.sipush (v := 9999) dX9_day_19 (by decide) ?_
    refine mG.icmp_gt 40 dX9_day_22 (by decide) (fun c5 => ?_) (fun c5 => ?_)
    · replace h := itp c5 h
      refine mG.iconst (v := (-1)) dX9_day_40 rfl ?_
      obtain rfl := Option.some.inj h
      exact mG.iret dX9_day_41 rfl ⟨rfl, rfl, rfl⟩
    · replace h := itn c5 h
      refine mG.aload_n 0 dX9_day_25 rfl ?_
      refine mG.iload_n 1 dX9_day_26 rfl ?_
      obtain ⟨q2, hq2, h⟩ := bdp h
      refine mG.callV0 (as := [.int (a1)]) (st := []) (S2 := q2.1) (r := some (.int (bI (q2.2)))) dX9_day_27 mvX9_arePassed wk40_17 rfl ht rfl (by decide) (Nat.le_of_ble_eq_true rfl) (c_X9_arePassed ht hq2) ?_
      refine mG.ifz_eq (b := q2.2) 40 dX9_day_30 (by decide) (fun c4 => ?_) (fun c4 => ?_)
      · replace h := itn c4 h
        refine mG.iconst (v := (-1)) dX9_day_40 rfl ?_
        obtain rfl := Option.some.inj h
        exact mG.iret dX9_day_41 rfl ⟨rfl, rfl, rfl⟩
      · replace h := itp c4 h
        refine mG.aload_n 0 dX9_day_33 rfl ?_
        obtain ⟨q3, hq3, h⟩ := bdp h
        refine mG.callV0 (as := []) (st := []) (S2 := q2.1) (r := some (.int (q3))) dX9_day_34 mvX9_date wk33_12 rfl ht rfl (by decide) (Nat.le_of_ble_eq_true rfl) (c_X9_date ht hq3) ?_
        refine mG.goto 41 dX9_day_37 (by decide) ?_
        obtain rfl := Option.some.inj h
        exact mG.iret dX9_day_41 rfl ⟨rfl, rfl, rfl⟩
theorem dX9_isPlayed_0 : decode cX9_isPlayed 0 = .ok (.aload_n 0, 1) := by decide +kernel
theorem dX9_isPlayed_1 : decode cX9_isPlayed 1 = .ok (.getfield 16, 3) := by decide +kernel
theorem dX9_isPlayed_4 : decode cX9_isPlayed 4 = .ok (.iload_n 1, 1) := by decide +kernel
theorem dX9_isPlayed_5 : decode cX9_isPlayed 5 = .ok (.iconst 1, 1) := by decide +kernel
theorem dX9_isPlayed_6 : decode cX9_isPlayed 6 = .ok (.iadd, 1) := by decide +kernel
theorem dX9_isPlayed_7 : decode cX9_isPlayed 7 = .ok (.iaload, 1) := by decide +kernel
theorem dX9_isPlayed_8 : decode cX9_isPlayed 8 = .ok (.istore_n 2, 1) := by decide +kernel
theorem dX9_isPlayed_9 : decode cX9_isPlayed 9 = .ok (.aload_n 0, 1) := by decide +kernel
theorem dX9_isPlayed_10 : decode cX9_isPlayed 10 = .ok (.getfield 16, 3) := by decide +kernel
theorem dX9_isPlayed_13 : decode cX9_isPlayed 13 = .ok (.iload_n 1, 1) := by decide +kernel
theorem dX9_isPlayed_14 : decode cX9_isPlayed 14 = .ok (.iconst 2, 1) := by decide +kernel
theorem dX9_isPlayed_15 : decode cX9_isPlayed 15 = .ok (.iadd, 1) := by decide +kernel
theorem dX9_isPlayed_16 : decode cX9_isPlayed 16 = .ok (.iaload, 1) := by decide +kernel
theorem dX9_isPlayed_17 : decode cX9_isPlayed 17 = .ok (.istore_n 3, 1) := by decide +kernel
theorem dX9_isPlayed_18 : decode cX9_isPlayed 18 = .ok (.aload_n 0, 1) := by decide +kernel
theorem dX9_isPlayed_19 : decode cX9_isPlayed 19 = .ok (.getfield 16, 3) := by decide +kernel
theorem dX9_isPlayed_22 : decode cX9_isPlayed 22 = .ok (.iload_n 1, 1) := by decide +kernel
theorem dX9_isPlayed_23 : decode cX9_isPlayed 23 = .ok (.iaload, 1) := by decide +kernel
theorem dX9_isPlayed_24 : decode cX9_isPlayed 24 = .ok (.tableswitch 123 3 8 #[40, 65, 79, 94, 110, 117], 40) := by decide +kernel
theorem dX9_isPlayed_64 : decode cX9_isPlayed 64 = .ok (.aload_n 0, 1) := by decide +kernel
theorem dX9_isPlayed_65 : decode cX9_isPlayed 65 = .ok (.iload_n 2, 1) := by decide +kernel
theorem dX9_isPlayed_66 : decode cX9_isPlayed 66 = .ok (.iconst (-1), 1) := by decide +kernel
theorem dX9_isPlayed_67 : decode cX9_isPlayed 67 = .ok (.iconst (-1), 1) := by decide +kernel
theorem dX9_isPlayed_68 : decode cX9_isPlayed 68 = .ok (.iload_n 3, 1) := by decide +kernel
theorem dX9_isPlayed_69 : decode cX9_isPlayed 69 = .ok (.aload_n 0, 1) := by decide +kernel
theorem dX9_isPlayed_70 : decode cX9_isPlayed 70 = .ok (.getfield 16, 3) := by decide +kernel
theorem dX9_isPlayed_73 : decode cX9_isPlayed 73 = .ok (.iload_n 1, 1) := by decide +kernel
theorem dX9_isPlayed_74 : decode cX9_isPlayed 74 = .ok (.iconst 3, 1) := by decide +kernel
theorem dX9_isPlayed_75 : decode cX9_isPlayed 75 = .ok (.iadd, 1) := by decide +kernel
theorem dX9_isPlayed_76 : decode cX9_isPlayed 76 = .ok (.iaload, 1) := by decide +kernel
theorem dX9_isPlayed_77 : decode cX9_isPlayed 77 = .ok (.invokevirtual 368, 3) := by decide +kernel
theorem dX9_isPlayed_80 : decode cX9_isPlayed 80 = .ok (.ifCond .lt 7, 3) := by decide +kernel
theorem dX9_isPlayed_83 : decode cX9_isPlayed 83 = .ok (.iconst 1, 1) := by decide +kernel
theorem dX9_isPlayed_84 : decode cX9_isPlayed 84 = .ok (.goto 4, 3) := by decide +kernel
theorem dX9_isPlayed_87 : decode cX9_isPlayed 87 = .ok (.iconst 0, 1) := by decide +kernel
theorem dX9_isPlayed_88 : decode cX9_isPlayed 88 = .ok (.ireturn, 1) := by decide +kernel
theorem dX9_isPlayed_89 : decode cX9_isPlayed 89 = .ok (.aload_n 0, 1) := by decide +kernel
theorem dX9_isPlayed_90 : decode cX9_isPlayed 90 = .ok (.iload_n 2, 1) := by decide +kernel
theorem dX9_isPlayed_91 : decode cX9_isPlayed 91 = .ok (.invokevirtual 372, 3) := by decide +kernel
theorem dX9_isPlayed_94 : decode cX9_isPlayed 94 = .ok (.ifCond .lt 7, 3) := by decide +kernel
theorem dX9_isPlayed_97 : decode cX9_isPlayed 97 = .ok (.iconst 1, 1) := by decide +kernel
theorem dX9_isPlayed_98 : decode cX9_isPlayed 98 = .ok (.goto 4, 3) := by decide +kernel
theorem dX9_isPlayed_101 : decode cX9_isPlayed 101 = .ok (.iconst 0, 1) := by decide +kernel
theorem dX9_isPlayed_102 : decode cX9_isPlayed 102 = .ok (.ireturn, 1) := by decide +kernel
theorem dX9_isPlayed_103 : decode cX9_isPlayed 103 = .ok (.aload_n 0, 1) := by decide +kernel
theorem dX9_isPlayed_104 : decode cX9_isPlayed 104 = .ok (.iload_n 2, 1) := by decide +kernel
theorem dX9_isPlayed_105 : decode cX9_isPlayed 105 = .ok (.iload_n 3, 1) := by decide +kernel
theorem dX9_isPlayed_106 : decode cX9_isPlayed 106 = .ok (.invokevirtual 375, 3) := by decide +kernel
theorem dX9_isPlayed_109 : decode cX9_isPlayed 109 = .ok (.ifCond .lt 7, 3) := by decide +kernel
theorem dX9_isPlayed_112 : decode cX9_isPlayed 112 = .ok (.iconst 1, 1) := by decide +kernel
theorem dX9_isPlayed_113 : decode cX9_isPlayed 113 = .ok (.goto 4, 3) := by decide +kernel
theorem dX9_isPlayed_116 : decode cX9_isPlayed 116 = .ok (.iconst 0, 1) := by decide +kernel
theorem dX9_isPlayed_117 : decode cX9_isPlayed 117 = .ok (.ireturn, 1) := by decide +kernel
theorem dX9_isPlayed_118 : decode cX9_isPlayed 118 = .ok (.aload_n 0, 1) := by decide +kernel
theorem dX9_isPlayed_119 : decode cX9_isPlayed 119 = .ok (.iload_n 2, 1) := by decide +kernel
theorem dX9_isPlayed_120 : decode cX9_isPlayed 120 = .ok (.invokevirtual 350, 3) := by decide +kernel
theorem dX9_isPlayed_123 : decode cX9_isPlayed 123 = .ok (.istore 4, 2) := by decide +kernel
theorem dX9_isPlayed_125 : decode cX9_isPlayed 125 = .ok (.aload_n 0, 1) := by decide +kernel
theorem dX9_isPlayed_126 : decode cX9_isPlayed 126 = .ok (.iload_n 2, 1) := by decide +kernel
theorem dX9_isPlayed_127 : decode cX9_isPlayed 127 = .ok (.invokevirtual 378, 3) := by decide +kernel
theorem dX9_isPlayed_130 : decode cX9_isPlayed 130 = .ok (.pop, 1) := by decide +kernel
theorem dX9_isPlayed_131 : decode cX9_isPlayed 131 = .ok (.iload 4, 2) := by decide +kernel
theorem dX9_isPlayed_133 : decode cX9_isPlayed 133 = .ok (.ireturn, 1) := by decide +kernel
theorem dX9_isPlayed_134 : decode cX9_isPlayed 134 = .ok (.aload_n 0, 1) := by decide +kernel
theorem dX9_isPlayed_135 : decode cX9_isPlayed 135 = .ok (.iload_n 2, 1) := by decide +kernel
theorem dX9_isPlayed_136 : decode cX9_isPlayed 136 = .ok (.iload_n 3, 1) := by decide +kernel
theorem dX9_isPlayed_137 : decode cX9_isPlayed 137 = .ok (.invokevirtual 381, 3) := by decide +kernel
theorem dX9_isPlayed_140 : decode cX9_isPlayed 140 = .ok (.ireturn, 1) := by decide +kernel
theorem dX9_isPlayed_141 : decode cX9_isPlayed 141 = .ok (.aload_n 0, 1) := by decide +kernel
theorem dX9_isPlayed_142 : decode cX9_isPlayed 142 = .ok (.iload_n 2, 1) := by decide +kernel
theorem dX9_isPlayed_143 : decode cX9_isPlayed 143 = .ok (.invokevirtual 365, 3) := by decide +kernel
theorem dX9_isPlayed_146 : decode cX9_isPlayed 146 = .ok (.ireturn, 1) := by decide +kernel
theorem dX9_isPlayed_147 : decode cX9_isPlayed 147 = .ok (.iconst 1, 1) := by decide +kernel
theorem dX9_isPlayed_148 : decode cX9_isPlayed 148 = .ok (.ireturn, 1) := by decide +kernel
def f_X9_isPlayed (F : Nat) (S : mS) (t : Nat) (a1 : Int32) : Option (mS × Bool) := ck (inb (a1 + (1 : Int32)) 2820) (ck (inb (a1 + (2 : Int32)) 2820) (ck (inb a1 2820) (if (S.1 (t + 3) a1.toNatClampNeg) = (3 : Int32) then (ck (inb (a1 + (3 : Int32)) 2820) (bd (f_X9_house F S t (S.1 (t + 3) (a1 + (1 : Int32)).toNatClampNeg) (-1 : Int32) (-1 : Int32) (S.1 (t + 3) (a1 + (2 : Int32)).toNatClampNeg) (S.1 (t + 3) (a1 + (3 : Int32)).toNatClampNeg)) fun q6 => if q6.2 < 0 then (some (q6.1, false)) else (some (q6.1, true)))) else (if (S.1 (t + 3) a1.toNatClampNeg) = (4 : Int32) then (bd (f_X9_knock F S t (S.1 (t + 3) (a1 + (1 : Int32)).toNatClampNeg)) fun q9 => if q9.2 < 0 then (some (q9.1, false)) else (some (q9.1, true))) else (if (S.1 (t + 3) a1.toNatClampNeg) = (5 : Int32) then (bd (f_X9_marry F S t (S.1 (t + 3) (a1 + (1 : Int32)).toNatClampNeg) (S.1 (t + 3) (a1 + (2 : Int32)).toNatClampNeg)) fun q12 => if q12.2 < 0 then (some (q12.1, false)) else (some (q12.1, true))) else (if (S.1 (t + 3) a1.toNatClampNeg) = (6 : Int32) then (bd (f_X9_canDraw F S t (S.1 (t + 3) (a1 + (1 : Int32)).toNatClampNeg)) fun q15 => bd (f_X9_hat F S t (S.1 (t + 3) (a1 + (1 : Int32)).toNatClampNeg)) fun q16 => some (q16.1, q15)) else (if (S.1 (t + 3) a1.toNatClampNeg) = (7 : Int32) then (bd (f_X9_forget F S t (S.1 (t + 3) (a1 + (1 : Int32)).toNatClampNeg) (S.1 (t + 3) (a1 + (2 : Int32)).toNatClampNeg)) fun q18 => some (q18.1, q18.2)) else (if (S.1 (t + 3) a1.toNatClampNeg) = (8 : Int32) then (bd (f_X9_arePassed F S t (S.1 (t + 3) (a1 + (1 : Int32)).toNatClampNeg)) fun q20 => some (q20.1, q20.2)) else (some (S, true))))))))))
set_option maxHeartbeats 4000000 in
set_option maxRecDepth 100000 in
theorem c_X9_isPlayed {F : Nat} {S : mS} {t : Nat} {a1 : Int32} {R : mS × Bool} (ht : kd0 t = 9) (h : f_X9_isPlayed F S t a1 = some R) : mCt μX9_isPlayed 10 0 0 E0 S [.ref (t), .int (a1)] (mQe R.1 (some (.int (bI R.2)))) := by
  unfold f_X9_isPlayed at h
  refine mCt.of (by decide) (Nat.le_of_ble_eq_true rfl) ?_
  intro x
  refine mG.aload_n 0 dX9_isPlayed_0 rfl ?_
  refine mG.get (v := .ref (t + 3)) dX9_isPlayed_1 mfX9_16 ht (lr9_texts ht) ?_
  refine mG.iload_n 1 dX9_isPlayed_4 rfl ?_
  refine mG.iconst (v := 1) dX9_isPlayed_5 rfl ?_
  refine mG.iadd dX9_isPlayed_6 ?_
  obtain ⟨b1, h⟩ := ckp h
  refine mG.iald dX9_isPlayed_7 (lk9_texts ht) (ll9_texts ht) (inbp b1) ?_
  refine mG.istore_n (lv2 := [(2, .int (S.1 (t + 3) (a1 + (1 : Int32)).toNatClampNeg)), (0, .ref (t)), (1, .int (a1))]) dX9_isPlayed_8 rfl (by decide) rfl ?_
  refine mG.aload_n 1 dX9_isPlayed_9 rfl ?_
  refine mG.get (v := .ref (t + 3)) dX9_isPlayed_10 mfX9_16 ht (lr9_texts ht) ?_
  refine mG.iload_n 2 dX9_isPlayed_13 rfl ?_
  refine mG.iconst (v := 2) dX9_isPlayed_14 rfl ?_
  refine mG.iadd dX9_isPlayed_15 ?_
  obtain ⟨b2, h⟩ := ckp h
  refine mG.iald dX9_isPlayed_16 (lk9_texts ht) (ll9_texts ht) (inbp b2) ?_
  refine mG.istore_n (lv2 := [(3, .int (S.1 (t + 3) (a1 + (2 : Int32)).toNatClampNeg)), (2, .int (S.1 (t + 3) (a1 + (1 : Int32)).toNatClampNeg)), (0, .ref (t)), (1, .int (a1))]) dX9_isPlayed_17 rfl (by decide) rfl ?_
  refine mG.aload_n 2 dX9_isPlayed_18 rfl ?_
  refine mG.get (v := .ref (t + 3)) dX9_isPlayed_19 mfX9_16 ht (lr9_texts ht) ?_
  refine mG.iload_n 3 dX9_isPlayed_22 rfl ?_
  obtain ⟨b3, h⟩ := ckp h
  refine mG.iald dX9_isPlayed_23 (lk9_texts ht) (ll9_texts ht) (inbp b3) ?_
  by_cases c4 : (S.1 (t + 3) a1.toNatClampNeg) = (3 : Int32)
  · replace h := itp c4 h
    refine mG.tblIn (40) 64 dX9_isPlayed_24 (by rw [c4]; decide) (by rw [c4]; decide) (by rw [c4]; decide) (by decide) ?_
    refine mG.aload_n 2 dX9_isPlayed_64 rfl ?_
    refine mG.iload_n 1 dX9_isPlayed_65 rfl ?_
    refine mG.iconst (v := (-1)) dX9_isPlayed_66 rfl ?_
    refine mG.iconst (v := (-1)) dX9_isPlayed_67 rfl ?_
    refine mG.iload_n 0 dX9_isPlayed_68 rfl ?_
    refine mG.aload_n 2 dX9_isPlayed_69 rfl ?_
    refine mG.get (v := .ref (t + 3)) dX9_isPlayed_70 mfX9_16 ht (lr9_texts ht) ?_
    refine mG.iload_n 3 dX9_isPlayed_73 rfl ?_
    refine mG.iconst (v := 3) dX9_isPlayed_74 rfl ?_
    refine mG.iadd dX9_isPlayed_75 ?_
    obtain ⟨b5, h⟩ := ckp h
    refine mG.iald dX9_isPlayed_76 (lk9_texts ht) (ll9_texts ht) (inbp b5) ?_
    obtain ⟨q6, hq6, h⟩ := bdp h
    refine mG.callV0 (as := [.int (S.1 (t + 3) (a1 + (1 : Int32)).toNatClampNeg), .int (-1), .int (-1), .int (S.1 (t + 3) (a1 + (2 : Int32)).toNatClampNeg), .int (S.1 (t + 3) (a1 + (3 : Int32)).toNatClampNeg)]) (st := []) (S2 := q6.1) (r := some (.int (q6.2))) dX9_isPlayed_77 mvX9_house wk42_23 rfl ht rfl (by decide) (Nat.le_of_ble_eq_true rfl) (c_X9_house ht hq6) ?_
    refine mG.if_lt 87 dX9_isPlayed_80 (by decide) (fun c7 => ?_) (fun c7 => ?_)
    · replace h := itp c7 h
      refine mG.iconst (v := 0) dX9_isPlayed_87 rfl ?_
      obtain rfl := Option.some.inj h
      exact mG.zret (b := false) dX9_isPlayed_88 rfl rfl ⟨rfl, rfl, rfl⟩
    · replace h := itn c7 h
      refine mG.iconst (v := 1) dX9_isPlayed_83 rfl ?_
      refine mG.goto 88 dX9_isPlayed_84 (by decide) ?_
      obtain rfl := Option.some.inj h
      exact mG.zret (b := true) dX9_isPlayed_88 rfl rfl ⟨rfl, rfl, rfl⟩
  replace h := itn c4 h
  by_cases c8 : (S.1 (t + 3) a1.toNatClampNeg) = (4 : Int32)
  · replace h := itp c8 h
    refine mG.tblIn (65) 89 dX9_isPlayed_24 (by rw [c8]; decide) (by rw [c8]; decide) (by rw [c8]; decide) (by decide) ?_
    refine mG.aload_n 2 dX9_isPlayed_89 rfl ?_
    refine mG.iload_n 1 dX9_isPlayed_90 rfl ?_
    obtain ⟨q9, hq9, h⟩ := bdp h
    refine mG.callV0 (as := [.int (S.1 (t + 3) (a1 + (1 : Int32)).toNatClampNeg)]) (st := []) (S2 := q9.1) (r := some (.int (q9.2))) dX9_isPlayed_91 mvX9_knock wk43_0 rfl ht rfl (by decide) (Nat.le_of_ble_eq_true rfl) (c_X9_knock ht hq9) ?_
    refine mG.if_lt 101 dX9_isPlayed_94 (by decide) (fun c10 => ?_) (fun c10 => ?_)
    · replace h := itp c10 h
      refine mG.iconst (v := 0) dX9_isPlayed_101 rfl ?_
      obtain rfl := Option.some.inj h
      exact mG.zret (b := false) dX9_isPlayed_102 rfl rfl ⟨rfl, rfl, rfl⟩
    · replace h := itn c10 h
      refine mG.iconst (v := 1) dX9_isPlayed_97 rfl ?_
      refine mG.goto 102 dX9_isPlayed_98 (by decide) ?_
      obtain rfl := Option.some.inj h
      exact mG.zret (b := true) dX9_isPlayed_102 rfl rfl ⟨rfl, rfl, rfl⟩
  replace h := itn c8 h
  by_cases c11 : (S.1 (t + 3) a1.toNatClampNeg) = (5 : Int32)
  · replace h := itp c11 h
    refine mG.tblIn (79) 103 dX9_isPlayed_24 (by rw [c11]; decide) (by rw [c11]; decide) (by rw [c11]; decide) (by decide) ?_
    refine mG.aload_n 2 dX9_isPlayed_103 rfl ?_
    refine mG.iload_n 1 dX9_isPlayed_104 rfl ?_
    refine mG.iload_n 0 dX9_isPlayed_105 rfl ?_
    obtain ⟨q12, hq12, h⟩ := bdp h
    refine mG.callV0 (as := [.int (S.1 (t + 3) (a1 + (1 : Int32)).toNatClampNeg), .int (S.1 (t + 3) (a1 + (2 : Int32)).toNatClampNeg)]) (st := []) (S2 := q12.1) (r := some (.int (q12.2))) dX9_isPlayed_106 mvX9_marry wk43_1 rfl ht rfl (by decide) (Nat.le_of_ble_eq_true rfl) (c_X9_marry ht hq12) ?_
    refine mG.if_lt 116 dX9_isPlayed_109 (by decide) (fun c13 => ?_) (fun c13 => ?_)
    · replace h := itp c13 h
      refine mG.iconst (v := 0) dX9_isPlayed_116 rfl ?_
      obtain rfl := Option.some.inj h
      exact mG.zret (b := false) dX9_isPlayed_117 rfl rfl ⟨rfl, rfl, rfl⟩
    · replace h := itn c13 h
      refine mG.iconst (v := 1) dX9_isPlayed_112 rfl ?_
      refine mG.goto 117 dX9_isPlayed_113 (by decide) ?_
      obtain rfl := Option.some.inj h
      exact mG.zret (b := true) dX9_isPlayed_117 rfl rfl ⟨rfl, rfl, rfl⟩
  replace h := itn c11 h
  by_cases c14 : (S.1 (t + 3) a1.toNatClampNeg) = (6 : Int32)
  · replace h := itp c14 h
    refine mG.tblIn (94) 118 dX9_isPlayed_24 (by rw [c14]; decide) (by rw [c14]; decide) (by rw [c14]; decide) (by decide) ?_
    refine mG.aload_n 2 dX9_isPlayed_118 rfl ?_
    refine mG.iload_n 1 dX9_isPlayed_119 rfl ?_
    obtain ⟨q15, hq15, h⟩ := bdp h
    refine mG.callV0 (as := [.int (S.1 (t + 3) (a1 + (1 : Int32)).toNatClampNeg)]) (st := []) (S2 := S) (r := some (.int (bI (q15)))) dX9_isPlayed_120 mvX9_canDraw wk37_20 rfl ht rfl (by decide) (Nat.le_of_ble_eq_true rfl) (c_X9_canDraw ht hq15) ?_
    refine mG.istore (lv2 := [(4, .int (bI (q15))), (3, .int (S.1 (t + 3) (a1 + (2 : Int32)).toNatClampNeg)), (2, .int (S.1 (t + 3) (a1 + (1 : Int32)).toNatClampNeg)), (0, .ref (t)), (1, .int (a1))]) dX9_isPlayed_123 (by decide) rfl ?_
    refine mG.aload_n 3 dX9_isPlayed_125 rfl ?_
    refine mG.iload_n 2 dX9_isPlayed_126 rfl ?_
    obtain ⟨q16, hq16, h⟩ := bdp h
    refine mG.callV0 (as := [.int (S.1 (t + 3) (a1 + (1 : Int32)).toNatClampNeg)]) (st := []) (S2 := q16.1) (r := some (.int (q16.2))) dX9_isPlayed_127 mvX9_hat wk43_2 rfl ht rfl (by decide) (Nat.le_of_ble_eq_true rfl) (c_X9_hat ht hq16) ?_
    refine mG.pop dX9_isPlayed_130 rfl ?_
    refine mG.iload 0 dX9_isPlayed_131 rfl ?_
    obtain rfl := Option.some.inj h
    exact mG.zret (b := q15) dX9_isPlayed_133 rfl rfl ⟨rfl, rfl, rfl⟩
  replace h := itn c14 h
  by_cases c17 : (S.1 (t + 3) a1.toNatClampNeg) = (7 : Int32)
  · replace h := itp c17 h
    refine mG.tblIn (110) 134 dX9_isPlayed_24 (by rw [c17]; decide) (by rw [c17]; decide) (by rw [c17]; decide) (by decide) ?_
    refine mG.aload_n 2 dX9_isPlayed_134 rfl ?_
    refine mG.iload_n 1 dX9_isPlayed_135 rfl ?_
    refine mG.iload_n 0 dX9_isPlayed_136 rfl ?_
    obtain ⟨q18, hq18, h⟩ := bdp h
    refine mG.callV0 (as := [.int (S.1 (t + 3) (a1 + (1 : Int32)).toNatClampNeg), .int (S.1 (t + 3) (a1 + (2 : Int32)).toNatClampNeg)]) (st := []) (S2 := q18.1) (r := some (.int (bI (q18.2)))) dX9_isPlayed_137 mvX9_forget wk43_3 rfl ht rfl (by decide) (Nat.le_of_ble_eq_true rfl) (c_X9_forget ht hq18) ?_
    obtain rfl := Option.some.inj h
    exact mG.zret (b := q18.2) dX9_isPlayed_140 rfl rfl ⟨rfl, rfl, rfl⟩
  replace h := itn c17 h
  by_cases c19 : (S.1 (t + 3) a1.toNatClampNeg) = (8 : Int32)
  · replace h := itp c19 h
    refine mG.tblIn (117) 141 dX9_isPlayed_24 (by rw [c19]; decide) (by rw [c19]; decide) (by rw [c19]; decide) (by decide) ?_
    refine mG.aload_n 2 dX9_isPlayed_141 rfl ?_
    refine mG.iload_n 1 dX9_isPlayed_142 rfl ?_
    obtain ⟨q20, hq20, h⟩ := bdp h
    refine mG.callV0 (as := [.int (S.1 (t + 3) (a1 + (1 : Int32)).toNatClampNeg)]) (st := []) (S2 := q20.1) (r := some (.int (bI (q20.2)))) dX9_isPlayed_143 mvX9_arePassed wk40_17 rfl ht rfl (by decide) (Nat.le_of_ble_eq_true rfl) (c_X9_arePassed ht hq20) ?_
    obtain rfl := Option.some.inj h
    exact mG.zret (b := q20.2) dX9_isPlayed_146 rfl rfl ⟨rfl, rfl, rfl⟩
  replace h := itn c19 h
  refine mG.tblOut 147 dX9_isPlayed_24 (by have e0 : Int32.toInt (S.1 (t + 3) a1.toNatClampNeg) ≠ 3 := fun q => c4 (Int32.toInt_inj.mp (q.trans (by decide))); have e1 : Int32.toInt (S.1 (t + 3) a1.toNatClampNeg) ≠ 4 := fun q => c8 (Int32.toInt_inj.mp (q.trans (by decide))); have e2 : Int32.toInt (S.1 (t + 3) a1.toNatClampNeg) ≠ 5 := fun q => c11 (Int32.toInt_inj.mp (q.trans (by decide))); have e3 : Int32.toInt (S.1 (t + 3) a1.toNatClampNeg) ≠ 6 := fun q => c14 (Int32.toInt_inj.mp (q.trans (by decide))); have e4 : Int32.toInt (S.1 (t + 3) a1.toNatClampNeg) ≠ 7 := fun q => c17 (Int32.toInt_inj.mp (q.trans (by decide))); have e5 : Int32.toInt (S.1 (t + 3) a1.toNatClampNeg) ≠ 8 := fun q => c19 (Int32.toInt_inj.mp (q.trans (by decide))); omega) (by decide) ?_
  refine mG.iconst (v := 1) dX9_isPlayed_147 rfl ?_
  obtain rfl := Option.some.inj h
  exact mG.zret (b := true) dX9_isPlayed_148 rfl rfl ⟨rfl, rfl, rfl⟩
theorem dX9_played_0 : decode cX9_played 0 = .ok (.iload_n 1, 1) := by decide +kernel
theorem dX9_played_1 : decode cX9_played 1 = .ok (.iconst 0, 1) := by decide +kernel
theorem dX9_played_2 : decode cX9_played 2 = .ok (.aload_n 0, 1) := by decide +kernel
theorem dX9_played_3 : decode cX9_played 3 = .ok (.getfield 7, 3) := by decide +kernel
theorem dX9_played_6 : decode cX9_played 6 = .ok (.iconst 1, 1) := by decide +kernel
theorem dX9_played_7 : decode cX9_played 7 = .ok (.iaload, 1) := by decide +kernel
theorem dX9_played_8 : decode cX9_played 8 = .ok (.iconst 1, 1) := by decide +kernel
theorem dX9_played_9 : decode cX9_played 9 = .ok (.isub, 1) := by decide +kernel
theorem dX9_played_10 : decode cX9_played 10 = .ok (.invokestatic 65, 3) := by decide +kernel
theorem dX9_played_13 : decode cX9_played 13 = .ok (.ifCond .ne 6, 3) := by decide +kernel
theorem dX9_played_16 : decode cX9_played 16 = .ok (.bipush (-2), 2) := by decide +kernel
theorem dX9_played_18 : decode cX9_played 18 = .ok (.ireturn, 1) := by decide +kernel
theorem dX9_played_19 : decode cX9_played 19 = .ok (.iconst 0, 1) := by decide +kernel
theorem dX9_played_20 : decode cX9_played 20 = .ok (.istore_n 2, 1) := by decide +kernel
theorem dX9_played_21 : decode cX9_played 21 = .ok (.iload_n 2, 1) := by decide +kernel
theorem dX9_played_22 : decode cX9_played 22 = .ok (.aload_n 0, 1) := by decide +kernel
theorem dX9_played_23 : decode cX9_played 23 = .ok (.getfield 16, 3) := by decide +kernel
theorem dX9_played_26 : decode cX9_played 26 = .ok (.sipush 705, 3) := by decide +kernel
theorem dX9_played_29 : decode cX9_played 29 = .ok (.iload_n 1, 1) := by decide +kernel
theorem dX9_played_30 : decode cX9_played 30 = .ok (.imul, 1) := by decide +kernel
theorem dX9_played_31 : decode cX9_played 31 = .ok (.iaload, 1) := by decide +kernel
theorem dX9_played_32 : decode cX9_played 32 = .ok (.if_icmp .ge 29, 3) := by decide +kernel
theorem dX9_played_35 : decode cX9_played 35 = .ok (.aload_n 0, 1) := by decide +kernel
theorem dX9_played_36 : decode cX9_played 36 = .ok (.sipush 705, 3) := by decide +kernel
theorem dX9_played_39 : decode cX9_played 39 = .ok (.iload_n 1, 1) := by decide +kernel
theorem dX9_played_40 : decode cX9_played 40 = .ok (.imul, 1) := by decide +kernel
theorem dX9_played_41 : decode cX9_played 41 = .ok (.iconst 1, 1) := by decide +kernel
theorem dX9_played_42 : decode cX9_played 42 = .ok (.iadd, 1) := by decide +kernel
theorem dX9_played_43 : decode cX9_played 43 = .ok (.iconst 4, 1) := by decide +kernel
theorem dX9_played_44 : decode cX9_played 44 = .ok (.iload_n 2, 1) := by decide +kernel
theorem dX9_played_45 : decode cX9_played 45 = .ok (.imul, 1) := by decide +kernel
theorem dX9_played_46 : decode cX9_played 46 = .ok (.iadd, 1) := by decide +kernel
theorem dX9_played_47 : decode cX9_played 47 = .ok (.invokevirtual 384, 3) := by decide +kernel
theorem dX9_played_50 : decode cX9_played 50 = .ok (.ifCond .ne 5, 3) := by decide +kernel
theorem dX9_played_53 : decode cX9_played 53 = .ok (.iload_n 2, 1) := by decide +kernel
theorem dX9_played_54 : decode cX9_played 54 = .ok (.ireturn, 1) := by decide +kernel
theorem dX9_played_55 : decode cX9_played 55 = .ok (.iinc 2 1, 3) := by decide +kernel
theorem dX9_played_58 : decode cX9_played 58 = .ok (.goto (-37), 3) := by decide +kernel
theorem dX9_played_61 : decode cX9_played 61 = .ok (.iconst (-1), 1) := by decide +kernel
theorem dX9_played_62 : decode cX9_played 62 = .ok (.ireturn, 1) := by decide +kernel
def lX9_played_21 (F : Nat)  (t : Nat) (a1 : Int32) : Nat → mS → Int32 → Option (mS × Int32)
  | 0, _, _ => none
  | n + 1, S, v2 => ck (inb ((705 : Int32) * a1) 2820) (if (S.1 (t + 3) ((705 : Int32) * a1).toNatClampNeg) ≤ v2 then (some (S, (-1 : Int32))) else (bd (f_X9_isPlayed F S t ((((705 : Int32) * a1) + (1 : Int32)) + ((4 : Int32) * v2))) fun q2 => if q2.2 = true then (lX9_played_21 F  t a1 n q2.1 (v2 + 1)) else (some (q2.1, v2))))
set_option maxHeartbeats 4000000 in
set_option maxRecDepth 100000 in
theorem gX9_played_21 {x : mX} {F : Nat} {t : Nat} {a1 : Int32}   {R : mS × Int32} (ht : kd0 t = 9)  : ∀ (n : Nat) (S : mS) (v2 : Int32), lX9_played_21 F  t a1 n S v2 = some R → mG x μX9_played 11 0 0 (mQe R.1 (some (.int R.2))) 0 0 E0 S 21 [(0, .ref (t)), (1, .int (a1)), (2, .int (v2))] [] := by
  intro n
  induction n with
  | zero =>
    intro S v2 h
    cases h
  | succ n ih =>
    intro S v2 h
    unfold lX9_played_21 at h
    refine mG.iload_n 2 dX9_played_21 rfl ?_
    refine mG.aload_n 0 dX9_played_22 rfl ?_
    refine mG.get (v := .ref (t + 3)) dX9_played_23 mfX9_16 ht (lr9_texts ht) ?_
    refine mG.sipush (v := 705) dX9_played_26 (by decide) ?_
    refine mG.iload_n 1 dX9_played_29 rfl ?_
    refine mG.imul dX9_played_30 ?_
    obtain ⟨b1, h⟩ := ckp h
    refine mG.iald dX9_played_31 (lk9_texts ht) (ll9_texts ht) (inbp b1) ?_
    refine mG.icmp_ge 61 dX9_played_32 (by decide) (fun c4 => ?_) (fun c4 => ?_)
    · replace h := itp c4 h
      refine mG.iconst (v := (-1)) dX9_played_61 rfl ?_
      obtain rfl := Option.some.inj h
      exact mG.iret dX9_played_62 rfl ⟨rfl, rfl, rfl⟩
    · replace h := itn c4 h
      refine mG.aload_n 0 dX9_played_35 rfl ?_
      refine mG.sipush (v := 705) dX9_played_36 (by decide) ?_
      refine mG.iload_n 1 dX9_played_39 rfl ?_
      refine mG.imul dX9_played_40 ?_
      refine mG.iconst (v := 1) dX9_played_41 rfl ?_
      refine mG.iadd dX9_played_42 ?_
      refine mG.iconst (v := 4) dX9_played_43 rfl ?_
      refine mG.iload_n 2 dX9_played_44 rfl ?_
      refine mG.imul dX9_played_45 ?_
      refine mG.iadd dX9_played_46 ?_
      obtain ⟨q2, hq2, h⟩ := bdp h
      refine mG.callV0 (as := [.int ((((705 : Int32) * a1) + (1 : Int32)) + ((4 : Int32) * v2))]) (st := []) (S2 := q2.1) (r := some (.int (bI (q2.2)))) dX9_played_47 mvX9_isPlayed wk42_19 rfl ht rfl (by decide) (Nat.le_of_ble_eq_true rfl) (c_X9_isPlayed ht hq2) ?_
      refine mG.ifz_ne (b := q2.2) 55 dX9_played_50 (by decide) (fun c3 => ?_) (fun c3 => ?_)
      · replace h := itp c3 h
        refine mG.iinc 2 (u := v2 + 1) (lv2 := [(2, .int (v2 + 1)), (0, .ref (t)), (1, .int (a1))]) dX9_played_55 rfl rfl (by decide) rfl ?_
        refine mG.goto 21 dX9_played_58 (by decide) ?_
        refine mG.sub (lv2 := [(0, .ref (t)), (1, .int (a1)), (2, .int (v2 + 1))]) [1, 2, 0] rfl ?_
        exact ih q2.1 (v2 + 1)  h
      · replace h := itn c3 h
        refine mG.iload_n 2 dX9_played_53 rfl ?_
        obtain rfl := Option.some.inj h
        exact mG.iret dX9_played_54 rfl ⟨rfl, rfl, rfl⟩
def f_X9_played (F : Nat) (S : mS) (t : Nat) (a1 : Int32) : Option (mS × Int32) := ck (inb (1 : Int32) 2308) (if (f_X9_isIn S a1 (0 : Int32) ((S.1 (t + 1) (1 : Int32).toNatClampNeg) - (1 : Int32))) = true then (lX9_played_21 F  t a1 F S (0 : Int32)) else (some (S, (-2 : Int32))))
set_option maxHeartbeats 4000000 in
set_option maxRecDepth 100000 in
theorem c_X9_played {F : Nat} {S : mS} {t : Nat} {a1 : Int32} {R : mS × Int32} (ht : kd0 t = 9) (h : f_X9_played F S t a1 = some R) : mCt μX9_played 11 0 0 E0 S [.ref (t), .int (a1)] (mQe R.1 (some (.int R.2))) := by
  unfold f_X9_played at h
  refine mCt.of (by decide) (Nat.le_of_ble_eq_true rfl) ?_
  intro x
  refine mG.iload_n 1 dX9_played_0 rfl ?_
  refine mG.iconst (v := 0) dX9_played_1 rfl ?_
  refine mG.aload_n 0 dX9_played_2 rfl ?_
  refine mG.get (v := .ref (t + 1)) dX9_played_3 mfX9_7 ht (lr9_a ht) ?_
  refine mG.iconst (v := 1) dX9_played_6 rfl ?_
  obtain ⟨b1, h⟩ := ckp h
  refine mG.iald dX9_played_7 (lk9_a ht) (ll9_a ht) (inbp b1) ?_
  refine mG.iconst (v := 1) dX9_played_8 rfl ?_
  refine mG.isub dX9_played_9 ?_
  refine mG.callS0 (as := [.int (a1), .int 0, .int ((S.1 (t + 1) (1 : Int32).toNatClampNeg) - (1 : Int32))]) (st := []) (S2 := S) (r := some (.int (bI (f_X9_isIn S a1 (0 : Int32) ((S.1 (t + 1) (1 : Int32).toNatClampNeg) - (1 : Int32)))))) dX9_played_10 mbX9_isIn wk7_13 wk7_12 rfl rfl (by decide) (Nat.le_of_ble_eq_true rfl) (c_X9_isIn  rfl) ?_
  refine mG.ifz_ne (b := f_X9_isIn S a1 (0 : Int32) ((S.1 (t + 1) (1 : Int32).toNatClampNeg) - (1 : Int32))) 19 dX9_played_13 (by decide) (fun c2 => ?_) (fun c2 => ?_)
  · replace h := itp c2 h
    refine mG.iconst (v := 0) dX9_played_19 rfl ?_
    refine mG.istore_n (lv2 := [(2, .int 0), (0, .ref (t)), (1, .int (a1))]) dX9_played_20 rfl (by decide) rfl ?_
    refine mG.sub (lv2 := [(0, .ref (t)), (1, .int (a1)), (2, .int 0)]) [1, 2, 0] rfl ?_
    exact gX9_played_21 ht  F S (0 : Int32)  h
  · replace h := itn c2 h
    refine mG.bipush (v := (-2)) dX9_played_16 (by decide) ?_
    obtain rfl := Option.some.inj h
    exact mG.iret dX9_played_18 rfl ⟨rfl, rfl, rfl⟩
theorem dX9_happens_0 : decode cX9_happens 0 = .ok (.iload_n 1, 1) := by decide +kernel
theorem dX9_happens_1 : decode cX9_happens 1 = .ok (.aload_n 0, 1) := by decide +kernel
theorem dX9_happens_2 : decode cX9_happens 2 = .ok (.getfield 7, 3) := by decide +kernel
theorem dX9_happens_5 : decode cX9_happens 5 = .ok (.iconst 0, 1) := by decide +kernel
theorem dX9_happens_6 : decode cX9_happens 6 = .ok (.iaload, 1) := by decide +kernel
theorem dX9_happens_7 : decode cX9_happens 7 = .ok (.irem, 1) := by decide +kernel
theorem dX9_happens_8 : decode cX9_happens 8 = .ok (.istore_n 2, 1) := by decide +kernel
theorem dX9_happens_9 : decode cX9_happens 9 = .ok (.iload_n 1, 1) := by decide +kernel
theorem dX9_happens_10 : decode cX9_happens 10 = .ok (.bipush 6, 2) := by decide +kernel
theorem dX9_happens_12 : decode cX9_happens 12 = .ok (.irem, 1) := by decide +kernel
theorem dX9_happens_13 : decode cX9_happens 13 = .ok (.tableswitch 104 2 5 #[31, 54, 84, 84], 31) := by decide +kernel
theorem dX9_happens_44 : decode cX9_happens 44 = .ok (.iload_n 1, 1) := by decide +kernel
theorem dX9_happens_45 : decode cX9_happens 45 = .ok (.iconst 4, 1) := by decide +kernel
theorem dX9_happens_46 : decode cX9_happens 46 = .ok (.irem, 1) := by decide +kernel
theorem dX9_happens_47 : decode cX9_happens 47 = .ok (.ifCond .ne 84, 3) := by decide +kernel
theorem dX9_happens_50 : decode cX9_happens 50 = .ok (.aload_n 0, 1) := by decide +kernel
theorem dX9_happens_51 : decode cX9_happens 51 = .ok (.iload_n 2, 1) := by decide +kernel
theorem dX9_happens_52 : decode cX9_happens 52 = .ok (.invokevirtual 350, 3) := by decide +kernel
theorem dX9_happens_55 : decode cX9_happens 55 = .ok (.ifCond .eq 76, 3) := by decide +kernel
theorem dX9_happens_58 : decode cX9_happens 58 = .ok (.aload_n 0, 1) := by decide +kernel
theorem dX9_happens_59 : decode cX9_happens 59 = .ok (.iload_n 2, 1) := by decide +kernel
theorem dX9_happens_60 : decode cX9_happens 60 = .ok (.invokevirtual 353, 3) := by decide +kernel
theorem dX9_happens_63 : decode cX9_happens 63 = .ok (.pop, 1) := by decide +kernel
theorem dX9_happens_64 : decode cX9_happens 64 = .ok (.goto 67, 3) := by decide +kernel
theorem dX9_happens_67 : decode cX9_happens 67 = .ok (.iload_n 1, 1) := by decide +kernel
theorem dX9_happens_68 : decode cX9_happens 68 = .ok (.iconst 3, 1) := by decide +kernel
theorem dX9_happens_69 : decode cX9_happens 69 = .ok (.irem, 1) := by decide +kernel
theorem dX9_happens_70 : decode cX9_happens 70 = .ok (.ifCond .ne 61, 3) := by decide +kernel
theorem dX9_happens_73 : decode cX9_happens 73 = .ok (.aload_n 0, 1) := by decide +kernel
theorem dX9_happens_74 : decode cX9_happens 74 = .ok (.iload_n 1, 1) := by decide +kernel
theorem dX9_happens_75 : decode cX9_happens 75 = .ok (.bipush 20, 2) := by decide +kernel
theorem dX9_happens_77 : decode cX9_happens 77 = .ok (.irem, 1) := by decide +kernel
theorem dX9_happens_78 : decode cX9_happens 78 = .ok (.iload_n 2, 1) := by decide +kernel
theorem dX9_happens_79 : decode cX9_happens 79 = .ok (.invokevirtual 356, 3) := by decide +kernel
theorem dX9_happens_82 : decode cX9_happens 82 = .ok (.ifCond .eq 49, 3) := by decide +kernel
theorem dX9_happens_85 : decode cX9_happens 85 = .ok (.aload_n 0, 1) := by decide +kernel
theorem dX9_happens_86 : decode cX9_happens 86 = .ok (.iload_n 1, 1) := by decide +kernel
theorem dX9_happens_87 : decode cX9_happens 87 = .ok (.bipush 20, 2) := by decide +kernel
theorem dX9_happens_89 : decode cX9_happens 89 = .ok (.irem, 1) := by decide +kernel
theorem dX9_happens_90 : decode cX9_happens 90 = .ok (.iload_n 2, 1) := by decide +kernel
theorem dX9_happens_91 : decode cX9_happens 91 = .ok (.invokevirtual 359, 3) := by decide +kernel
theorem dX9_happens_94 : decode cX9_happens 94 = .ok (.goto 37, 3) := by decide +kernel
theorem dX9_happens_97 : decode cX9_happens 97 = .ok (.aload_n 0, 1) := by decide +kernel
theorem dX9_happens_98 : decode cX9_happens 98 = .ok (.getfield 7, 3) := by decide +kernel
theorem dX9_happens_101 : decode cX9_happens 101 = .ok (.bipush 8, 2) := by decide +kernel
theorem dX9_happens_103 : decode cX9_happens 103 = .ok (.iaload, 1) := by decide +kernel
theorem dX9_happens_104 : decode cX9_happens 104 = .ok (.sipush 9999, 3) := by decide +kernel
theorem dX9_happens_107 : decode cX9_happens 107 = .ok (.if_icmp .ge 24, 3) := by decide +kernel
theorem dX9_happens_110 : decode cX9_happens 110 = .ok (.aload_n 0, 1) := by decide +kernel
theorem dX9_happens_111 : decode cX9_happens 111 = .ok (.invokevirtual 362, 3) := by decide +kernel
theorem dX9_happens_114 : decode cX9_happens 114 = .ok (.goto 17, 3) := by decide +kernel
theorem dX9_happens_117 : decode cX9_happens 117 = .ok (.aload_n 0, 1) := by decide +kernel
theorem dX9_happens_118 : decode cX9_happens 118 = .ok (.iload_n 2, 1) := by decide +kernel
theorem dX9_happens_119 : decode cX9_happens 119 = .ok (.invokevirtual 77, 3) := by decide +kernel
theorem dX9_happens_122 : decode cX9_happens 122 = .ok (.ifCond .eq 9, 3) := by decide +kernel
theorem dX9_happens_125 : decode cX9_happens 125 = .ok (.aload_n 0, 1) := by decide +kernel
theorem dX9_happens_126 : decode cX9_happens 126 = .ok (.iload_n 2, 1) := by decide +kernel
theorem dX9_happens_127 : decode cX9_happens 127 = .ok (.invokevirtual 338, 3) := by decide +kernel
theorem dX9_happens_130 : decode cX9_happens 130 = .ok (.pop, 1) := by decide +kernel
theorem dX9_happens_131 : decode cX9_happens 131 = .ok (.return_, 1) := by decide +kernel
def f_X9_happens (F : Nat) (S : mS) (t : Nat) (a1 : Int32) : Option mS := ck (inb (0 : Int32) 2308) (ck (nz (S.1 (t + 1) (0 : Int32).toNatClampNeg)) (if (a1 - a1 / (6 : Int32) * (6 : Int32)) = (2 : Int32) then (if (a1 - a1 / (4 : Int32) * (4 : Int32)) = 0 then (bd (f_X9_canDraw F S t (a1 - a1 / (S.1 (t + 1) (0 : Int32).toNatClampNeg) * (S.1 (t + 1) (0 : Int32).toNatClampNeg))) fun q3 => if q3 = true then (bd (f_X9_hatNow F S t (a1 - a1 / (S.1 (t + 1) (0 : Int32).toNatClampNeg) * (S.1 (t + 1) (0 : Int32).toNatClampNeg))) fun q4 => some q4.1) else (some S)) else (some S)) else (if (a1 - a1 / (6 : Int32) * (6 : Int32)) = (3 : Int32) then (if (a1 - a1 / (3 : Int32) * (3 : Int32)) = 0 then (bd (f_X9_canForget F S t (a1 - a1 / (20 : Int32) * (20 : Int32)) (a1 - a1 / (S.1 (t + 1) (0 : Int32).toNatClampNeg) * (S.1 (t + 1) (0 : Int32).toNatClampNeg))) fun q8 => if q8 = true then (bd (f_X9_forgetNow F S t (a1 - a1 / (20 : Int32) * (20 : Int32)) (a1 - a1 / (S.1 (t + 1) (0 : Int32).toNatClampNeg) * (S.1 (t + 1) (0 : Int32).toNatClampNeg))) fun q9 => some q9) else (some S)) else (some S)) else (if (a1 - a1 / (6 : Int32) * (6 : Int32)) = (4 : Int32) then (ck (inb (8 : Int32) 2308) (if (9999 : Int32) ≤ (S.1 (t + 1) (8 : Int32).toNatClampNeg) then (some S) else (bd (f_X9_pass F S t) fun q14 => some q14))) else (if (a1 - a1 / (6 : Int32) * (6 : Int32)) = (5 : Int32) then (ck (inb (8 : Int32) 2308) (if (9999 : Int32) ≤ (S.1 (t + 1) (8 : Int32).toNatClampNeg) then (some S) else (bd (f_X9_pass F S t) fun q18 => some q18))) else (bd (f_X9_isHere F S t (a1 - a1 / (S.1 (t + 1) (0 : Int32).toNatClampNeg) * (S.1 (t + 1) (0 : Int32).toNatClampNeg))) fun q20 => if q20 = true then (bd (f_X9_knockNow F S t (a1 - a1 / (S.1 (t + 1) (0 : Int32).toNatClampNeg) * (S.1 (t + 1) (0 : Int32).toNatClampNeg))) fun q21 => some q21.1) else (some S)))))))
set_option maxHeartbeats 4000000 in
set_option maxRecDepth 100000 in
theorem c_X9_happens {F : Nat} {S : mS} {t : Nat} {a1 : Int32} {R : mS} (ht : kd0 t = 9) (h : f_X9_happens F S t a1 = some R) : mCt μX9_happens 9 0 0 E0 S [.ref (t), .int (a1)] (mQe R none) := by
  unfold f_X9_happens at h
  refine mCt.of (by decide) (Nat.le_of_ble_eq_true rfl) ?_
  intro x
  refine mG.iload_n 1 dX9_happens_0 rfl ?_
  refine mG.aload_n 0 dX9_happens_1 rfl ?_
  refine mG.get (v := .ref (t + 1)) dX9_happens_2 mfX9_7 ht (lr9_a ht) ?_
  refine mG.iconst (v := 0) dX9_happens_5 rfl ?_
  obtain ⟨b1, h⟩ := ckp h
  refine mG.iald dX9_happens_6 (lk9_a ht) (ll9_a ht) (inbp b1) ?_
  obtain ⟨b23, h⟩ := ckp h
  refine mG.irem dX9_happens_7 (nzp b23) ?_
  refine mG.istore_n (lv2 := [(2, .int (a1 - a1 / (S.1 (t + 1) (0 : Int32).toNatClampNeg) * (S.1 (t + 1) (0 : Int32).toNatClampNeg))), (0, .ref (t)), (1, .int (a1))]) dX9_happens_8 rfl (by decide) rfl ?_
  refine mG.iload_n 2 dX9_happens_9 rfl ?_
  refine mG.bipush (v := 6) dX9_happens_10 (by decide) ?_
  refine mG.irem dX9_happens_12 (by decide) ?_
  by_cases c2 : (a1 - a1 / (6 : Int32) * (6 : Int32)) = (2 : Int32)
  · replace h := itp c2 h
    refine mG.tblIn (31) 44 dX9_happens_13 (by rw [c2]; decide) (by rw [c2]; decide) (by rw [c2]; decide) (by decide) ?_
    refine mG.iload_n 2 dX9_happens_44 rfl ?_
    refine mG.iconst (v := 4) dX9_happens_45 rfl ?_
    refine mG.irem dX9_happens_46 (by decide) ?_
    refine mG.if_ne 131 dX9_happens_47 (by decide) (fun c6 => ?_) (fun c6 => ?_)
    · replace h := itn c6 h
      obtain rfl := Option.some.inj h
      exact mG.vret dX9_happens_131 rfl ⟨rfl, rfl, rfl⟩
    · replace h := itp c6 h
      refine mG.aload_n 1 dX9_happens_50 rfl ?_
      refine mG.iload_n 0 dX9_happens_51 rfl ?_
      obtain ⟨q3, hq3, h⟩ := bdp h
      refine mG.callV0 (as := [.int (a1 - a1 / (S.1 (t + 1) (0 : Int32).toNatClampNeg) * (S.1 (t + 1) (0 : Int32).toNatClampNeg))]) (st := []) (S2 := S) (r := some (.int (bI (q3)))) dX9_happens_52 mvX9_canDraw wk37_20 rfl ht rfl (by decide) (Nat.le_of_ble_eq_true rfl) (c_X9_canDraw ht hq3) ?_
      refine mG.ifz_eq (b := q3) 131 dX9_happens_55 (by decide) (fun c5 => ?_) (fun c5 => ?_)
      · replace h := itn c5 h
        obtain rfl := Option.some.inj h
        exact mG.vret dX9_happens_131 rfl ⟨rfl, rfl, rfl⟩
      · replace h := itp c5 h
        refine mG.aload_n 1 dX9_happens_58 rfl ?_
        refine mG.iload_n 0 dX9_happens_59 rfl ?_
        obtain ⟨q4, hq4, h⟩ := bdp h
        refine mG.callV0 (as := [.int (a1 - a1 / (S.1 (t + 1) (0 : Int32).toNatClampNeg) * (S.1 (t + 1) (0 : Int32).toNatClampNeg))]) (st := []) (S2 := q4.1) (r := some (.int (q4.2))) dX9_happens_60 mvX9_hatNow wk38_0 rfl ht rfl (by decide) (Nat.le_of_ble_eq_true rfl) (c_X9_hatNow ht hq4) ?_
        refine mG.pop dX9_happens_63 rfl ?_
        refine mG.goto 131 dX9_happens_64 (by decide) ?_
        obtain rfl := Option.some.inj h
        exact mG.vret dX9_happens_131 rfl ⟨rfl, rfl, rfl⟩
  replace h := itn c2 h
  by_cases c7 : (a1 - a1 / (6 : Int32) * (6 : Int32)) = (3 : Int32)
  · replace h := itp c7 h
    refine mG.tblIn (54) 67 dX9_happens_13 (by rw [c7]; decide) (by rw [c7]; decide) (by rw [c7]; decide) (by decide) ?_
    refine mG.iload_n 2 dX9_happens_67 rfl ?_
    refine mG.iconst (v := 3) dX9_happens_68 rfl ?_
    refine mG.irem dX9_happens_69 (by decide) ?_
    refine mG.if_ne 131 dX9_happens_70 (by decide) (fun c11 => ?_) (fun c11 => ?_)
    · replace h := itn c11 h
      obtain rfl := Option.some.inj h
      exact mG.vret dX9_happens_131 rfl ⟨rfl, rfl, rfl⟩
    · replace h := itp c11 h
      refine mG.aload_n 1 dX9_happens_73 rfl ?_
      refine mG.iload_n 2 dX9_happens_74 rfl ?_
      refine mG.bipush (v := 20) dX9_happens_75 (by decide) ?_
      refine mG.irem dX9_happens_77 (by decide) ?_
      refine mG.iload_n 0 dX9_happens_78 rfl ?_
      obtain ⟨q8, hq8, h⟩ := bdp h
      refine mG.callV0 (as := [.int (a1 - a1 / (20 : Int32) * (20 : Int32)), .int (a1 - a1 / (S.1 (t + 1) (0 : Int32).toNatClampNeg) * (S.1 (t + 1) (0 : Int32).toNatClampNeg))]) (st := []) (S2 := S) (r := some (.int (bI (q8)))) dX9_happens_79 mvX9_canForget wk39_4 rfl ht rfl (by decide) (Nat.le_of_ble_eq_true rfl) (c_X9_canForget ht hq8) ?_
      refine mG.ifz_eq (b := q8) 131 dX9_happens_82 (by decide) (fun c10 => ?_) (fun c10 => ?_)
      · replace h := itn c10 h
        obtain rfl := Option.some.inj h
        exact mG.vret dX9_happens_131 rfl ⟨rfl, rfl, rfl⟩
      · replace h := itp c10 h
        refine mG.aload_n 1 dX9_happens_85 rfl ?_
        refine mG.iload_n 2 dX9_happens_86 rfl ?_
        refine mG.bipush (v := 20) dX9_happens_87 (by decide) ?_
        refine mG.irem dX9_happens_89 (by decide) ?_
        refine mG.iload_n 0 dX9_happens_90 rfl ?_
        obtain ⟨q9, hq9, h⟩ := bdp h
        refine mG.callV0 (as := [.int (a1 - a1 / (20 : Int32) * (20 : Int32)), .int (a1 - a1 / (S.1 (t + 1) (0 : Int32).toNatClampNeg) * (S.1 (t + 1) (0 : Int32).toNatClampNeg))]) (st := []) (S2 := q9) (r := none) dX9_happens_91 mvX9_forgetNow wk39_8 rfl ht rfl (by decide) (Nat.le_of_ble_eq_true rfl) (c_X9_forgetNow ht hq9) ?_
        refine mG.goto 131 dX9_happens_94 (by decide) ?_
        obtain rfl := Option.some.inj h
        exact mG.vret dX9_happens_131 rfl ⟨rfl, rfl, rfl⟩
  replace h := itn c7 h
  by_cases c12 : (a1 - a1 / (6 : Int32) * (6 : Int32)) = (4 : Int32)
  · replace h := itp c12 h
    refine mG.tblIn (84) 97 dX9_happens_13 (by rw [c12]; decide) (by rw [c12]; decide) (by rw [c12]; decide) (by decide) ?_
    refine mG.aload_n 1 dX9_happens_97 rfl ?_
    refine mG.get (v := .ref (t + 1)) dX9_happens_98 mfX9_7 ht (lr9_a ht) ?_
    refine mG.bipush (v := 8) dX9_happens_101 (by decide) ?_
    obtain ⟨b13, h⟩ := ckp h
    refine mG.iald dX9_happens_103 (lk9_a ht) (ll9_a ht) (inbp b13) ?_
    refine mG.sipush (v := 9999) dX9_happens_104 (by decide) ?_
    refine mG.icmp_ge 131 dX9_happens_107 (by decide) (fun c15 => ?_) (fun c15 => ?_)
    · replace h := itp c15 h
      obtain rfl := Option.some.inj h
      exact mG.vret dX9_happens_131 rfl ⟨rfl, rfl, rfl⟩
    · replace h := itn c15 h
      refine mG.aload_n 1 dX9_happens_110 rfl ?_
      obtain ⟨q14, hq14, h⟩ := bdp h
      refine mG.callV0 (as := []) (st := []) (S2 := q14) (r := none) dX9_happens_111 mvX9_pass wk40_21 rfl ht rfl (by decide) (Nat.le_of_ble_eq_true rfl) (c_X9_pass ht hq14) ?_
      refine mG.goto 131 dX9_happens_114 (by decide) ?_
      obtain rfl := Option.some.inj h
      exact mG.vret dX9_happens_131 rfl ⟨rfl, rfl, rfl⟩
  replace h := itn c12 h
  by_cases c16 : (a1 - a1 / (6 : Int32) * (6 : Int32)) = (5 : Int32)
  · replace h := itp c16 h
    refine mG.tblIn (84) 97 dX9_happens_13 (by rw [c16]; decide) (by rw [c16]; decide) (by rw [c16]; decide) (by decide) ?_
    refine mG.aload_n 1 dX9_happens_97 rfl ?_
    refine mG.get (v := .ref (t + 1)) dX9_happens_98 mfX9_7 ht (lr9_a ht) ?_
    refine mG.bipush (v := 8) dX9_happens_101 (by decide) ?_
    obtain ⟨b17, h⟩ := ckp h
    refine mG.iald dX9_happens_103 (lk9_a ht) (ll9_a ht) (inbp b17) ?_
    refine mG.sipush (v := 9999) dX9_happens_104 (by decide) ?_
    refine mG.icmp_ge 131 dX9_happens_107 (by decide) (fun c19 => ?_) (fun c19 => ?_)
    · replace h := itp c19 h
      obtain rfl := Option.some.inj h
      exact mG.vret dX9_happens_131 rfl ⟨rfl, rfl, rfl⟩
    · replace h := itn c19 h
      refine mG.aload_n 1 dX9_happens_110 rfl ?_
      obtain ⟨q18, hq18, h⟩ := bdp h
      refine mG.callV0 (as := []) (st := []) (S2 := q18) (r := none) dX9_happens_111 mvX9_pass wk40_21 rfl ht rfl (by decide) (Nat.le_of_ble_eq_true rfl) (c_X9_pass ht hq18) ?_
      refine mG.goto 131 dX9_happens_114 (by decide) ?_
      obtain rfl := Option.some.inj h
      exact mG.vret dX9_happens_131 rfl ⟨rfl, rfl, rfl⟩
  replace h := itn c16 h
  refine mG.tblOut 117 dX9_happens_13 (by have e0 : Int32.toInt (a1 - a1 / (6 : Int32) * (6 : Int32)) ≠ 2 := fun q => c2 (Int32.toInt_inj.mp (q.trans (by decide))); have e1 : Int32.toInt (a1 - a1 / (6 : Int32) * (6 : Int32)) ≠ 3 := fun q => c7 (Int32.toInt_inj.mp (q.trans (by decide))); have e2 : Int32.toInt (a1 - a1 / (6 : Int32) * (6 : Int32)) ≠ 4 := fun q => c12 (Int32.toInt_inj.mp (q.trans (by decide))); have e3 : Int32.toInt (a1 - a1 / (6 : Int32) * (6 : Int32)) ≠ 5 := fun q => c16 (Int32.toInt_inj.mp (q.trans (by decide))); omega) (by decide) ?_
  refine mG.aload_n 1 dX9_happens_117 rfl ?_
  refine mG.iload_n 0 dX9_happens_118 rfl ?_
  obtain ⟨q20, hq20, h⟩ := bdp h
  refine mG.callV0 (as := [.int (a1 - a1 / (S.1 (t + 1) (0 : Int32).toNatClampNeg) * (S.1 (t + 1) (0 : Int32).toNatClampNeg))]) (st := []) (S2 := S) (r := some (.int (bI (q20)))) dX9_happens_119 mvX9_isHere wk32_20 rfl ht rfl (by decide) (Nat.le_of_ble_eq_true rfl) (c_X9_isHere ht hq20) ?_
  refine mG.ifz_eq (b := q20) 131 dX9_happens_122 (by decide) (fun c22 => ?_) (fun c22 => ?_)
  · replace h := itn c22 h
    obtain rfl := Option.some.inj h
    exact mG.vret dX9_happens_131 rfl ⟨rfl, rfl, rfl⟩
  · replace h := itp c22 h
    refine mG.aload_n 1 dX9_happens_125 rfl ?_
    refine mG.iload_n 0 dX9_happens_126 rfl ?_
    obtain ⟨q21, hq21, h⟩ := bdp h
    refine mG.callV0 (as := [.int (a1 - a1 / (S.1 (t + 1) (0 : Int32).toNatClampNeg) * (S.1 (t + 1) (0 : Int32).toNatClampNeg))]) (st := []) (S2 := q21.1) (r := some (.int (q21.2))) dX9_happens_127 mvX9_knockNow wk33_8 rfl ht rfl (by decide) (Nat.le_of_ble_eq_true rfl) (c_X9_knockNow ht hq21) ?_
    refine mG.pop dX9_happens_130 rfl ?_
    obtain rfl := Option.some.inj h
    exact mG.vret dX9_happens_131 rfl ⟨rfl, rfl, rfl⟩
theorem dX9_years_0 : decode cX9_years 0 = .ok (.iload_n 1, 1) := by decide +kernel
theorem dX9_years_1 : decode cX9_years 1 = .ok (.iconst 0, 1) := by decide +kernel
theorem dX9_years_2 : decode cX9_years 2 = .ok (.sipush 9999, 3) := by decide +kernel
theorem dX9_years_5 : decode cX9_years 5 = .ok (.invokestatic 65, 3) := by decide +kernel
theorem dX9_years_8 : decode cX9_years 8 = .ok (.ifCond .eq 22, 3) := by decide +kernel
theorem dX9_years_11 : decode cX9_years 11 = .ok (.iload_n 2, 1) := by decide +kernel
theorem dX9_years_12 : decode cX9_years 12 = .ok (.iconst 1, 1) := by decide +kernel
theorem dX9_years_13 : decode cX9_years 13 = .ok (.bipush 40, 2) := by decide +kernel
theorem dX9_years_15 : decode cX9_years 15 = .ok (.invokestatic 65, 3) := by decide +kernel
theorem dX9_years_18 : decode cX9_years 18 = .ok (.ifCond .eq 12, 3) := by decide +kernel
theorem dX9_years_21 : decode cX9_years 21 = .ok (.aload_n 0, 1) := by decide +kernel
theorem dX9_years_22 : decode cX9_years 22 = .ok (.getfield 7, 3) := by decide +kernel
theorem dX9_years_25 : decode cX9_years 25 = .ok (.iconst 0, 1) := by decide +kernel
theorem dX9_years_26 : decode cX9_years 26 = .ok (.iaload, 1) := by decide +kernel
theorem dX9_years_27 : decode cX9_years 27 = .ok (.ifCond .ne 5, 3) := by decide +kernel
theorem dX9_years_30 : decode cX9_years 30 = .ok (.iconst (-1), 1) := by decide +kernel
theorem dX9_years_31 : decode cX9_years 31 = .ok (.ireturn, 1) := by decide +kernel
theorem dX9_years_32 : decode cX9_years 32 = .ok (.aload_n 0, 1) := by decide +kernel
theorem dX9_years_33 : decode cX9_years 33 = .ok (.invokevirtual 335, 3) := by decide +kernel
theorem dX9_years_36 : decode cX9_years 36 = .ok (.aload_n 0, 1) := by decide +kernel
theorem dX9_years_37 : decode cX9_years 37 = .ok (.getfield 7, 3) := by decide +kernel
theorem dX9_years_40 : decode cX9_years 40 = .ok (.bipush 9, 2) := by decide +kernel
theorem dX9_years_42 : decode cX9_years 42 = .ok (.iload_n 1, 1) := by decide +kernel
theorem dX9_years_43 : decode cX9_years 43 = .ok (.iconst 2, 1) := by decide +kernel
theorem dX9_years_44 : decode cX9_years 44 = .ok (.imul, 1) := by decide +kernel
theorem dX9_years_45 : decode cX9_years 45 = .ok (.sipush 131, 3) := by decide +kernel
theorem dX9_years_48 : decode cX9_years 48 = .ok (.iadd, 1) := by decide +kernel
theorem dX9_years_49 : decode cX9_years 49 = .ok (.iastore, 1) := by decide +kernel
theorem dX9_years_50 : decode cX9_years 50 = .ok (.iconst 0, 1) := by decide +kernel
theorem dX9_years_51 : decode cX9_years 51 = .ok (.istore_n 3, 1) := by decide +kernel
theorem dX9_years_52 : decode cX9_years 52 = .ok (.iload_n 3, 1) := by decide +kernel
theorem dX9_years_53 : decode cX9_years 53 = .ok (.iload_n 2, 1) := by decide +kernel
theorem dX9_years_54 : decode cX9_years 54 = .ok (.if_icmp .ge 28, 3) := by decide +kernel
theorem dX9_years_57 : decode cX9_years 57 = .ok (.aload_n 0, 1) := by decide +kernel
theorem dX9_years_58 : decode cX9_years 58 = .ok (.getfield 7, 3) := by decide +kernel
theorem dX9_years_61 : decode cX9_years 61 = .ok (.bipush 9, 2) := by decide +kernel
theorem dX9_years_63 : decode cX9_years 63 = .ok (.iaload, 1) := by decide +kernel
theorem dX9_years_64 : decode cX9_years 64 = .ok (.istore 4, 2) := by decide +kernel
theorem dX9_years_66 : decode cX9_years 66 = .ok (.aload_n 0, 1) := by decide +kernel
theorem dX9_years_67 : decode cX9_years 67 = .ok (.invokevirtual 347, 3) := by decide +kernel
theorem dX9_years_70 : decode cX9_years 70 = .ok (.aload_n 0, 1) := by decide +kernel
theorem dX9_years_71 : decode cX9_years 71 = .ok (.iload 4, 2) := by decide +kernel
theorem dX9_years_73 : decode cX9_years 73 = .ok (.invokevirtual 387, 3) := by decide +kernel
theorem dX9_years_76 : decode cX9_years 76 = .ok (.iinc 3 1, 3) := by decide +kernel
theorem dX9_years_79 : decode cX9_years 79 = .ok (.goto (-27), 3) := by decide +kernel
theorem dX9_years_82 : decode cX9_years 82 = .ok (.aload_n 0, 1) := by decide +kernel
theorem dX9_years_83 : decode cX9_years 83 = .ok (.getfield 7, 3) := by decide +kernel
theorem dX9_years_86 : decode cX9_years 86 = .ok (.bipush 8, 2) := by decide +kernel
theorem dX9_years_88 : decode cX9_years 88 = .ok (.iaload, 1) := by decide +kernel
theorem dX9_years_89 : decode cX9_years 89 = .ok (.ireturn, 1) := by decide +kernel
def lX9_years_52 (F : Nat)  (t : Nat) (a1 : Int32) (a2 : Int32) : Nat → mS → Int32 → Option (mS × Int32)
  | 0, _, _ => none
  | n + 1, S, v3 => if a2 ≤ v3 then (ck (inb (8 : Int32) 2308) (some (S, S.1 (t + 1) (8 : Int32).toNatClampNeg))) else (ck (inb (9 : Int32) 2308) (bd (f_X9_anew F S t) fun q3 => bd (f_X9_happens F q3 t (S.1 (t + 1) (9 : Int32).toNatClampNeg)) fun q4 => lX9_years_52 F  t a1 a2 n q4 (v3 + 1)))
set_option maxHeartbeats 4000000 in
set_option maxRecDepth 100000 in
theorem gX9_years_52 {x : mX} {F : Nat} {t : Nat} {a1 : Int32} {a2 : Int32}   {R : mS × Int32} (ht : kd0 t = 9)  : ∀ (n : Nat) (S : mS) (v3 : Int32), lX9_years_52 F  t a1 a2 n S v3 = some R → mG x μX9_years 10 0 0 (mQe R.1 (some (.int R.2))) 0 0 E0 S 52 [(0, .ref (t)), (2, .int (a2)), (3, .int (v3))] [] := by
  intro n
  induction n with
  | zero =>
    intro S v3 h
    cases h
  | succ n ih =>
    intro S v3 h
    unfold lX9_years_52 at h
    refine mG.iload_n 2 dX9_years_52 rfl ?_
    refine mG.iload_n 1 dX9_years_53 rfl ?_
    refine mG.icmp_ge 82 dX9_years_54 (by decide) (fun c5 => ?_) (fun c5 => ?_)
    · replace h := itp c5 h
      refine mG.aload_n 0 dX9_years_82 rfl ?_
      refine mG.get (v := .ref (t + 1)) dX9_years_83 mfX9_7 ht (lr9_a ht) ?_
      refine mG.bipush (v := 8) dX9_years_86 (by decide) ?_
      obtain ⟨b1, h⟩ := ckp h
      refine mG.iald dX9_years_88 (lk9_a ht) (ll9_a ht) (inbp b1) ?_
      obtain rfl := Option.some.inj h
      exact mG.iret dX9_years_89 rfl ⟨rfl, rfl, rfl⟩
    · replace h := itn c5 h
      refine mG.aload_n 0 dX9_years_57 rfl ?_
      refine mG.get (v := .ref (t + 1)) dX9_years_58 mfX9_7 ht (lr9_a ht) ?_
      refine mG.bipush (v := 9) dX9_years_61 (by decide) ?_
      obtain ⟨b2, h⟩ := ckp h
      refine mG.iald dX9_years_63 (lk9_a ht) (ll9_a ht) (inbp b2) ?_
      refine mG.istore (lv2 := [(4, .int (S.1 (t + 1) (9 : Int32).toNatClampNeg)), (0, .ref (t)), (2, .int (a2)), (3, .int (v3))]) dX9_years_64 (by decide) rfl ?_
      refine mG.aload_n 1 dX9_years_66 rfl ?_
      obtain ⟨q3, hq3, h⟩ := bdp h
      refine mG.callV0 (as := []) (st := []) (S2 := q3) (r := none) dX9_years_67 mvX9_anew wk38_4 rfl ht rfl (by decide) (Nat.le_of_ble_eq_true rfl) (c_X9_anew ht hq3) ?_
      refine mG.aload_n 1 dX9_years_70 rfl ?_
      refine mG.iload 0 dX9_years_71 rfl ?_
      obtain ⟨q4, hq4, h⟩ := bdp h
      refine mG.callV0 (as := [.int (S.1 (t + 1) (9 : Int32).toNatClampNeg)]) (st := []) (S2 := q4) (r := none) dX9_years_73 mvX9_happens wk43_19 rfl ht rfl (by decide) (Nat.le_of_ble_eq_true rfl) (c_X9_happens ht hq4) ?_
      refine mG.iinc 3 (u := v3 + 1) (lv2 := [(3, .int (v3 + 1)), (4, .int (S.1 (t + 1) (9 : Int32).toNatClampNeg)), (0, .ref (t)), (2, .int (a2))]) dX9_years_76 rfl rfl (by decide) rfl ?_
      refine mG.goto 52 dX9_years_79 (by decide) ?_
      refine mG.sub (lv2 := [(0, .ref (t)), (2, .int (a2)), (3, .int (v3 + 1))]) [2, 3, 0] rfl ?_
      exact ih q4 (v3 + 1)  h
def f_X9_years (F : Nat) (S : mS) (t : Nat) (a1 : Int32) (a2 : Int32) : Option (mS × Int32) := if (f_X9_isIn S a1 (0 : Int32) (9999 : Int32)) = true then (if (f_X9_isIn S a2 (1 : Int32) (40 : Int32)) = true then (ck (inb (0 : Int32) 2308) (if (S.1 (t + 1) (0 : Int32).toNatClampNeg) = 0 then (some (S, (-1 : Int32))) else (bd (f_X9_keep F S t) fun q2 => ck (inb (9 : Int32) 2308) (stp (sI q2 (t + 1) (9 : Int32).toNatClampNeg ((a1 * (2 : Int32)) + (131 : Int32))) fun S4 => lX9_years_52 F  t a1 a2 F S4 (0 : Int32))))) else (some (S, (-1 : Int32)))) else (some (S, (-1 : Int32)))
set_option maxHeartbeats 4000000 in
set_option maxRecDepth 100000 in
theorem c_X9_years {F : Nat} {S : mS} {t : Nat} {a1 : Int32} {a2 : Int32} {R : mS × Int32} (ht : kd0 t = 9) (h : f_X9_years F S t a1 a2 = some R) : mCt μX9_years 10 0 0 E0 S [.ref (t), .int (a1), .int (a2)] (mQe R.1 (some (.int R.2))) := by
  unfold f_X9_years at h
  refine mCt.of (by decide) (Nat.le_of_ble_eq_true rfl) ?_
  intro x
  refine mG.iload_n 1 dX9_years_0 rfl ?_
  refine mG.iconst (v := 0) dX9_years_1 rfl ?_
  refine mG.sipush (v := 9999) dX9_years_2 (by decide) ?_
  refine mG.callS0 (as := [.int (a1), .int 0, .int 9999]) (st := []) (S2 := S) (r := some (.int (bI (f_X9_isIn S a1 (0 : Int32) (9999 : Int32))))) dX9_years_5 mbX9_isIn wk7_13 wk7_12 rfl rfl (by decide) (Nat.le_of_ble_eq_true rfl) (c_X9_isIn  rfl) ?_
  refine mG.ifz_eq (b := f_X9_isIn S a1 (0 : Int32) (9999 : Int32)) 30 dX9_years_8 (by decide) (fun c7 => ?_) (fun c7 => ?_)
  · replace h := itn c7 h
    refine mG.iconst (v := (-1)) dX9_years_30 rfl ?_
    obtain rfl := Option.some.inj h
    exact mG.iret dX9_years_31 rfl ⟨rfl, rfl, rfl⟩
  · replace h := itp c7 h
    refine mG.iload_n 2 dX9_years_11 rfl ?_
    refine mG.iconst (v := 1) dX9_years_12 rfl ?_
    refine mG.bipush (v := 40) dX9_years_13 (by decide) ?_
    refine mG.callS0 (as := [.int (a2), .int 1, .int 40]) (st := []) (S2 := S) (r := some (.int (bI (f_X9_isIn S a2 (1 : Int32) (40 : Int32))))) dX9_years_15 mbX9_isIn wk7_13 wk7_12 rfl rfl (by decide) (Nat.le_of_ble_eq_true rfl) (c_X9_isIn  rfl) ?_
    refine mG.ifz_eq (b := f_X9_isIn S a2 (1 : Int32) (40 : Int32)) 30 dX9_years_18 (by decide) (fun c6 => ?_) (fun c6 => ?_)
    · replace h := itn c6 h
      refine mG.iconst (v := (-1)) dX9_years_30 rfl ?_
      obtain rfl := Option.some.inj h
      exact mG.iret dX9_years_31 rfl ⟨rfl, rfl, rfl⟩
    · replace h := itp c6 h
      refine mG.aload_n 0 dX9_years_21 rfl ?_
      refine mG.get (v := .ref (t + 1)) dX9_years_22 mfX9_7 ht (lr9_a ht) ?_
      refine mG.iconst (v := 0) dX9_years_25 rfl ?_
      obtain ⟨b1, h⟩ := ckp h
      refine mG.iald dX9_years_26 (lk9_a ht) (ll9_a ht) (inbp b1) ?_
      refine mG.if_ne 32 dX9_years_27 (by decide) (fun c5 => ?_) (fun c5 => ?_)
      · replace h := itn c5 h
        refine mG.aload_n 0 dX9_years_32 rfl ?_
        obtain ⟨q2, hq2, h⟩ := bdp h
        refine mG.callV0 (as := []) (st := []) (S2 := q2) (r := none) dX9_years_33 mvX9_keep wk33_4 rfl ht rfl (by decide) (Nat.le_of_ble_eq_true rfl) (c_X9_keep ht hq2) ?_
        refine mG.aload_n 0 dX9_years_36 rfl ?_
        refine mG.get (v := .ref (t + 1)) dX9_years_37 mfX9_7 ht (lr9_a ht) ?_
        refine mG.bipush (v := 9) dX9_years_40 (by decide) ?_
        refine mG.iload_n 1 dX9_years_42 rfl ?_
        refine mG.iconst (v := 2) dX9_years_43 rfl ?_
        refine mG.imul dX9_years_44 ?_
        refine mG.sipush (v := 131) dX9_years_45 (by decide) ?_
        refine mG.iadd dX9_years_48 ?_
        obtain ⟨b3, h⟩ := ckp h
        obtain ⟨S4, hS4, h⟩ := stpp h
        refine mG.iast dX9_years_49 (lk9_a ht) (ll9_a ht) (inbp b3) hS4 ?_
        refine mG.iconst (v := 0) dX9_years_50 rfl ?_
        refine mG.istore_n (lv2 := [(3, .int 0), (0, .ref (t)), (1, .int (a1)), (2, .int (a2))]) dX9_years_51 rfl (by decide) rfl ?_
        refine mG.sub (lv2 := [(0, .ref (t)), (2, .int (a2)), (3, .int 0)]) [1, 3, 0] rfl ?_
        exact gX9_years_52 ht  F S4 (0 : Int32)  h
      · replace h := itp c5 h
        refine mG.iconst (v := (-1)) dX9_years_30 rfl ?_
        obtain rfl := Option.some.inj h
        exact mG.iret dX9_years_31 rfl ⟨rfl, rfl, rfl⟩
theorem dX9_of_0 : decode cX9_of 0 = .ok (.aload_n 0, 1) := by decide +kernel
theorem dX9_of_1 : decode cX9_of 1 = .ok (.iload_n 1, 1) := by decide +kernel
theorem dX9_of_2 : decode cX9_of 2 = .ok (.invokevirtual 69, 3) := by decide +kernel
theorem dX9_of_5 : decode cX9_of 5 = .ok (.ifCond .ne 5, 3) := by decide +kernel
theorem dX9_of_8 : decode cX9_of 8 = .ok (.iconst (-1), 1) := by decide +kernel
theorem dX9_of_9 : decode cX9_of 9 = .ok (.ireturn, 1) := by decide +kernel
theorem dX9_of_10 : decode cX9_of 10 = .ok (.iload_n 2, 1) := by decide +kernel
theorem dX9_of_11 : decode cX9_of 11 = .ok (.tableswitch 98 4 8 #[33, 55, 68, 74, 88], 33) := by decide +kernel
theorem dX9_of_44 : decode cX9_of 44 = .ok (.aload_n 0, 1) := by decide +kernel
theorem dX9_of_45 : decode cX9_of 45 = .ok (.iload_n 1, 1) := by decide +kernel
theorem dX9_of_46 : decode cX9_of 46 = .ok (.iconst 0, 1) := by decide +kernel
theorem dX9_of_47 : decode cX9_of 47 = .ok (.invokevirtual 73, 3) := by decide +kernel
theorem dX9_of_50 : decode cX9_of 50 = .ok (.aload_n 0, 1) := by decide +kernel
theorem dX9_of_51 : decode cX9_of 51 = .ok (.invokevirtual 320, 3) := by decide +kernel
theorem dX9_of_54 : decode cX9_of 54 = .ok (.invokestatic 80, 3) := by decide +kernel
theorem dX9_of_57 : decode cX9_of 57 = .ok (.ifCond .eq 7, 3) := by decide +kernel
theorem dX9_of_60 : decode cX9_of 60 = .ok (.iconst 1, 1) := by decide +kernel
theorem dX9_of_61 : decode cX9_of 61 = .ok (.goto 4, 3) := by decide +kernel
theorem dX9_of_64 : decode cX9_of 64 = .ok (.iconst 0, 1) := by decide +kernel
theorem dX9_of_65 : decode cX9_of 65 = .ok (.ireturn, 1) := by decide +kernel
theorem dX9_of_66 : decode cX9_of 66 = .ok (.aload_n 0, 1) := by decide +kernel
theorem dX9_of_67 : decode cX9_of 67 = .ok (.iload_n 1, 1) := by decide +kernel
theorem dX9_of_68 : decode cX9_of 68 = .ok (.aload_n 0, 1) := by decide +kernel
theorem dX9_of_69 : decode cX9_of 69 = .ok (.getfield 7, 3) := by decide +kernel
theorem dX9_of_72 : decode cX9_of 72 = .ok (.bipush 8, 2) := by decide +kernel
theorem dX9_of_74 : decode cX9_of 74 = .ok (.iaload, 1) := by decide +kernel
theorem dX9_of_75 : decode cX9_of 75 = .ok (.invokevirtual 326, 3) := by decide +kernel
theorem dX9_of_78 : decode cX9_of 78 = .ok (.ireturn, 1) := by decide +kernel
theorem dX9_of_79 : decode cX9_of 79 = .ok (.aload_n 0, 1) := by decide +kernel
theorem dX9_of_80 : decode cX9_of 80 = .ok (.iload_n 1, 1) := by decide +kernel
theorem dX9_of_81 : decode cX9_of 81 = .ok (.invokevirtual 323, 3) := by decide +kernel
theorem dX9_of_84 : decode cX9_of 84 = .ok (.ireturn, 1) := by decide +kernel
theorem dX9_of_85 : decode cX9_of 85 = .ok (.aload_n 0, 1) := by decide +kernel
theorem dX9_of_86 : decode cX9_of 86 = .ok (.iload_n 1, 1) := by decide +kernel
theorem dX9_of_87 : decode cX9_of 87 = .ok (.invokevirtual 332, 3) := by decide +kernel
theorem dX9_of_90 : decode cX9_of 90 = .ok (.ifCond .eq 7, 3) := by decide +kernel
theorem dX9_of_93 : decode cX9_of 93 = .ok (.iconst 1, 1) := by decide +kernel
theorem dX9_of_94 : decode cX9_of 94 = .ok (.goto 4, 3) := by decide +kernel
theorem dX9_of_97 : decode cX9_of 97 = .ok (.iconst 0, 1) := by decide +kernel
theorem dX9_of_98 : decode cX9_of 98 = .ok (.ireturn, 1) := by decide +kernel
theorem dX9_of_99 : decode cX9_of 99 = .ok (.aload_n 0, 1) := by decide +kernel
theorem dX9_of_100 : decode cX9_of 100 = .ok (.iload_n 1, 1) := by decide +kernel
theorem dX9_of_101 : decode cX9_of 101 = .ok (.aload_n 0, 1) := by decide +kernel
theorem dX9_of_102 : decode cX9_of 102 = .ok (.invokevirtual 320, 3) := by decide +kernel
theorem dX9_of_105 : decode cX9_of 105 = .ok (.invokevirtual 311, 3) := by decide +kernel
theorem dX9_of_108 : decode cX9_of 108 = .ok (.ireturn, 1) := by decide +kernel
theorem dX9_of_109 : decode cX9_of 109 = .ok (.iload_n 2, 1) := by decide +kernel
theorem dX9_of_110 : decode cX9_of 110 = .ok (.iconst 0, 1) := by decide +kernel
theorem dX9_of_111 : decode cX9_of 111 = .ok (.iconst 3, 1) := by decide +kernel
theorem dX9_of_112 : decode cX9_of 112 = .ok (.invokestatic 65, 3) := by decide +kernel
theorem dX9_of_115 : decode cX9_of 115 = .ok (.ifCond .eq 12, 3) := by decide +kernel
theorem dX9_of_118 : decode cX9_of 118 = .ok (.aload_n 0, 1) := by decide +kernel
theorem dX9_of_119 : decode cX9_of 119 = .ok (.iload_n 1, 1) := by decide +kernel
theorem dX9_of_120 : decode cX9_of 120 = .ok (.iload_n 2, 1) := by decide +kernel
theorem dX9_of_121 : decode cX9_of 121 = .ok (.invokevirtual 73, 3) := by decide +kernel
theorem dX9_of_124 : decode cX9_of 124 = .ok (.goto 4, 3) := by decide +kernel
theorem dX9_of_127 : decode cX9_of 127 = .ok (.iconst (-1), 1) := by decide +kernel
theorem dX9_of_128 : decode cX9_of 128 = .ok (.ireturn, 1) := by decide +kernel
def f_X9_of (F : Nat) (S : mS) (t : Nat) (a1 : Int32) (a2 : Int32) : Option (mS × Int32) := bd (f_X9_isHouse F S t a1) fun q1 => if q1 = true then (if a2 = (4 : Int32) then (bd (f_X9_get F S t a1 (0 : Int32)) fun q3 => bd (f_X9_date F S t) fun q4 => if (f_X9_has S q3 q4) = true then (some (S, (1 : Int32))) else (some (S, (0 : Int32)))) else (if a2 = (5 : Int32) then (ck (inb (8 : Int32) 2308) (bd (f_X9_earnsOn F S t a1 (S.1 (t + 1) (8 : Int32).toNatClampNeg)) fun q8 => some (q8.1, q8.2))) else (if a2 = (6 : Int32) then (bd (f_X9_losesOf F S t a1) fun q10 => some (q10.1, q10.2)) else (if a2 = (7 : Int32) then (bd (f_X9_isLetting F S t a1) fun q12 => if q12.2 = true then (some (q12.1, (1 : Int32))) else (some (q12.1, (0 : Int32)))) else (if a2 = (8 : Int32) then (bd (f_X9_date F S t) fun q15 => bd (f_X9_besideOn F S t a1 q15) fun q16 => some (S, q16)) else (if (f_X9_isIn S a2 (0 : Int32) (3 : Int32)) = true then (bd (f_X9_get F S t a1 a2) fun q17 => some (S, q17)) else (some (S, (-1 : Int32))))))))) else (some (S, (-1 : Int32)))
set_option maxHeartbeats 4000000 in
set_option maxRecDepth 100000 in
theorem c_X9_of {F : Nat} {S : mS} {t : Nat} {a1 : Int32} {a2 : Int32} {R : mS × Int32} (ht : kd0 t = 9) (h : f_X9_of F S t a1 a2 = some R) : mCt μX9_of 8 0 0 E0 S [.ref (t), .int (a1), .int (a2)] (mQe R.1 (some (.int R.2))) := by
  unfold f_X9_of at h
  refine mCt.of (by decide) (Nat.le_of_ble_eq_true rfl) ?_
  intro x
  refine mG.aload_n 0 dX9_of_0 rfl ?_
  refine mG.iload_n 1 dX9_of_1 rfl ?_
  obtain ⟨q1, hq1, h⟩ := bdp h
  refine mG.callV0 (as := [.int (a1)]) (st := []) (S2 := S) (r := some (.int (bI (q1)))) dX9_of_2 mvX9_isHouse wk33_0 rfl ht rfl (by decide) (Nat.le_of_ble_eq_true rfl) (c_X9_isHouse ht hq1) ?_
  refine mG.ifz_ne (b := q1) 10 dX9_of_5 (by decide) (fun c19 => ?_) (fun c19 => ?_)
  · replace h := itp c19 h
    refine mG.iload_n 2 dX9_of_10 rfl ?_
    by_cases c2 : a2 = (4 : Int32)
    · replace h := itp c2 h
      refine mG.tblIn (33) 44 dX9_of_11 (by rw [c2]; decide) (by rw [c2]; decide) (by rw [c2]; decide) (by decide) ?_
      refine mG.aload_n 0 dX9_of_44 rfl ?_
      refine mG.iload_n 1 dX9_of_45 rfl ?_
      refine mG.iconst (v := 0) dX9_of_46 rfl ?_
      obtain ⟨q3, hq3, h⟩ := bdp h
      refine mG.callV0 (as := [.int (a1), .int 0]) (st := []) (S2 := S) (r := some (.int (q3))) dX9_of_47 mvX9_get wk7_23 rfl ht rfl (by decide) (Nat.le_of_ble_eq_true rfl) (c_X9_get ht hq3) ?_
      refine mG.aload_n 0 dX9_of_50 rfl ?_
      obtain ⟨q4, hq4, h⟩ := bdp h
      refine mG.callV0 (as := []) (st := [.int (q3)]) (S2 := S) (r := some (.int (q4))) dX9_of_51 mvX9_date wk33_12 rfl ht rfl (by decide) (Nat.le_of_ble_eq_true rfl) (c_X9_date ht hq4) ?_
      refine mG.callS0 (as := [.int (q3), .int (q4)]) (st := []) (S2 := S) (r := some (.int (bI (f_X9_has S q3 q4)))) dX9_of_54 mbX9_has wk22_12 wk22_11 rfl rfl (by decide) (Nat.le_of_ble_eq_true rfl) (c_X9_has  rfl) ?_
      refine mG.ifz_eq (b := f_X9_has S q3 q4) 64 dX9_of_57 (by decide) (fun c5 => ?_) (fun c5 => ?_)
      · replace h := itn c5 h
        refine mG.iconst (v := 0) dX9_of_64 rfl ?_
        obtain rfl := Option.some.inj h
        exact mG.iret dX9_of_65 rfl ⟨rfl, rfl, rfl⟩
      · replace h := itp c5 h
        refine mG.iconst (v := 1) dX9_of_60 rfl ?_
        refine mG.goto 65 dX9_of_61 (by decide) ?_
        obtain rfl := Option.some.inj h
        exact mG.iret dX9_of_65 rfl ⟨rfl, rfl, rfl⟩
    replace h := itn c2 h
    by_cases c6 : a2 = (5 : Int32)
    · replace h := itp c6 h
      refine mG.tblIn (55) 66 dX9_of_11 (by rw [c6]; decide) (by rw [c6]; decide) (by rw [c6]; decide) (by decide) ?_
      refine mG.aload_n 0 dX9_of_66 rfl ?_
      refine mG.iload_n 1 dX9_of_67 rfl ?_
      refine mG.aload_n 0 dX9_of_68 rfl ?_
      refine mG.get (v := .ref (t + 1)) dX9_of_69 mfX9_7 ht (lr9_a ht) ?_
      refine mG.bipush (v := 8) dX9_of_72 (by decide) ?_
      obtain ⟨b7, h⟩ := ckp h
      refine mG.iald dX9_of_74 (lk9_a ht) (ll9_a ht) (inbp b7) ?_
      obtain ⟨q8, hq8, h⟩ := bdp h
      refine mG.callV0 (as := [.int (a1), .int (S.1 (t + 1) (8 : Int32).toNatClampNeg)]) (st := []) (S2 := q8.1) (r := some (.int (q8.2))) dX9_of_75 mvX9_earnsOn wk41_9 rfl ht rfl (by decide) (Nat.le_of_ble_eq_true rfl) (c_X9_earnsOn ht hq8) ?_
      obtain rfl := Option.some.inj h
      exact mG.iret dX9_of_78 rfl ⟨rfl, rfl, rfl⟩
    replace h := itn c6 h
    by_cases c9 : a2 = (6 : Int32)
    · replace h := itp c9 h
      refine mG.tblIn (68) 79 dX9_of_11 (by rw [c9]; decide) (by rw [c9]; decide) (by rw [c9]; decide) (by decide) ?_
      refine mG.aload_n 0 dX9_of_79 rfl ?_
      refine mG.iload_n 1 dX9_of_80 rfl ?_
      obtain ⟨q10, hq10, h⟩ := bdp h
      refine mG.callV0 (as := [.int (a1)]) (st := []) (S2 := q10.1) (r := some (.int (q10.2))) dX9_of_81 mvX9_losesOf wk41_1 rfl ht rfl (by decide) (Nat.le_of_ble_eq_true rfl) (c_X9_losesOf ht hq10) ?_
      obtain rfl := Option.some.inj h
      exact mG.iret dX9_of_84 rfl ⟨rfl, rfl, rfl⟩
    replace h := itn c9 h
    by_cases c11 : a2 = (7 : Int32)
    · replace h := itp c11 h
      refine mG.tblIn (74) 85 dX9_of_11 (by rw [c11]; decide) (by rw [c11]; decide) (by rw [c11]; decide) (by decide) ?_
      refine mG.aload_n 0 dX9_of_85 rfl ?_
      refine mG.iload_n 1 dX9_of_86 rfl ?_
      obtain ⟨q12, hq12, h⟩ := bdp h
      refine mG.callV0 (as := [.int (a1)]) (st := []) (S2 := q12.1) (r := some (.int (bI (q12.2)))) dX9_of_87 mvX9_isLetting wk33_20 rfl ht rfl (by decide) (Nat.le_of_ble_eq_true rfl) (c_X9_isLetting ht hq12) ?_
      refine mG.ifz_eq (b := q12.2) 97 dX9_of_90 (by decide) (fun c13 => ?_) (fun c13 => ?_)
      · replace h := itn c13 h
        refine mG.iconst (v := 0) dX9_of_97 rfl ?_
        obtain rfl := Option.some.inj h
        exact mG.iret dX9_of_98 rfl ⟨rfl, rfl, rfl⟩
      · replace h := itp c13 h
        refine mG.iconst (v := 1) dX9_of_93 rfl ?_
        refine mG.goto 98 dX9_of_94 (by decide) ?_
        obtain rfl := Option.some.inj h
        exact mG.iret dX9_of_98 rfl ⟨rfl, rfl, rfl⟩
    replace h := itn c11 h
    by_cases c14 : a2 = (8 : Int32)
    · replace h := itp c14 h
      refine mG.tblIn (88) 99 dX9_of_11 (by rw [c14]; decide) (by rw [c14]; decide) (by rw [c14]; decide) (by decide) ?_
      refine mG.aload_n 0 dX9_of_99 rfl ?_
      refine mG.iload_n 1 dX9_of_100 rfl ?_
      refine mG.aload_n 0 dX9_of_101 rfl ?_
      obtain ⟨q15, hq15, h⟩ := bdp h
      refine mG.callV0 (as := []) (st := [.int (a1), .ref (t)]) (S2 := S) (r := some (.int (q15))) dX9_of_102 mvX9_date wk33_12 rfl ht rfl (by decide) (Nat.le_of_ble_eq_true rfl) (c_X9_date ht hq15) ?_
      obtain ⟨q16, hq16, h⟩ := bdp h
      refine mG.callV0 (as := [.int (a1), .int (q15)]) (st := []) (S2 := S) (r := some (.int (q16))) dX9_of_105 mvX9_besideOn wk34_19 rfl ht rfl (by decide) (Nat.le_of_ble_eq_true rfl) (c_X9_besideOn ht hq16) ?_
      obtain rfl := Option.some.inj h
      exact mG.iret dX9_of_108 rfl ⟨rfl, rfl, rfl⟩
    replace h := itn c14 h
    refine mG.tblOut 109 dX9_of_11 (by have e0 : Int32.toInt a2 ≠ 4 := fun q => c2 (Int32.toInt_inj.mp (q.trans (by decide))); have e1 : Int32.toInt a2 ≠ 5 := fun q => c6 (Int32.toInt_inj.mp (q.trans (by decide))); have e2 : Int32.toInt a2 ≠ 6 := fun q => c9 (Int32.toInt_inj.mp (q.trans (by decide))); have e3 : Int32.toInt a2 ≠ 7 := fun q => c11 (Int32.toInt_inj.mp (q.trans (by decide))); have e4 : Int32.toInt a2 ≠ 8 := fun q => c14 (Int32.toInt_inj.mp (q.trans (by decide))); omega) (by decide) ?_
    refine mG.iload_n 2 dX9_of_109 rfl ?_
    refine mG.iconst (v := 0) dX9_of_110 rfl ?_
    refine mG.iconst (v := 3) dX9_of_111 rfl ?_
    refine mG.callS0 (as := [.int (a2), .int 0, .int 3]) (st := []) (S2 := S) (r := some (.int (bI (f_X9_isIn S a2 (0 : Int32) (3 : Int32))))) dX9_of_112 mbX9_isIn wk7_13 wk7_12 rfl rfl (by decide) (Nat.le_of_ble_eq_true rfl) (c_X9_isIn  rfl) ?_
    refine mG.ifz_eq (b := f_X9_isIn S a2 (0 : Int32) (3 : Int32)) 127 dX9_of_115 (by decide) (fun c18 => ?_) (fun c18 => ?_)
    · replace h := itn c18 h
      refine mG.iconst (v := (-1)) dX9_of_127 rfl ?_
      obtain rfl := Option.some.inj h
      exact mG.iret dX9_of_128 rfl ⟨rfl, rfl, rfl⟩
    · replace h := itp c18 h
      refine mG.aload_n 0 dX9_of_118 rfl ?_
      refine mG.iload_n 1 dX9_of_119 rfl ?_
      refine mG.iload_n 2 dX9_of_120 rfl ?_
      obtain ⟨q17, hq17, h⟩ := bdp h
      refine mG.callV0 (as := [.int (a1), .int (a2)]) (st := []) (S2 := S) (r := some (.int (q17))) dX9_of_121 mvX9_get wk7_23 rfl ht rfl (by decide) (Nat.le_of_ble_eq_true rfl) (c_X9_get ht hq17) ?_
      refine mG.goto 128 dX9_of_124 (by decide) ?_
      obtain rfl := Option.some.inj h
      exact mG.iret dX9_of_128 rfl ⟨rfl, rfl, rfl⟩
  · replace h := itn c19 h
    refine mG.iconst (v := (-1)) dX9_of_8 rfl ?_
    obtain rfl := Option.some.inj h
    exact mG.iret dX9_of_9 rfl ⟨rfl, rfl, rfl⟩
theorem dX9_is_0 : decode cX9_is 0 = .ok (.iload_n 1, 1) := by decide +kernel
theorem dX9_is_1 : decode cX9_is 1 = .ok (.tableswitch 61 0 3 #[31, 39, 44, 52], 31) := by decide +kernel
theorem dX9_is_32 : decode cX9_is 32 = .ok (.aload_n 0, 1) := by decide +kernel
theorem dX9_is_33 : decode cX9_is 33 = .ok (.getfield 7, 3) := by decide +kernel
theorem dX9_is_36 : decode cX9_is 36 = .ok (.bipush 8, 2) := by decide +kernel
theorem dX9_is_38 : decode cX9_is 38 = .ok (.iaload, 1) := by decide +kernel
theorem dX9_is_39 : decode cX9_is 39 = .ok (.ireturn, 1) := by decide +kernel
theorem dX9_is_40 : decode cX9_is 40 = .ok (.aload_n 0, 1) := by decide +kernel
theorem dX9_is_41 : decode cX9_is 41 = .ok (.invokevirtual 320, 3) := by decide +kernel
theorem dX9_is_44 : decode cX9_is 44 = .ok (.ireturn, 1) := by decide +kernel
theorem dX9_is_45 : decode cX9_is 45 = .ok (.aload_n 0, 1) := by decide +kernel
theorem dX9_is_46 : decode cX9_is 46 = .ok (.getfield 7, 3) := by decide +kernel
theorem dX9_is_49 : decode cX9_is 49 = .ok (.bipush 9, 2) := by decide +kernel
theorem dX9_is_51 : decode cX9_is 51 = .ok (.iaload, 1) := by decide +kernel
theorem dX9_is_52 : decode cX9_is 52 = .ok (.ireturn, 1) := by decide +kernel
theorem dX9_is_53 : decode cX9_is 53 = .ok (.aload_n 0, 1) := by decide +kernel
theorem dX9_is_54 : decode cX9_is 54 = .ok (.aload_n 0, 1) := by decide +kernel
theorem dX9_is_55 : decode cX9_is 55 = .ok (.invokevirtual 320, 3) := by decide +kernel
theorem dX9_is_58 : decode cX9_is 58 = .ok (.invokevirtual 308, 3) := by decide +kernel
theorem dX9_is_61 : decode cX9_is 61 = .ok (.ireturn, 1) := by decide +kernel
theorem dX9_is_62 : decode cX9_is 62 = .ok (.bipush (-2), 2) := by decide +kernel
theorem dX9_is_64 : decode cX9_is 64 = .ok (.ireturn, 1) := by decide +kernel
def f_X9_is (F : Nat) (S0 : mS) (t : Nat) (a1 : Int32) : Option Int32 := if a1 = (0 : Int32) then (ck (inb (8 : Int32) 2308) (some (S0.1 (t + 1) (8 : Int32).toNatClampNeg))) else (if a1 = (1 : Int32) then (bd (f_X9_date F S0 t) fun q4 => some q4) else (if a1 = (2 : Int32) then (ck (inb (9 : Int32) 2308) (some (S0.1 (t + 1) (9 : Int32).toNatClampNeg))) else (if a1 = (3 : Int32) then (bd (f_X9_date F S0 t) fun q8 => bd (f_X9_openOn F S0 t q8) fun q9 => some q9) else (some (-2 : Int32)))))
set_option maxHeartbeats 4000000 in
set_option maxRecDepth 100000 in
theorem c_X9_is {F : Nat} {S0 : mS} {t : Nat} {a1 : Int32} {R : Int32} (ht : kd0 t = 9) (h : f_X9_is F S0 t a1 = some R) : mCt μX9_is 6 0 0 E0 S0 [.ref (t), .int (a1)] (mQe S0 (some (.int R))) := by
  unfold f_X9_is at h
  refine mCt.of (by decide) (Nat.le_of_ble_eq_true rfl) ?_
  intro x
  refine mG.iload_n 1 dX9_is_0 rfl ?_
  by_cases c1 : a1 = (0 : Int32)
  · replace h := itp c1 h
    refine mG.tblIn (31) 32 dX9_is_1 (by rw [c1]; decide) (by rw [c1]; decide) (by rw [c1]; decide) (by decide) ?_
    refine mG.aload_n 0 dX9_is_32 rfl ?_
    refine mG.get (v := .ref (t + 1)) dX9_is_33 mfX9_7 ht (lr9_a ht) ?_
    refine mG.bipush (v := 8) dX9_is_36 (by decide) ?_
    obtain ⟨b2, h⟩ := ckp h
    refine mG.iald dX9_is_38 (lk9_a ht) (ll9_a ht) (inbp b2) ?_
    obtain rfl := Option.some.inj h
    exact mG.iret dX9_is_39 rfl ⟨rfl, rfl, rfl⟩
  replace h := itn c1 h
  by_cases c3 : a1 = (1 : Int32)
  · replace h := itp c3 h
    refine mG.tblIn (39) 40 dX9_is_1 (by rw [c3]; decide) (by rw [c3]; decide) (by rw [c3]; decide) (by decide) ?_
    refine mG.aload_n 0 dX9_is_40 rfl ?_
    obtain ⟨q4, hq4, h⟩ := bdp h
    refine mG.callV0 (as := []) (st := []) (S2 := S0) (r := some (.int (q4))) dX9_is_41 mvX9_date wk33_12 rfl ht rfl (by decide) (Nat.le_of_ble_eq_true rfl) (c_X9_date ht hq4) ?_
    obtain rfl := Option.some.inj h
    exact mG.iret dX9_is_44 rfl ⟨rfl, rfl, rfl⟩
  replace h := itn c3 h
  by_cases c5 : a1 = (2 : Int32)
  · replace h := itp c5 h
    refine mG.tblIn (44) 45 dX9_is_1 (by rw [c5]; decide) (by rw [c5]; decide) (by rw [c5]; decide) (by decide) ?_
    refine mG.aload_n 0 dX9_is_45 rfl ?_
    refine mG.get (v := .ref (t + 1)) dX9_is_46 mfX9_7 ht (lr9_a ht) ?_
    refine mG.bipush (v := 9) dX9_is_49 (by decide) ?_
    obtain ⟨b6, h⟩ := ckp h
    refine mG.iald dX9_is_51 (lk9_a ht) (ll9_a ht) (inbp b6) ?_
    obtain rfl := Option.some.inj h
    exact mG.iret dX9_is_52 rfl ⟨rfl, rfl, rfl⟩
  replace h := itn c5 h
  by_cases c7 : a1 = (3 : Int32)
  · replace h := itp c7 h
    refine mG.tblIn (52) 53 dX9_is_1 (by rw [c7]; decide) (by rw [c7]; decide) (by rw [c7]; decide) (by decide) ?_
    refine mG.aload_n 0 dX9_is_53 rfl ?_
    refine mG.aload_n 0 dX9_is_54 rfl ?_
    obtain ⟨q8, hq8, h⟩ := bdp h
    refine mG.callV0 (as := []) (st := [.ref (t)]) (S2 := S0) (r := some (.int (q8))) dX9_is_55 mvX9_date wk33_12 rfl ht rfl (by decide) (Nat.le_of_ble_eq_true rfl) (c_X9_date ht hq8) ?_
    obtain ⟨q9, hq9, h⟩ := bdp h
    refine mG.callV0 (as := [.int (q8)]) (st := []) (S2 := S0) (r := some (.int (q9))) dX9_is_58 mvX9_openOn wk34_11 rfl ht rfl (by decide) (Nat.le_of_ble_eq_true rfl) (c_X9_openOn ht hq9) ?_
    obtain rfl := Option.some.inj h
    exact mG.iret dX9_is_61 rfl ⟨rfl, rfl, rfl⟩
  replace h := itn c7 h
  refine mG.tblOut 62 dX9_is_1 (by have e0 : Int32.toInt a1 ≠ 0 := fun q => c1 (Int32.toInt_inj.mp (q.trans (by decide))); have e1 : Int32.toInt a1 ≠ 1 := fun q => c3 (Int32.toInt_inj.mp (q.trans (by decide))); have e2 : Int32.toInt a1 ≠ 2 := fun q => c5 (Int32.toInt_inj.mp (q.trans (by decide))); have e3 : Int32.toInt a1 ≠ 3 := fun q => c7 (Int32.toInt_inj.mp (q.trans (by decide))); omega) (by decide) ?_
  refine mG.bipush (v := (-2)) dX9_is_62 (by decide) ?_
  obtain rfl := Option.some.inj h
  exact mG.iret dX9_is_64 rfl ⟨rfl, rfl, rfl⟩
theorem dX9_entry_0 : decode cX9_entry 0 = .ok (.iload_n 2, 1) := by decide +kernel
theorem dX9_entry_1 : decode cX9_entry 1 = .ok (.ifCond .ne 19, 3) := by decide +kernel
theorem dX9_entry_4 : decode cX9_entry 4 = .ok (.aload_n 0, 1) := by decide +kernel
theorem dX9_entry_5 : decode cX9_entry 5 = .ok (.getfield 7, 3) := by decide +kernel
theorem dX9_entry_8 : decode cX9_entry 8 = .ok (.sipush 2268, 3) := by decide +kernel
theorem dX9_entry_11 : decode cX9_entry 11 = .ok (.iload_n 1, 1) := by decide +kernel
theorem dX9_entry_12 : decode cX9_entry 12 = .ok (.iadd, 1) := by decide +kernel
theorem dX9_entry_13 : decode cX9_entry 13 = .ok (.iaload, 1) := by decide +kernel
theorem dX9_entry_14 : decode cX9_entry 14 = .ok (.bipush 16, 2) := by decide +kernel
theorem dX9_entry_16 : decode cX9_entry 16 = .ok (.idiv, 1) := by decide +kernel
theorem dX9_entry_17 : decode cX9_entry 17 = .ok (.goto 38, 3) := by decide +kernel
theorem dX9_entry_20 : decode cX9_entry 20 = .ok (.iload_n 2, 1) := by decide +kernel
theorem dX9_entry_21 : decode cX9_entry 21 = .ok (.iconst 1, 1) := by decide +kernel
theorem dX9_entry_22 : decode cX9_entry 22 = .ok (.if_icmp .ne 21, 3) := by decide +kernel
theorem dX9_entry_25 : decode cX9_entry 25 = .ok (.aload_n 0, 1) := by decide +kernel
theorem dX9_entry_26 : decode cX9_entry 26 = .ok (.getfield 7, 3) := by decide +kernel
theorem dX9_entry_29 : decode cX9_entry 29 = .ok (.sipush 2268, 3) := by decide +kernel
theorem dX9_entry_32 : decode cX9_entry 32 = .ok (.iload_n 1, 1) := by decide +kernel
theorem dX9_entry_33 : decode cX9_entry 33 = .ok (.iadd, 1) := by decide +kernel
theorem dX9_entry_34 : decode cX9_entry 34 = .ok (.iaload, 1) := by decide +kernel
theorem dX9_entry_35 : decode cX9_entry 35 = .ok (.iconst 2, 1) := by decide +kernel
theorem dX9_entry_36 : decode cX9_entry 36 = .ok (.idiv, 1) := by decide +kernel
theorem dX9_entry_37 : decode cX9_entry 37 = .ok (.bipush 8, 2) := by decide +kernel
theorem dX9_entry_39 : decode cX9_entry 39 = .ok (.irem, 1) := by decide +kernel
theorem dX9_entry_40 : decode cX9_entry 40 = .ok (.goto 15, 3) := by decide +kernel
theorem dX9_entry_43 : decode cX9_entry 43 = .ok (.aload_n 0, 1) := by decide +kernel
theorem dX9_entry_44 : decode cX9_entry 44 = .ok (.getfield 7, 3) := by decide +kernel
theorem dX9_entry_47 : decode cX9_entry 47 = .ok (.sipush 2268, 3) := by decide +kernel
theorem dX9_entry_50 : decode cX9_entry 50 = .ok (.iload_n 1, 1) := by decide +kernel
theorem dX9_entry_51 : decode cX9_entry 51 = .ok (.iadd, 1) := by decide +kernel
theorem dX9_entry_52 : decode cX9_entry 52 = .ok (.iaload, 1) := by decide +kernel
theorem dX9_entry_53 : decode cX9_entry 53 = .ok (.iconst 2, 1) := by decide +kernel
theorem dX9_entry_54 : decode cX9_entry 54 = .ok (.irem, 1) := by decide +kernel
theorem dX9_entry_55 : decode cX9_entry 55 = .ok (.ireturn, 1) := by decide +kernel
def f_X9_entry (F : Nat) (S0 : mS) (t : Nat) (a1 : Int32) (a2 : Int32) : Option Int32 := if a2 = 0 then (ck (inb ((2268 : Int32) + a1) 2308) (some ((S0.1 (t + 1) ((2268 : Int32) + a1).toNatClampNeg) / (16 : Int32)))) else (if a2 = (1 : Int32) then (ck (inb ((2268 : Int32) + a1) 2308) (some (((S0.1 (t + 1) ((2268 : Int32) + a1).toNatClampNeg) / (2 : Int32)) - ((S0.1 (t + 1) ((2268 : Int32) + a1).toNatClampNeg) / (2 : Int32)) / (8 : Int32) * (8 : Int32)))) else (ck (inb ((2268 : Int32) + a1) 2308) (some ((S0.1 (t + 1) ((2268 : Int32) + a1).toNatClampNeg) - (S0.1 (t + 1) ((2268 : Int32) + a1).toNatClampNeg) / (2 : Int32) * (2 : Int32)))))
set_option maxHeartbeats 4000000 in
set_option maxRecDepth 100000 in
theorem c_X9_entry {F : Nat} {S0 : mS} {t : Nat} {a1 : Int32} {a2 : Int32} {R : Int32} (ht : kd0 t = 9) (h : f_X9_entry F S0 t a1 a2 = some R) : mCt μX9_entry 1 0 0 E0 S0 [.ref (t), .int (a1), .int (a2)] (mQe S0 (some (.int R))) := by
  unfold f_X9_entry at h
  refine mCt.of (by decide) (Nat.le_of_ble_eq_true rfl) ?_
  intro x
  refine mG.iload_n 2 dX9_entry_0 rfl ?_
  refine mG.if_ne 20 dX9_entry_1 (by decide) (fun c5 => ?_) (fun c5 => ?_)
  · replace h := itn c5 h
    refine mG.iload_n 2 dX9_entry_20 rfl ?_
    refine mG.iconst (v := 1) dX9_entry_21 rfl ?_
    refine mG.icmp_ne 43 dX9_entry_22 (by decide) (fun c3 => ?_) (fun c3 => ?_)
    · replace h := itn c3 h
      refine mG.aload_n 0 dX9_entry_43 rfl ?_
      refine mG.get (v := .ref (t + 1)) dX9_entry_44 mfX9_7 ht (lr9_a ht) ?_
      refine mG.sipush (v := 2268) dX9_entry_47 (by decide) ?_
      refine mG.iload_n 1 dX9_entry_50 rfl ?_
      refine mG.iadd dX9_entry_51 ?_
      obtain ⟨b1, h⟩ := ckp h
      refine mG.iald dX9_entry_52 (lk9_a ht) (ll9_a ht) (inbp b1) ?_
      refine mG.iconst (v := 2) dX9_entry_53 rfl ?_
      refine mG.irem dX9_entry_54 (by decide) ?_
      obtain rfl := Option.some.inj h
      exact mG.iret dX9_entry_55 rfl ⟨rfl, rfl, rfl⟩
    · replace h := itp c3 h
      refine mG.aload_n 0 dX9_entry_25 rfl ?_
      refine mG.get (v := .ref (t + 1)) dX9_entry_26 mfX9_7 ht (lr9_a ht) ?_
      refine mG.sipush (v := 2268) dX9_entry_29 (by decide) ?_
      refine mG.iload_n 1 dX9_entry_32 rfl ?_
      refine mG.iadd dX9_entry_33 ?_
      obtain ⟨b2, h⟩ := ckp h
      refine mG.iald dX9_entry_34 (lk9_a ht) (ll9_a ht) (inbp b2) ?_
      refine mG.iconst (v := 2) dX9_entry_35 rfl ?_
      refine mG.idiv dX9_entry_36 (by decide) ?_
      refine mG.bipush (v := 8) dX9_entry_37 (by decide) ?_
      refine mG.irem dX9_entry_39 (by decide) ?_
      refine mG.goto 55 dX9_entry_40 (by decide) ?_
      obtain rfl := Option.some.inj h
      exact mG.iret dX9_entry_55 rfl ⟨rfl, rfl, rfl⟩
  · replace h := itp c5 h
    refine mG.aload_n 0 dX9_entry_4 rfl ?_
    refine mG.get (v := .ref (t + 1)) dX9_entry_5 mfX9_7 ht (lr9_a ht) ?_
    refine mG.sipush (v := 2268) dX9_entry_8 (by decide) ?_
    refine mG.iload_n 1 dX9_entry_11 rfl ?_
    refine mG.iadd dX9_entry_12 ?_
    obtain ⟨b4, h⟩ := ckp h
    refine mG.iald dX9_entry_13 (lk9_a ht) (ll9_a ht) (inbp b4) ?_
    refine mG.bipush (v := 16) dX9_entry_14 (by decide) ?_
    refine mG.idiv dX9_entry_16 (by decide) ?_
    refine mG.goto 55 dX9_entry_17 (by decide) ?_
    obtain rfl := Option.some.inj h
    exact mG.iret dX9_entry_55 rfl ⟨rfl, rfl, rfl⟩
theorem dX9_book_0 : decode cX9_book 0 = .ok (.iload_n 1, 1) := by decide +kernel
theorem dX9_book_1 : decode cX9_book 1 = .ok (.iconst (-1), 1) := by decide +kernel
theorem dX9_book_2 : decode cX9_book 2 = .ok (.if_icmp .ne 11, 3) := by decide +kernel
theorem dX9_book_5 : decode cX9_book 5 = .ok (.aload_n 0, 1) := by decide +kernel
theorem dX9_book_6 : decode cX9_book 6 = .ok (.getfield 7, 3) := by decide +kernel
theorem dX9_book_9 : decode cX9_book 9 = .ok (.bipush 10, 2) := by decide +kernel
theorem dX9_book_11 : decode cX9_book 11 = .ok (.iaload, 1) := by decide +kernel
theorem dX9_book_12 : decode cX9_book 12 = .ok (.ireturn, 1) := by decide +kernel
theorem dX9_book_13 : decode cX9_book 13 = .ok (.iload_n 1, 1) := by decide +kernel
theorem dX9_book_14 : decode cX9_book 14 = .ok (.iconst 0, 1) := by decide +kernel
theorem dX9_book_15 : decode cX9_book 15 = .ok (.aload_n 0, 1) := by decide +kernel
theorem dX9_book_16 : decode cX9_book 16 = .ok (.getfield 7, 3) := by decide +kernel
theorem dX9_book_19 : decode cX9_book 19 = .ok (.bipush 10, 2) := by decide +kernel
theorem dX9_book_21 : decode cX9_book 21 = .ok (.iaload, 1) := by decide +kernel
theorem dX9_book_22 : decode cX9_book 22 = .ok (.iconst 1, 1) := by decide +kernel
theorem dX9_book_23 : decode cX9_book 23 = .ok (.isub, 1) := by decide +kernel
theorem dX9_book_24 : decode cX9_book 24 = .ok (.invokestatic 65, 3) := by decide +kernel
theorem dX9_book_27 : decode cX9_book 27 = .ok (.ifCond .eq 21, 3) := by decide +kernel
theorem dX9_book_30 : decode cX9_book 30 = .ok (.iload_n 2, 1) := by decide +kernel
theorem dX9_book_31 : decode cX9_book 31 = .ok (.iconst 0, 1) := by decide +kernel
theorem dX9_book_32 : decode cX9_book 32 = .ok (.iconst 2, 1) := by decide +kernel
theorem dX9_book_33 : decode cX9_book 33 = .ok (.invokestatic 65, 3) := by decide +kernel
theorem dX9_book_36 : decode cX9_book 36 = .ok (.ifCond .eq 12, 3) := by decide +kernel
theorem dX9_book_39 : decode cX9_book 39 = .ok (.aload_n 0, 1) := by decide +kernel
theorem dX9_book_40 : decode cX9_book 40 = .ok (.iload_n 1, 1) := by decide +kernel
theorem dX9_book_41 : decode cX9_book 41 = .ok (.iload_n 2, 1) := by decide +kernel
theorem dX9_book_42 : decode cX9_book 42 = .ok (.invokevirtual 390, 3) := by decide +kernel
theorem dX9_book_45 : decode cX9_book 45 = .ok (.goto 5, 3) := by decide +kernel
theorem dX9_book_48 : decode cX9_book 48 = .ok (.bipush (-2), 2) := by decide +kernel
theorem dX9_book_50 : decode cX9_book 50 = .ok (.ireturn, 1) := by decide +kernel
def f_X9_book (F : Nat) (S0 : mS) (t : Nat) (a1 : Int32) (a2 : Int32) : Option Int32 := if a1 = (-1 : Int32) then (ck (inb (10 : Int32) 2308) (some (S0.1 (t + 1) (10 : Int32).toNatClampNeg))) else (ck (inb (10 : Int32) 2308) (if (f_X9_isIn S0 a1 (0 : Int32) ((S0.1 (t + 1) (10 : Int32).toNatClampNeg) - (1 : Int32))) = true then (if (f_X9_isIn S0 a2 (0 : Int32) (2 : Int32)) = true then (bd (f_X9_entry F S0 t a1 a2) fun q2 => some q2) else (some (-2 : Int32))) else (some (-2 : Int32))))
set_option maxHeartbeats 4000000 in
set_option maxRecDepth 100000 in
theorem c_X9_book {F : Nat} {S0 : mS} {t : Nat} {a1 : Int32} {a2 : Int32} {R : Int32} (ht : kd0 t = 9) (h : f_X9_book F S0 t a1 a2 = some R) : mCt μX9_book 2 0 0 E0 S0 [.ref (t), .int (a1), .int (a2)] (mQe S0 (some (.int R))) := by
  unfold f_X9_book at h
  refine mCt.of (by decide) (Nat.le_of_ble_eq_true rfl) ?_
  intro x
  refine mG.iload_n 1 dX9_book_0 rfl ?_
  refine mG.iconst (v := (-1)) dX9_book_1 rfl ?_
  refine mG.icmp_ne 13 dX9_book_2 (by decide) (fun c6 => ?_) (fun c6 => ?_)
  · replace h := itn c6 h
    refine mG.iload_n 1 dX9_book_13 rfl ?_
    refine mG.iconst (v := 0) dX9_book_14 rfl ?_
    refine mG.aload_n 0 dX9_book_15 rfl ?_
    refine mG.get (v := .ref (t + 1)) dX9_book_16 mfX9_7 ht (lr9_a ht) ?_
    refine mG.bipush (v := 10) dX9_book_19 (by decide) ?_
    obtain ⟨b1, h⟩ := ckp h
    refine mG.iald dX9_book_21 (lk9_a ht) (ll9_a ht) (inbp b1) ?_
    refine mG.iconst (v := 1) dX9_book_22 rfl ?_
    refine mG.isub dX9_book_23 ?_
    refine mG.callS0 (as := [.int (a1), .int 0, .int ((S0.1 (t + 1) (10 : Int32).toNatClampNeg) - (1 : Int32))]) (st := []) (S2 := S0) (r := some (.int (bI (f_X9_isIn S0 a1 (0 : Int32) ((S0.1 (t + 1) (10 : Int32).toNatClampNeg) - (1 : Int32)))))) dX9_book_24 mbX9_isIn wk7_13 wk7_12 rfl rfl (by decide) (Nat.le_of_ble_eq_true rfl) (c_X9_isIn  rfl) ?_
    refine mG.ifz_eq (b := f_X9_isIn S0 a1 (0 : Int32) ((S0.1 (t + 1) (10 : Int32).toNatClampNeg) - (1 : Int32))) 48 dX9_book_27 (by decide) (fun c4 => ?_) (fun c4 => ?_)
    · replace h := itn c4 h
      refine mG.bipush (v := (-2)) dX9_book_48 (by decide) ?_
      obtain rfl := Option.some.inj h
      exact mG.iret dX9_book_50 rfl ⟨rfl, rfl, rfl⟩
    · replace h := itp c4 h
      refine mG.iload_n 2 dX9_book_30 rfl ?_
      refine mG.iconst (v := 0) dX9_book_31 rfl ?_
      refine mG.iconst (v := 2) dX9_book_32 rfl ?_
      refine mG.callS0 (as := [.int (a2), .int 0, .int 2]) (st := []) (S2 := S0) (r := some (.int (bI (f_X9_isIn S0 a2 (0 : Int32) (2 : Int32))))) dX9_book_33 mbX9_isIn wk7_13 wk7_12 rfl rfl (by decide) (Nat.le_of_ble_eq_true rfl) (c_X9_isIn  rfl) ?_
      refine mG.ifz_eq (b := f_X9_isIn S0 a2 (0 : Int32) (2 : Int32)) 48 dX9_book_36 (by decide) (fun c3 => ?_) (fun c3 => ?_)
      · replace h := itn c3 h
        refine mG.bipush (v := (-2)) dX9_book_48 (by decide) ?_
        obtain rfl := Option.some.inj h
        exact mG.iret dX9_book_50 rfl ⟨rfl, rfl, rfl⟩
      · replace h := itp c3 h
        refine mG.aload_n 0 dX9_book_39 rfl ?_
        refine mG.iload_n 1 dX9_book_40 rfl ?_
        refine mG.iload_n 2 dX9_book_41 rfl ?_
        obtain ⟨q2, hq2, h⟩ := bdp h
        refine mG.callV0 (as := [.int (a1), .int (a2)]) (st := []) (S2 := S0) (r := some (.int (q2))) dX9_book_42 mvX9_entry wk46_15 rfl ht rfl (by decide) (Nat.le_of_ble_eq_true rfl) (c_X9_entry ht hq2) ?_
        refine mG.goto 50 dX9_book_45 (by decide) ?_
        obtain rfl := Option.some.inj h
        exact mG.iret dX9_book_50 rfl ⟨rfl, rfl, rfl⟩
  · replace h := itp c6 h
    refine mG.aload_n 0 dX9_book_5 rfl ?_
    refine mG.get (v := .ref (t + 1)) dX9_book_6 mfX9_7 ht (lr9_a ht) ?_
    refine mG.bipush (v := 10) dX9_book_9 (by decide) ?_
    obtain ⟨b5, h⟩ := ckp h
    refine mG.iald dX9_book_11 (lk9_a ht) (ll9_a ht) (inbp b5) ?_
    obtain rfl := Option.some.inj h
    exact mG.iret dX9_book_12 rfl ⟨rfl, rfl, rfl⟩
theorem dX9_knocksAt_0 : decode cX9_knocksAt 0 = .ok (.iconst 0, 1) := by decide +kernel
theorem dX9_knocksAt_1 : decode cX9_knocksAt 1 = .ok (.istore_n 3, 1) := by decide +kernel
theorem dX9_knocksAt_2 : decode cX9_knocksAt 2 = .ok (.iconst 0, 1) := by decide +kernel
theorem dX9_knocksAt_3 : decode cX9_knocksAt 3 = .ok (.istore 4, 2) := by decide +kernel
theorem dX9_knocksAt_5 : decode cX9_knocksAt 5 = .ok (.iload 4, 2) := by decide +kernel
theorem dX9_knocksAt_7 : decode cX9_knocksAt 7 = .ok (.aload_n 0, 1) := by decide +kernel
theorem dX9_knocksAt_8 : decode cX9_knocksAt 8 = .ok (.getfield 7, 3) := by decide +kernel
theorem dX9_knocksAt_11 : decode cX9_knocksAt 11 = .ok (.bipush 10, 2) := by decide +kernel
theorem dX9_knocksAt_13 : decode cX9_knocksAt 13 = .ok (.iaload, 1) := by decide +kernel
theorem dX9_knocksAt_14 : decode cX9_knocksAt 14 = .ok (.if_icmp .ge 44, 3) := by decide +kernel
theorem dX9_knocksAt_17 : decode cX9_knocksAt 17 = .ok (.iload_n 3, 1) := by decide +kernel
theorem dX9_knocksAt_18 : decode cX9_knocksAt 18 = .ok (.aload_n 0, 1) := by decide +kernel
theorem dX9_knocksAt_19 : decode cX9_knocksAt 19 = .ok (.iload 4, 2) := by decide +kernel
theorem dX9_knocksAt_21 : decode cX9_knocksAt 21 = .ok (.iconst 2, 1) := by decide +kernel
theorem dX9_knocksAt_22 : decode cX9_knocksAt 22 = .ok (.invokevirtual 390, 3) := by decide +kernel
theorem dX9_knocksAt_25 : decode cX9_knocksAt 25 = .ok (.iload_n 2, 1) := by decide +kernel
theorem dX9_knocksAt_26 : decode cX9_knocksAt 26 = .ok (.if_icmp .ne 23, 3) := by decide +kernel
theorem dX9_knocksAt_29 : decode cX9_knocksAt 29 = .ok (.iload_n 1, 1) := by decide +kernel
theorem dX9_knocksAt_30 : decode cX9_knocksAt 30 = .ok (.iconst (-1), 1) := by decide +kernel
theorem dX9_knocksAt_31 : decode cX9_knocksAt 31 = .ok (.if_icmp .eq 14, 3) := by decide +kernel
theorem dX9_knocksAt_34 : decode cX9_knocksAt 34 = .ok (.aload_n 0, 1) := by decide +kernel
theorem dX9_knocksAt_35 : decode cX9_knocksAt 35 = .ok (.iload 4, 2) := by decide +kernel
theorem dX9_knocksAt_37 : decode cX9_knocksAt 37 = .ok (.iconst 1, 1) := by decide +kernel
theorem dX9_knocksAt_38 : decode cX9_knocksAt 38 = .ok (.invokevirtual 390, 3) := by decide +kernel
theorem dX9_knocksAt_41 : decode cX9_knocksAt 41 = .ok (.iload_n 1, 1) := by decide +kernel
theorem dX9_knocksAt_42 : decode cX9_knocksAt 42 = .ok (.if_icmp .ne 7, 3) := by decide +kernel
theorem dX9_knocksAt_45 : decode cX9_knocksAt 45 = .ok (.iconst 1, 1) := by decide +kernel
theorem dX9_knocksAt_46 : decode cX9_knocksAt 46 = .ok (.goto 4, 3) := by decide +kernel
theorem dX9_knocksAt_49 : decode cX9_knocksAt 49 = .ok (.iconst 0, 1) := by decide +kernel
theorem dX9_knocksAt_50 : decode cX9_knocksAt 50 = .ok (.iadd, 1) := by decide +kernel
theorem dX9_knocksAt_51 : decode cX9_knocksAt 51 = .ok (.istore_n 3, 1) := by decide +kernel
theorem dX9_knocksAt_52 : decode cX9_knocksAt 52 = .ok (.iinc 4 1, 3) := by decide +kernel
theorem dX9_knocksAt_55 : decode cX9_knocksAt 55 = .ok (.goto (-50), 3) := by decide +kernel
theorem dX9_knocksAt_58 : decode cX9_knocksAt 58 = .ok (.iload_n 3, 1) := by decide +kernel
theorem dX9_knocksAt_59 : decode cX9_knocksAt 59 = .ok (.ireturn, 1) := by decide +kernel
def lX9_knocksAt_5 (F : Nat)  (t : Nat) (a1 : Int32) (a2 : Int32) : Nat → mS → Int32 → Int32 → Option Int32
  | 0, _, _, _ => none
  | n + 1, S0, v3, v4 => ck (inb (10 : Int32) 2308) (if (S0.1 (t + 1) (10 : Int32).toNatClampNeg) ≤ v4 then (some v3) else (bd (f_X9_entry F S0 t v4 (2 : Int32)) fun q2 => if q2 = a2 then (if a1 = (-1 : Int32) then (lX9_knocksAt_5 F  t a1 a2 n S0 (v3 + (1 : Int32)) (v4 + 1)) else (bd (f_X9_entry F S0 t v4 (1 : Int32)) fun q3 => if q3 = a1 then (lX9_knocksAt_5 F  t a1 a2 n S0 (v3 + (1 : Int32)) (v4 + 1)) else (lX9_knocksAt_5 F  t a1 a2 n S0 (v3 + (0 : Int32)) (v4 + 1)))) else (lX9_knocksAt_5 F  t a1 a2 n S0 (v3 + (0 : Int32)) (v4 + 1))))
set_option maxHeartbeats 4000000 in
set_option maxRecDepth 100000 in
theorem gX9_knocksAt_5 {x : mX} {F : Nat} {t : Nat} {a1 : Int32} {a2 : Int32} {S0 : mS}   {R : Int32} (ht : kd0 t = 9)  : ∀ (n : Nat) (v3 : Int32) (v4 : Int32), lX9_knocksAt_5 F  t a1 a2 n S0 v3 v4 = some R → mG x μX9_knocksAt 2 0 0 (mQe S0 (some (.int R))) 0 0 E0 S0 5 [(0, .ref (t)), (1, .int (a1)), (2, .int (a2)), (3, .int (v3)), (4, .int (v4))] [] := by
  intro n
  induction n with
  | zero =>
    intro v3 v4 h
    cases h
  | succ n ih =>
    intro v3 v4 h
    unfold lX9_knocksAt_5 at h
    refine mG.iload 4 dX9_knocksAt_5 rfl ?_
    refine mG.aload_n 0 dX9_knocksAt_7 rfl ?_
    refine mG.get (v := .ref (t + 1)) dX9_knocksAt_8 mfX9_7 ht (lr9_a ht) ?_
    refine mG.bipush (v := 10) dX9_knocksAt_11 (by decide) ?_
    obtain ⟨b1, h⟩ := ckp h
    refine mG.iald dX9_knocksAt_13 (lk9_a ht) (ll9_a ht) (inbp b1) ?_
    refine mG.icmp_ge 58 dX9_knocksAt_14 (by decide) (fun c7 => ?_) (fun c7 => ?_)
    · replace h := itp c7 h
      refine mG.iload_n 3 dX9_knocksAt_58 rfl ?_
      obtain rfl := Option.some.inj h
      exact mG.iret dX9_knocksAt_59 rfl ⟨rfl, rfl, rfl⟩
    · replace h := itn c7 h
      refine mG.iload_n 3 dX9_knocksAt_17 rfl ?_
      refine mG.aload_n 0 dX9_knocksAt_18 rfl ?_
      refine mG.iload 4 dX9_knocksAt_19 rfl ?_
      refine mG.iconst (v := 2) dX9_knocksAt_21 rfl ?_
      obtain ⟨q2, hq2, h⟩ := bdp h
      refine mG.callV0 (as := [.int (v4), .int 2]) (st := [.int (v3)]) (S2 := S0) (r := some (.int (q2))) dX9_knocksAt_22 mvX9_entry wk46_15 rfl ht rfl (by decide) (Nat.le_of_ble_eq_true rfl) (c_X9_entry ht hq2) ?_
      refine mG.iload_n 2 dX9_knocksAt_25 rfl ?_
      refine mG.icmp_ne 49 dX9_knocksAt_26 (by decide) (fun c6 => ?_) (fun c6 => ?_)
      · replace h := itn c6 h
        refine mG.iconst (v := 0) dX9_knocksAt_49 rfl ?_
        refine mG.iadd dX9_knocksAt_50 ?_
        refine mG.istore_n (lv2 := [(3, .int (v3 + (0 : Int32))), (0, .ref (t)), (1, .int (a1)), (2, .int (a2)), (4, .int (v4))]) dX9_knocksAt_51 rfl (by decide) rfl ?_
        refine mG.iinc 4 (u := v4 + 1) (lv2 := [(4, .int (v4 + 1)), (3, .int (v3 + (0 : Int32))), (0, .ref (t)), (1, .int (a1)), (2, .int (a2))]) dX9_knocksAt_52 rfl rfl (by decide) rfl ?_
        refine mG.goto 5 dX9_knocksAt_55 (by decide) ?_
        refine mG.sub (lv2 := [(0, .ref (t)), (1, .int (a1)), (2, .int (a2)), (3, .int (v3 + (0 : Int32))), (4, .int (v4 + 1))]) [2, 3, 4, 1, 0] rfl ?_
        exact ih  (v3 + (0 : Int32)) (v4 + 1)  h
      · replace h := itp c6 h
        refine mG.iload_n 1 dX9_knocksAt_29 rfl ?_
        refine mG.iconst (v := (-1)) dX9_knocksAt_30 rfl ?_
        refine mG.icmp_eq 45 dX9_knocksAt_31 (by decide) (fun c5 => ?_) (fun c5 => ?_)
        · replace h := itp c5 h
          refine mG.iconst (v := 1) dX9_knocksAt_45 rfl ?_
          refine mG.goto 50 dX9_knocksAt_46 (by decide) ?_
          refine mG.iadd dX9_knocksAt_50 ?_
          refine mG.istore_n (lv2 := [(3, .int (v3 + (1 : Int32))), (0, .ref (t)), (1, .int (a1)), (2, .int (a2)), (4, .int (v4))]) dX9_knocksAt_51 rfl (by decide) rfl ?_
          refine mG.iinc 4 (u := v4 + 1) (lv2 := [(4, .int (v4 + 1)), (3, .int (v3 + (1 : Int32))), (0, .ref (t)), (1, .int (a1)), (2, .int (a2))]) dX9_knocksAt_52 rfl rfl (by decide) rfl ?_
          refine mG.goto 5 dX9_knocksAt_55 (by decide) ?_
          refine mG.sub (lv2 := [(0, .ref (t)), (1, .int (a1)), (2, .int (a2)), (3, .int (v3 + (1 : Int32))), (4, .int (v4 + 1))]) [2, 3, 4, 1, 0] rfl ?_
          exact ih  (v3 + (1 : Int32)) (v4 + 1)  h
        · replace h := itn c5 h
          refine mG.aload_n 0 dX9_knocksAt_34 rfl ?_
          refine mG.iload 4 dX9_knocksAt_35 rfl ?_
          refine mG.iconst (v := 1) dX9_knocksAt_37 rfl ?_
          obtain ⟨q3, hq3, h⟩ := bdp h
          refine mG.callV0 (as := [.int (v4), .int 1]) (st := [.int (v3)]) (S2 := S0) (r := some (.int (q3))) dX9_knocksAt_38 mvX9_entry wk46_15 rfl ht rfl (by decide) (Nat.le_of_ble_eq_true rfl) (c_X9_entry ht hq3) ?_
          refine mG.iload_n 1 dX9_knocksAt_41 rfl ?_
          refine mG.icmp_ne 49 dX9_knocksAt_42 (by decide) (fun c4 => ?_) (fun c4 => ?_)
          · replace h := itn c4 h
            refine mG.iconst (v := 0) dX9_knocksAt_49 rfl ?_
            refine mG.iadd dX9_knocksAt_50 ?_
            refine mG.istore_n (lv2 := [(3, .int (v3 + (0 : Int32))), (0, .ref (t)), (1, .int (a1)), (2, .int (a2)), (4, .int (v4))]) dX9_knocksAt_51 rfl (by decide) rfl ?_
            refine mG.iinc 4 (u := v4 + 1) (lv2 := [(4, .int (v4 + 1)), (3, .int (v3 + (0 : Int32))), (0, .ref (t)), (1, .int (a1)), (2, .int (a2))]) dX9_knocksAt_52 rfl rfl (by decide) rfl ?_
            refine mG.goto 5 dX9_knocksAt_55 (by decide) ?_
            refine mG.sub (lv2 := [(0, .ref (t)), (1, .int (a1)), (2, .int (a2)), (3, .int (v3 + (0 : Int32))), (4, .int (v4 + 1))]) [2, 3, 4, 1, 0] rfl ?_
            exact ih  (v3 + (0 : Int32)) (v4 + 1)  h
          · replace h := itp c4 h
            refine mG.iconst (v := 1) dX9_knocksAt_45 rfl ?_
            refine mG.goto 50 dX9_knocksAt_46 (by decide) ?_
            refine mG.iadd dX9_knocksAt_50 ?_
            refine mG.istore_n (lv2 := [(3, .int (v3 + (1 : Int32))), (0, .ref (t)), (1, .int (a1)), (2, .int (a2)), (4, .int (v4))]) dX9_knocksAt_51 rfl (by decide) rfl ?_
            refine mG.iinc 4 (u := v4 + 1) (lv2 := [(4, .int (v4 + 1)), (3, .int (v3 + (1 : Int32))), (0, .ref (t)), (1, .int (a1)), (2, .int (a2))]) dX9_knocksAt_52 rfl rfl (by decide) rfl ?_
            refine mG.goto 5 dX9_knocksAt_55 (by decide) ?_
            refine mG.sub (lv2 := [(0, .ref (t)), (1, .int (a1)), (2, .int (a2)), (3, .int (v3 + (1 : Int32))), (4, .int (v4 + 1))]) [2, 3, 4, 1, 0] rfl ?_
            exact ih  (v3 + (1 : Int32)) (v4 + 1)  h
def f_X9_knocksAt (F : Nat) (S0 : mS) (t : Nat) (a1 : Int32) (a2 : Int32) : Option Int32 := lX9_knocksAt_5 F  t a1 a2 F S0 (0 : Int32) (0 : Int32)
set_option maxHeartbeats 4000000 in
set_option maxRecDepth 100000 in
theorem c_X9_knocksAt {F : Nat} {S0 : mS} {t : Nat} {a1 : Int32} {a2 : Int32} {R : Int32} (ht : kd0 t = 9) (h : f_X9_knocksAt F S0 t a1 a2 = some R) : mCt μX9_knocksAt 2 0 0 E0 S0 [.ref (t), .int (a1), .int (a2)] (mQe S0 (some (.int R))) := by
  unfold f_X9_knocksAt at h
  refine mCt.of (by decide) (Nat.le_of_ble_eq_true rfl) ?_
  intro x
  refine mG.iconst (v := 0) dX9_knocksAt_0 rfl ?_
  refine mG.istore_n (lv2 := [(3, .int 0), (0, .ref (t)), (1, .int (a1)), (2, .int (a2))]) dX9_knocksAt_1 rfl (by decide) rfl ?_
  refine mG.iconst (v := 0) dX9_knocksAt_2 rfl ?_
  refine mG.istore (lv2 := [(4, .int 0), (3, .int 0), (0, .ref (t)), (1, .int (a1)), (2, .int (a2))]) dX9_knocksAt_3 (by decide) rfl ?_
  refine mG.sub (lv2 := [(0, .ref (t)), (1, .int (a1)), (2, .int (a2)), (3, .int 0), (4, .int 0)]) [2, 3, 4, 1, 0] rfl ?_
  exact gX9_knocksAt_5 ht  F  (0 : Int32) (0 : Int32)  h
theorem dX9_knocks_0 : decode cX9_knocks 0 = .ok (.iload_n 1, 1) := by decide +kernel
theorem dX9_knocks_1 : decode cX9_knocks 1 = .ok (.iconst (-1), 1) := by decide +kernel
theorem dX9_knocks_2 : decode cX9_knocks 2 = .ok (.if_icmp .eq 11, 3) := by decide +kernel
theorem dX9_knocks_5 : decode cX9_knocks 5 = .ok (.aload_n 0, 1) := by decide +kernel
theorem dX9_knocks_6 : decode cX9_knocks 6 = .ok (.iload_n 1, 1) := by decide +kernel
theorem dX9_knocks_7 : decode cX9_knocks 7 = .ok (.invokevirtual 69, 3) := by decide +kernel
theorem dX9_knocks_10 : decode cX9_knocks 10 = .ok (.ifCond .eq 20, 3) := by decide +kernel
theorem dX9_knocks_13 : decode cX9_knocks 13 = .ok (.aload_n 0, 1) := by decide +kernel
theorem dX9_knocks_14 : decode cX9_knocks 14 = .ok (.iload_n 1, 1) := by decide +kernel
theorem dX9_knocks_15 : decode cX9_knocks 15 = .ok (.iload_n 2, 1) := by decide +kernel
theorem dX9_knocks_16 : decode cX9_knocks 16 = .ok (.ifCond .eq 7, 3) := by decide +kernel
theorem dX9_knocks_19 : decode cX9_knocks 19 = .ok (.iconst 1, 1) := by decide +kernel
theorem dX9_knocks_20 : decode cX9_knocks 20 = .ok (.goto 4, 3) := by decide +kernel
theorem dX9_knocks_23 : decode cX9_knocks 23 = .ok (.iconst 0, 1) := by decide +kernel
theorem dX9_knocks_24 : decode cX9_knocks 24 = .ok (.invokevirtual 393, 3) := by decide +kernel
theorem dX9_knocks_27 : decode cX9_knocks 27 = .ok (.goto 5, 3) := by decide +kernel
theorem dX9_knocks_30 : decode cX9_knocks 30 = .ok (.bipush (-2), 2) := by decide +kernel
theorem dX9_knocks_32 : decode cX9_knocks 32 = .ok (.ireturn, 1) := by decide +kernel
def f_X9_knocks (F : Nat) (S0 : mS) (t : Nat) (a1 : Int32) (a2 : Int32) : Option Int32 := if a1 = (-1 : Int32) then (if a2 = 0 then (bd (f_X9_knocksAt F S0 t a1 (0 : Int32)) fun q1 => some q1) else (bd (f_X9_knocksAt F S0 t a1 (1 : Int32)) fun q2 => some q2)) else (bd (f_X9_isHouse F S0 t a1) fun q4 => if q4 = true then (if a2 = 0 then (bd (f_X9_knocksAt F S0 t a1 (0 : Int32)) fun q5 => some q5) else (bd (f_X9_knocksAt F S0 t a1 (1 : Int32)) fun q6 => some q6)) else (some (-2 : Int32)))
set_option maxHeartbeats 4000000 in
set_option maxRecDepth 100000 in
theorem c_X9_knocks {F : Nat} {S0 : mS} {t : Nat} {a1 : Int32} {a2 : Int32} {R : Int32} (ht : kd0 t = 9) (h : f_X9_knocks F S0 t a1 a2 = some R) : mCt μX9_knocks 3 0 0 E0 S0 [.ref (t), .int (a1), .int (a2)] (mQe S0 (some (.int R))) := by
  unfold f_X9_knocks at h
  refine mCt.of (by decide) (Nat.le_of_ble_eq_true rfl) ?_
  intro x
  refine mG.iload_n 1 dX9_knocks_0 rfl ?_
  refine mG.iconst (v := (-1)) dX9_knocks_1 rfl ?_
  refine mG.icmp_eq 13 dX9_knocks_2 (by decide) (fun c9 => ?_) (fun c9 => ?_)
  · replace h := itp c9 h
    refine mG.aload_n 0 dX9_knocks_13 rfl ?_
    refine mG.iload_n 1 dX9_knocks_14 rfl ?_
    refine mG.iload_n 2 dX9_knocks_15 rfl ?_
    refine mG.if_eq 23 dX9_knocks_16 (by decide) (fun c3 => ?_) (fun c3 => ?_)
    · replace h := itp c3 h
      refine mG.iconst (v := 0) dX9_knocks_23 rfl ?_
      obtain ⟨q1, hq1, h⟩ := bdp h
      refine mG.callV0 (as := [.int (a1), .int 0]) (st := []) (S2 := S0) (r := some (.int (q1))) dX9_knocks_24 mvX9_knocksAt wk63_22 rfl ht rfl (by decide) (Nat.le_of_ble_eq_true rfl) (c_X9_knocksAt ht hq1) ?_
      refine mG.goto 32 dX9_knocks_27 (by decide) ?_
      obtain rfl := Option.some.inj h
      exact mG.iret dX9_knocks_32 rfl ⟨rfl, rfl, rfl⟩
    · replace h := itn c3 h
      refine mG.iconst (v := 1) dX9_knocks_19 rfl ?_
      refine mG.goto 24 dX9_knocks_20 (by decide) ?_
      obtain ⟨q2, hq2, h⟩ := bdp h
      refine mG.callV0 (as := [.int (a1), .int 1]) (st := []) (S2 := S0) (r := some (.int (q2))) dX9_knocks_24 mvX9_knocksAt wk63_22 rfl ht rfl (by decide) (Nat.le_of_ble_eq_true rfl) (c_X9_knocksAt ht hq2) ?_
      refine mG.goto 32 dX9_knocks_27 (by decide) ?_
      obtain rfl := Option.some.inj h
      exact mG.iret dX9_knocks_32 rfl ⟨rfl, rfl, rfl⟩
  · replace h := itn c9 h
    refine mG.aload_n 0 dX9_knocks_5 rfl ?_
    refine mG.iload_n 1 dX9_knocks_6 rfl ?_
    obtain ⟨q4, hq4, h⟩ := bdp h
    refine mG.callV0 (as := [.int (a1)]) (st := []) (S2 := S0) (r := some (.int (bI (q4)))) dX9_knocks_7 mvX9_isHouse wk33_0 rfl ht rfl (by decide) (Nat.le_of_ble_eq_true rfl) (c_X9_isHouse ht hq4) ?_
    refine mG.ifz_eq (b := q4) 30 dX9_knocks_10 (by decide) (fun c8 => ?_) (fun c8 => ?_)
    · replace h := itn c8 h
      refine mG.bipush (v := (-2)) dX9_knocks_30 (by decide) ?_
      obtain rfl := Option.some.inj h
      exact mG.iret dX9_knocks_32 rfl ⟨rfl, rfl, rfl⟩
    · replace h := itp c8 h
      refine mG.aload_n 0 dX9_knocks_13 rfl ?_
      refine mG.iload_n 1 dX9_knocks_14 rfl ?_
      refine mG.iload_n 2 dX9_knocks_15 rfl ?_
      refine mG.if_eq 23 dX9_knocks_16 (by decide) (fun c7 => ?_) (fun c7 => ?_)
      · replace h := itp c7 h
        refine mG.iconst (v := 0) dX9_knocks_23 rfl ?_
        obtain ⟨q5, hq5, h⟩ := bdp h
        refine mG.callV0 (as := [.int (a1), .int 0]) (st := []) (S2 := S0) (r := some (.int (q5))) dX9_knocks_24 mvX9_knocksAt wk63_22 rfl ht rfl (by decide) (Nat.le_of_ble_eq_true rfl) (c_X9_knocksAt ht hq5) ?_
        refine mG.goto 32 dX9_knocks_27 (by decide) ?_
        obtain rfl := Option.some.inj h
        exact mG.iret dX9_knocks_32 rfl ⟨rfl, rfl, rfl⟩
      · replace h := itn c7 h
        refine mG.iconst (v := 1) dX9_knocks_19 rfl ?_
        refine mG.goto 24 dX9_knocks_20 (by decide) ?_
        obtain ⟨q6, hq6, h⟩ := bdp h
        refine mG.callV0 (as := [.int (a1), .int 1]) (st := []) (S2 := S0) (r := some (.int (q6))) dX9_knocks_24 mvX9_knocksAt wk63_22 rfl ht rfl (by decide) (Nat.le_of_ble_eq_true rfl) (c_X9_knocksAt ht hq6) ?_
        refine mG.goto 32 dX9_knocks_27 (by decide) ?_
        obtain rfl := Option.some.inj h
        exact mG.iret dX9_knocks_32 rfl ⟨rfl, rfl, rfl⟩
theorem dX9_offended_0 : decode cX9_offended 0 = .ok (.iconst (-1), 1) := by decide +kernel
theorem dX9_offended_1 : decode cX9_offended 1 = .ok (.istore_n 1, 1) := by decide +kernel
theorem dX9_offended_2 : decode cX9_offended 2 = .ok (.iconst 0, 1) := by decide +kernel
theorem dX9_offended_3 : decode cX9_offended 3 = .ok (.istore_n 2, 1) := by decide +kernel
theorem dX9_offended_4 : decode cX9_offended 4 = .ok (.iconst 0, 1) := by decide +kernel
theorem dX9_offended_5 : decode cX9_offended 5 = .ok (.istore_n 3, 1) := by decide +kernel
theorem dX9_offended_6 : decode cX9_offended 6 = .ok (.iload_n 3, 1) := by decide +kernel
theorem dX9_offended_7 : decode cX9_offended 7 = .ok (.aload_n 0, 1) := by decide +kernel
theorem dX9_offended_8 : decode cX9_offended 8 = .ok (.getfield 7, 3) := by decide +kernel
theorem dX9_offended_11 : decode cX9_offended 11 = .ok (.iconst 0, 1) := by decide +kernel
theorem dX9_offended_12 : decode cX9_offended 12 = .ok (.iaload, 1) := by decide +kernel
theorem dX9_offended_13 : decode cX9_offended 13 = .ok (.if_icmp .ge 31, 3) := by decide +kernel
theorem dX9_offended_16 : decode cX9_offended 16 = .ok (.aload_n 0, 1) := by decide +kernel
theorem dX9_offended_17 : decode cX9_offended 17 = .ok (.iload_n 3, 1) := by decide +kernel
theorem dX9_offended_18 : decode cX9_offended 18 = .ok (.iconst 1, 1) := by decide +kernel
theorem dX9_offended_19 : decode cX9_offended 19 = .ok (.invokevirtual 393, 3) := by decide +kernel
theorem dX9_offended_22 : decode cX9_offended 22 = .ok (.iload_n 2, 1) := by decide +kernel
theorem dX9_offended_23 : decode cX9_offended 23 = .ok (.if_icmp .gt 6, 3) := by decide +kernel
theorem dX9_offended_26 : decode cX9_offended 26 = .ok (.goto 12, 3) := by decide +kernel
theorem dX9_offended_29 : decode cX9_offended 29 = .ok (.aload_n 0, 1) := by decide +kernel
theorem dX9_offended_30 : decode cX9_offended 30 = .ok (.iload_n 3, 1) := by decide +kernel
theorem dX9_offended_31 : decode cX9_offended 31 = .ok (.iconst 1, 1) := by decide +kernel
theorem dX9_offended_32 : decode cX9_offended 32 = .ok (.invokevirtual 393, 3) := by decide +kernel
theorem dX9_offended_35 : decode cX9_offended 35 = .ok (.istore_n 2, 1) := by decide +kernel
theorem dX9_offended_36 : decode cX9_offended 36 = .ok (.iload_n 3, 1) := by decide +kernel
theorem dX9_offended_37 : decode cX9_offended 37 = .ok (.istore_n 1, 1) := by decide +kernel
theorem dX9_offended_38 : decode cX9_offended 38 = .ok (.iinc 3 1, 3) := by decide +kernel
theorem dX9_offended_41 : decode cX9_offended 41 = .ok (.goto (-35), 3) := by decide +kernel
theorem dX9_offended_44 : decode cX9_offended 44 = .ok (.iload_n 1, 1) := by decide +kernel
theorem dX9_offended_45 : decode cX9_offended 45 = .ok (.ireturn, 1) := by decide +kernel
def lX9_offended_6 (F : Nat)  (t : Nat) : Nat → mS → Int32 → Int32 → Int32 → Option Int32
  | 0, _, _, _, _ => none
  | n + 1, S0, v1, v2, v3 => ck (inb (0 : Int32) 2308) (if (S0.1 (t + 1) (0 : Int32).toNatClampNeg) ≤ v3 then (some v1) else (bd (f_X9_knocksAt F S0 t v3 (1 : Int32)) fun q2 => if v2 < q2 then (bd (f_X9_knocksAt F S0 t v3 (1 : Int32)) fun q3 => lX9_offended_6 F  t n S0 v3 q3 (v3 + 1)) else (lX9_offended_6 F  t n S0 v1 v2 (v3 + 1))))
set_option maxHeartbeats 4000000 in
set_option maxRecDepth 100000 in
theorem gX9_offended_6 {x : mX} {F : Nat} {t : Nat} {S0 : mS}   {R : Int32} (ht : kd0 t = 9)  : ∀ (n : Nat) (v1 : Int32) (v2 : Int32) (v3 : Int32), lX9_offended_6 F  t n S0 v1 v2 v3 = some R → mG x μX9_offended 3 0 0 (mQe S0 (some (.int R))) 0 0 E0 S0 6 [(0, .ref (t)), (1, .int (v1)), (2, .int (v2)), (3, .int (v3))] [] := by
  intro n
  induction n with
  | zero =>
    intro v1 v2 v3 h
    cases h
  | succ n ih =>
    intro v1 v2 v3 h
    unfold lX9_offended_6 at h
    refine mG.iload_n 3 dX9_offended_6 rfl ?_
    refine mG.aload_n 0 dX9_offended_7 rfl ?_
    refine mG.get (v := .ref (t + 1)) dX9_offended_8 mfX9_7 ht (lr9_a ht) ?_
    refine mG.iconst (v := 0) dX9_offended_11 rfl ?_
    obtain ⟨b1, h⟩ := ckp h
    refine mG.iald dX9_offended_12 (lk9_a ht) (ll9_a ht) (inbp b1) ?_
    refine mG.icmp_ge 44 dX9_offended_13 (by decide) (fun c5 => ?_) (fun c5 => ?_)
    · replace h := itp c5 h
      refine mG.iload_n 1 dX9_offended_44 rfl ?_
      obtain rfl := Option.some.inj h
      exact mG.iret dX9_offended_45 rfl ⟨rfl, rfl, rfl⟩
    · replace h := itn c5 h
      refine mG.aload_n 0 dX9_offended_16 rfl ?_
      refine mG.iload_n 3 dX9_offended_17 rfl ?_
      refine mG.iconst (v := 1) dX9_offended_18 rfl ?_
      obtain ⟨q2, hq2, h⟩ := bdp h
      refine mG.callV0 (as := [.int (v3), .int 1]) (st := []) (S2 := S0) (r := some (.int (q2))) dX9_offended_19 mvX9_knocksAt wk63_22 rfl ht rfl (by decide) (Nat.le_of_ble_eq_true rfl) (c_X9_knocksAt ht hq2) ?_
      refine mG.iload_n 2 dX9_offended_22 rfl ?_
      refine mG.icmp_gt 29 dX9_offended_23 (by decide) (fun c4 => ?_) (fun c4 => ?_)
      · replace h := itp c4 h
        refine mG.aload_n 0 dX9_offended_29 rfl ?_
        refine mG.iload_n 3 dX9_offended_30 rfl ?_
        refine mG.iconst (v := 1) dX9_offended_31 rfl ?_
        obtain ⟨q3, hq3, h⟩ := bdp h
        refine mG.callV0 (as := [.int (v3), .int 1]) (st := []) (S2 := S0) (r := some (.int (q3))) dX9_offended_32 mvX9_knocksAt wk63_22 rfl ht rfl (by decide) (Nat.le_of_ble_eq_true rfl) (c_X9_knocksAt ht hq3) ?_
        refine mG.istore_n (lv2 := [(2, .int (q3)), (0, .ref (t)), (1, .int (v1)), (3, .int (v3))]) dX9_offended_35 rfl (by decide) rfl ?_
        refine mG.iload_n 3 dX9_offended_36 rfl ?_
        refine mG.istore_n (lv2 := [(1, .int (v3)), (2, .int (q3)), (0, .ref (t)), (3, .int (v3))]) dX9_offended_37 rfl (by decide) rfl ?_
        refine mG.iinc 3 (u := v3 + 1) (lv2 := [(3, .int (v3 + 1)), (1, .int (v3)), (2, .int (q3)), (0, .ref (t))]) dX9_offended_38 rfl rfl (by decide) rfl ?_
        refine mG.goto 6 dX9_offended_41 (by decide) ?_
        refine mG.sub (lv2 := [(0, .ref (t)), (1, .int (v3)), (2, .int (q3)), (3, .int (v3 + 1))]) [3, 1, 2, 0] rfl ?_
        exact ih  v3 q3 (v3 + 1)  h
      · replace h := itn c4 h
        refine mG.goto 38 dX9_offended_26 (by decide) ?_
        refine mG.iinc 3 (u := v3 + 1) (lv2 := [(3, .int (v3 + 1)), (0, .ref (t)), (1, .int (v1)), (2, .int (v2))]) dX9_offended_38 rfl rfl (by decide) rfl ?_
        refine mG.goto 6 dX9_offended_41 (by decide) ?_
        refine mG.sub (lv2 := [(0, .ref (t)), (1, .int (v1)), (2, .int (v2)), (3, .int (v3 + 1))]) [1, 2, 3, 0] rfl ?_
        exact ih  v1 v2 (v3 + 1)  h
def f_X9_offended (F : Nat) (S0 : mS) (t : Nat) : Option Int32 := lX9_offended_6 F  t F S0 (-1 : Int32) (0 : Int32) (0 : Int32)
set_option maxHeartbeats 4000000 in
set_option maxRecDepth 100000 in
theorem c_X9_offended {F : Nat} {S0 : mS} {t : Nat} {R : Int32} (ht : kd0 t = 9) (h : f_X9_offended F S0 t = some R) : mCt μX9_offended 3 0 0 E0 S0 [.ref (t)] (mQe S0 (some (.int R))) := by
  unfold f_X9_offended at h
  refine mCt.of (by decide) (Nat.le_of_ble_eq_true rfl) ?_
  intro x
  refine mG.iconst (v := (-1)) dX9_offended_0 rfl ?_
  refine mG.istore_n (lv2 := [(1, .int (-1)), (0, .ref (t))]) dX9_offended_1 rfl (by decide) rfl ?_
  refine mG.iconst (v := 0) dX9_offended_2 rfl ?_
  refine mG.istore_n (lv2 := [(2, .int 0), (1, .int (-1)), (0, .ref (t))]) dX9_offended_3 rfl (by decide) rfl ?_
  refine mG.iconst (v := 0) dX9_offended_4 rfl ?_
  refine mG.istore_n (lv2 := [(3, .int 0), (2, .int 0), (1, .int (-1)), (0, .ref (t))]) dX9_offended_5 rfl (by decide) rfl ?_
  refine mG.sub (lv2 := [(0, .ref (t)), (1, .int (-1)), (2, .int 0), (3, .int 0)]) [3, 2, 1, 0] rfl ?_
  exact gX9_offended_6 ht  F  (-1 : Int32) (0 : Int32) (0 : Int32)  h
theorem dX9_setAside_0 : decode cX9_setAside 0 = .ok (.bipush 8, 2) := by decide +kernel
theorem dX9_setAside_2 : decode cX9_setAside 2 = .ok (.istore_n 1, 1) := by decide +kernel
theorem dX9_setAside_3 : decode cX9_setAside 3 = .ok (.iload_n 1, 1) := by decide +kernel
theorem dX9_setAside_4 : decode cX9_setAside 4 = .ok (.bipush 68, 2) := by decide +kernel
theorem dX9_setAside_6 : decode cX9_setAside 6 = .ok (.if_icmp .ge 21, 3) := by decide +kernel
theorem dX9_setAside_9 : decode cX9_setAside 9 = .ok (.aload_n 0, 1) := by decide +kernel
theorem dX9_setAside_10 : decode cX9_setAside 10 = .ok (.getfield 43, 3) := by decide +kernel
theorem dX9_setAside_13 : decode cX9_setAside 13 = .ok (.iload_n 1, 1) := by decide +kernel
theorem dX9_setAside_14 : decode cX9_setAside 14 = .ok (.aload_n 0, 1) := by decide +kernel
theorem dX9_setAside_15 : decode cX9_setAside 15 = .ok (.getfield 7, 3) := by decide +kernel
theorem dX9_setAside_18 : decode cX9_setAside 18 = .ok (.iload_n 1, 1) := by decide +kernel
theorem dX9_setAside_19 : decode cX9_setAside 19 = .ok (.iaload, 1) := by decide +kernel
theorem dX9_setAside_20 : decode cX9_setAside 20 = .ok (.iastore, 1) := by decide +kernel
theorem dX9_setAside_21 : decode cX9_setAside 21 = .ok (.iinc 1 1, 3) := by decide +kernel
theorem dX9_setAside_24 : decode cX9_setAside 24 = .ok (.goto (-21), 3) := by decide +kernel
theorem dX9_setAside_27 : decode cX9_setAside 27 = .ok (.return_, 1) := by decide +kernel
def lX9_setAside_3 (F : Nat)  (t : Nat) : Nat → mS → Int32 → Option mS
  | 0, _, _ => none
  | n + 1, S, v1 => if (68 : Int32) ≤ v1 then (some S) else (ck (inb v1 2308) (ck (inb v1 68) (stp (sI S (t + 9) v1.toNatClampNeg (S.1 (t + 1) v1.toNatClampNeg)) fun S3 => lX9_setAside_3 F  t n S3 (v1 + 1))))
set_option maxHeartbeats 4000000 in
set_option maxRecDepth 100000 in
theorem gX9_setAside_3 {x : mX} {F : Nat} {t : Nat}   {R : mS} (ht : kd0 t = 9)  : ∀ (n : Nat) (S : mS) (v1 : Int32), lX9_setAside_3 F  t n S v1 = some R → mG x μX9_setAside 1 0 0 (mQe R none) 0 0 E0 S 3 [(0, .ref (t)), (1, .int (v1))] [] := by
  intro n
  induction n with
  | zero =>
    intro S v1 h
    cases h
  | succ n ih =>
    intro S v1 h
    unfold lX9_setAside_3 at h
    refine mG.iload_n 1 dX9_setAside_3 rfl ?_
    refine mG.bipush (v := 68) dX9_setAside_4 (by decide) ?_
    refine mG.icmp_ge 27 dX9_setAside_6 (by decide) (fun c4 => ?_) (fun c4 => ?_)
    · replace h := itp c4 h
      obtain rfl := Option.some.inj h
      exact mG.vret dX9_setAside_27 rfl ⟨rfl, rfl, rfl⟩
    · replace h := itn c4 h
      refine mG.aload_n 0 dX9_setAside_9 rfl ?_
      refine mG.get (v := .ref (t + 9)) dX9_setAside_10 mfX9_43 ht (lr9_aside ht) ?_
      refine mG.iload_n 1 dX9_setAside_13 rfl ?_
      refine mG.aload_n 0 dX9_setAside_14 rfl ?_
      refine mG.get (v := .ref (t + 1)) dX9_setAside_15 mfX9_7 ht (lr9_a ht) ?_
      refine mG.iload_n 1 dX9_setAside_18 rfl ?_
      obtain ⟨b1, h⟩ := ckp h
      refine mG.iald dX9_setAside_19 (lk9_a ht) (ll9_a ht) (inbp b1) ?_
      obtain ⟨b2, h⟩ := ckp h
      obtain ⟨S3, hS3, h⟩ := stpp h
      refine mG.iast dX9_setAside_20 (lk9_aside ht) (ll9_aside ht) (inbp b2) hS3 ?_
      refine mG.iinc 1 (u := v1 + 1) (lv2 := [(1, .int (v1 + 1)), (0, .ref (t))]) dX9_setAside_21 rfl rfl (by decide) rfl ?_
      refine mG.goto 3 dX9_setAside_24 (by decide) ?_
      refine mG.sub (lv2 := [(0, .ref (t)), (1, .int (v1 + 1))]) [1, 0] rfl ?_
      exact ih S3 (v1 + 1)  h
def f_X9_setAside (F : Nat) (S : mS) (t : Nat) : Option mS := lX9_setAside_3 F  t F S (8 : Int32)
set_option maxHeartbeats 4000000 in
set_option maxRecDepth 100000 in
theorem c_X9_setAside {F : Nat} {S : mS} {t : Nat} {R : mS} (ht : kd0 t = 9) (h : f_X9_setAside F S t = some R) : mCt μX9_setAside 1 0 0 E0 S [.ref (t)] (mQe R none) := by
  unfold f_X9_setAside at h
  refine mCt.of (by decide) (Nat.le_of_ble_eq_true rfl) ?_
  intro x
  refine mG.bipush (v := 8) dX9_setAside_0 (by decide) ?_
  refine mG.istore_n (lv2 := [(1, .int 8), (0, .ref (t))]) dX9_setAside_2 rfl (by decide) rfl ?_
  refine mG.sub (lv2 := [(0, .ref (t)), (1, .int 8)]) [1, 0] rfl ?_
  exact gX9_setAside_3 ht  F S (8 : Int32)  h
theorem dX9_putBack_0 : decode cX9_putBack 0 = .ok (.bipush 8, 2) := by decide +kernel
theorem dX9_putBack_2 : decode cX9_putBack 2 = .ok (.istore_n 1, 1) := by decide +kernel
theorem dX9_putBack_3 : decode cX9_putBack 3 = .ok (.iload_n 1, 1) := by decide +kernel
theorem dX9_putBack_4 : decode cX9_putBack 4 = .ok (.bipush 68, 2) := by decide +kernel
theorem dX9_putBack_6 : decode cX9_putBack 6 = .ok (.if_icmp .ge 21, 3) := by decide +kernel
theorem dX9_putBack_9 : decode cX9_putBack 9 = .ok (.aload_n 0, 1) := by decide +kernel
theorem dX9_putBack_10 : decode cX9_putBack 10 = .ok (.getfield 7, 3) := by decide +kernel
theorem dX9_putBack_13 : decode cX9_putBack 13 = .ok (.iload_n 1, 1) := by decide +kernel
theorem dX9_putBack_14 : decode cX9_putBack 14 = .ok (.aload_n 0, 1) := by decide +kernel
theorem dX9_putBack_15 : decode cX9_putBack 15 = .ok (.getfield 43, 3) := by decide +kernel
theorem dX9_putBack_18 : decode cX9_putBack 18 = .ok (.iload_n 1, 1) := by decide +kernel
theorem dX9_putBack_19 : decode cX9_putBack 19 = .ok (.iaload, 1) := by decide +kernel
theorem dX9_putBack_20 : decode cX9_putBack 20 = .ok (.iastore, 1) := by decide +kernel
theorem dX9_putBack_21 : decode cX9_putBack 21 = .ok (.iinc 1 1, 3) := by decide +kernel
theorem dX9_putBack_24 : decode cX9_putBack 24 = .ok (.goto (-21), 3) := by decide +kernel
theorem dX9_putBack_27 : decode cX9_putBack 27 = .ok (.return_, 1) := by decide +kernel
def lX9_putBack_3 (F : Nat)  (t : Nat) : Nat → mS → Int32 → Option mS
  | 0, _, _ => none
  | n + 1, S, v1 => if (68 : Int32) ≤ v1 then (some S) else (ck (inb v1 68) (ck (inb v1 2308) (stp (sI S (t + 1) v1.toNatClampNeg (S.1 (t + 9) v1.toNatClampNeg)) fun S3 => lX9_putBack_3 F  t n S3 (v1 + 1))))
set_option maxHeartbeats 4000000 in
set_option maxRecDepth 100000 in
theorem gX9_putBack_3 {x : mX} {F : Nat} {t : Nat}   {R : mS} (ht : kd0 t = 9)  : ∀ (n : Nat) (S : mS) (v1 : Int32), lX9_putBack_3 F  t n S v1 = some R → mG x μX9_putBack 1 0 0 (mQe R none) 0 0 E0 S 3 [(0, .ref (t)), (1, .int (v1))] [] := by
  intro n
  induction n with
  | zero =>
    intro S v1 h
    cases h
  | succ n ih =>
    intro S v1 h
    unfold lX9_putBack_3 at h
    refine mG.iload_n 1 dX9_putBack_3 rfl ?_
    refine mG.bipush (v := 68) dX9_putBack_4 (by decide) ?_
    refine mG.icmp_ge 27 dX9_putBack_6 (by decide) (fun c4 => ?_) (fun c4 => ?_)
    · replace h := itp c4 h
      obtain rfl := Option.some.inj h
      exact mG.vret dX9_putBack_27 rfl ⟨rfl, rfl, rfl⟩
    · replace h := itn c4 h
      refine mG.aload_n 0 dX9_putBack_9 rfl ?_
      refine mG.get (v := .ref (t + 1)) dX9_putBack_10 mfX9_7 ht (lr9_a ht) ?_
      refine mG.iload_n 1 dX9_putBack_13 rfl ?_
      refine mG.aload_n 0 dX9_putBack_14 rfl ?_
      refine mG.get (v := .ref (t + 9)) dX9_putBack_15 mfX9_43 ht (lr9_aside ht) ?_
      refine mG.iload_n 1 dX9_putBack_18 rfl ?_
      obtain ⟨b1, h⟩ := ckp h
      refine mG.iald dX9_putBack_19 (lk9_aside ht) (ll9_aside ht) (inbp b1) ?_
      obtain ⟨b2, h⟩ := ckp h
      obtain ⟨S3, hS3, h⟩ := stpp h
      refine mG.iast dX9_putBack_20 (lk9_a ht) (ll9_a ht) (inbp b2) hS3 ?_
      refine mG.iinc 1 (u := v1 + 1) (lv2 := [(1, .int (v1 + 1)), (0, .ref (t))]) dX9_putBack_21 rfl rfl (by decide) rfl ?_
      refine mG.goto 3 dX9_putBack_24 (by decide) ?_
      refine mG.sub (lv2 := [(0, .ref (t)), (1, .int (v1 + 1))]) [1, 0] rfl ?_
      exact ih S3 (v1 + 1)  h
def f_X9_putBack (F : Nat) (S : mS) (t : Nat) : Option mS := lX9_putBack_3 F  t F S (8 : Int32)
set_option maxHeartbeats 4000000 in
set_option maxRecDepth 100000 in
theorem c_X9_putBack {F : Nat} {S : mS} {t : Nat} {R : mS} (ht : kd0 t = 9) (h : f_X9_putBack F S t = some R) : mCt μX9_putBack 1 0 0 E0 S [.ref (t)] (mQe R none) := by
  unfold f_X9_putBack at h
  refine mCt.of (by decide) (Nat.le_of_ble_eq_true rfl) ?_
  intro x
  refine mG.bipush (v := 8) dX9_putBack_0 (by decide) ?_
  refine mG.istore_n (lv2 := [(1, .int 8), (0, .ref (t))]) dX9_putBack_2 rfl (by decide) rfl ?_
  refine mG.sub (lv2 := [(0, .ref (t)), (1, .int 8)]) [1, 0] rfl ?_
  exact gX9_putBack_3 ht  F S (8 : Int32)  h
theorem dX9_goOn_0 : decode cX9_goOn 0 = .ok (.iconst 0, 1) := by decide +kernel
theorem dX9_goOn_1 : decode cX9_goOn 1 = .ok (.istore_n 2, 1) := by decide +kernel
theorem dX9_goOn_2 : decode cX9_goOn 2 = .ok (.iload_n 2, 1) := by decide +kernel
theorem dX9_goOn_3 : decode cX9_goOn 3 = .ok (.iload_n 1, 1) := by decide +kernel
theorem dX9_goOn_4 : decode cX9_goOn 4 = .ok (.if_icmp .ge 26, 3) := by decide +kernel
theorem dX9_goOn_7 : decode cX9_goOn 7 = .ok (.aload_n 0, 1) := by decide +kernel
theorem dX9_goOn_8 : decode cX9_goOn 8 = .ok (.getfield 7, 3) := by decide +kernel
theorem dX9_goOn_11 : decode cX9_goOn 11 = .ok (.bipush 8, 2) := by decide +kernel
theorem dX9_goOn_13 : decode cX9_goOn 13 = .ok (.iaload, 1) := by decide +kernel
theorem dX9_goOn_14 : decode cX9_goOn 14 = .ok (.sipush 9999, 3) := by decide +kernel
theorem dX9_goOn_17 : decode cX9_goOn 17 = .ok (.if_icmp .ge 7, 3) := by decide +kernel
theorem dX9_goOn_20 : decode cX9_goOn 20 = .ok (.aload_n 0, 1) := by decide +kernel
theorem dX9_goOn_21 : decode cX9_goOn 21 = .ok (.invokevirtual 362, 3) := by decide +kernel
theorem dX9_goOn_24 : decode cX9_goOn 24 = .ok (.iinc 2 1, 3) := by decide +kernel
theorem dX9_goOn_27 : decode cX9_goOn 27 = .ok (.goto (-25), 3) := by decide +kernel
theorem dX9_goOn_30 : decode cX9_goOn 30 = .ok (.return_, 1) := by decide +kernel
def lX9_goOn_2 (F : Nat)  (t : Nat) (a1 : Int32) : Nat → mS → Int32 → Option mS
  | 0, _, _ => none
  | n + 1, S, v2 => if a1 ≤ v2 then (some S) else (ck (inb (8 : Int32) 2308) (if (9999 : Int32) ≤ (S.1 (t + 1) (8 : Int32).toNatClampNeg) then (lX9_goOn_2 F  t a1 n S (v2 + 1)) else (bd (f_X9_pass F S t) fun q2 => lX9_goOn_2 F  t a1 n q2 (v2 + 1))))
set_option maxHeartbeats 4000000 in
set_option maxRecDepth 100000 in
theorem gX9_goOn_2 {x : mX} {F : Nat} {t : Nat} {a1 : Int32}   {R : mS} (ht : kd0 t = 9)  : ∀ (n : Nat) (S : mS) (v2 : Int32), lX9_goOn_2 F  t a1 n S v2 = some R → mG x μX9_goOn 9 0 0 (mQe R none) 0 0 E0 S 2 [(0, .ref (t)), (1, .int (a1)), (2, .int (v2))] [] := by
  intro n
  induction n with
  | zero =>
    intro S v2 h
    cases h
  | succ n ih =>
    intro S v2 h
    unfold lX9_goOn_2 at h
    refine mG.iload_n 2 dX9_goOn_2 rfl ?_
    refine mG.iload_n 1 dX9_goOn_3 rfl ?_
    refine mG.icmp_ge 30 dX9_goOn_4 (by decide) (fun c4 => ?_) (fun c4 => ?_)
    · replace h := itp c4 h
      obtain rfl := Option.some.inj h
      exact mG.vret dX9_goOn_30 rfl ⟨rfl, rfl, rfl⟩
    · replace h := itn c4 h
      refine mG.aload_n 0 dX9_goOn_7 rfl ?_
      refine mG.get (v := .ref (t + 1)) dX9_goOn_8 mfX9_7 ht (lr9_a ht) ?_
      refine mG.bipush (v := 8) dX9_goOn_11 (by decide) ?_
      obtain ⟨b1, h⟩ := ckp h
      refine mG.iald dX9_goOn_13 (lk9_a ht) (ll9_a ht) (inbp b1) ?_
      refine mG.sipush (v := 9999) dX9_goOn_14 (by decide) ?_
      refine mG.icmp_ge 24 dX9_goOn_17 (by decide) (fun c3 => ?_) (fun c3 => ?_)
      · replace h := itp c3 h
        refine mG.iinc 2 (u := v2 + 1) (lv2 := [(2, .int (v2 + 1)), (0, .ref (t)), (1, .int (a1))]) dX9_goOn_24 rfl rfl (by decide) rfl ?_
        refine mG.goto 2 dX9_goOn_27 (by decide) ?_
        refine mG.sub (lv2 := [(0, .ref (t)), (1, .int (a1)), (2, .int (v2 + 1))]) [1, 2, 0] rfl ?_
        exact ih S (v2 + 1)  h
      · replace h := itn c3 h
        refine mG.aload_n 0 dX9_goOn_20 rfl ?_
        obtain ⟨q2, hq2, h⟩ := bdp h
        refine mG.callV0 (as := []) (st := []) (S2 := q2) (r := none) dX9_goOn_21 mvX9_pass wk40_21 rfl ht rfl (by decide) (Nat.le_of_ble_eq_true rfl) (c_X9_pass ht hq2) ?_
        refine mG.iinc 2 (u := v2 + 1) (lv2 := [(2, .int (v2 + 1)), (0, .ref (t)), (1, .int (a1))]) dX9_goOn_24 rfl rfl (by decide) rfl ?_
        refine mG.goto 2 dX9_goOn_27 (by decide) ?_
        refine mG.sub (lv2 := [(0, .ref (t)), (1, .int (a1)), (2, .int (v2 + 1))]) [1, 2, 0] rfl ?_
        exact ih q2 (v2 + 1)  h
def f_X9_goOn (F : Nat) (S : mS) (t : Nat) (a1 : Int32) : Option mS := lX9_goOn_2 F  t a1 F S (0 : Int32)
set_option maxHeartbeats 4000000 in
set_option maxRecDepth 100000 in
theorem c_X9_goOn {F : Nat} {S : mS} {t : Nat} {a1 : Int32} {R : mS} (ht : kd0 t = 9) (h : f_X9_goOn F S t a1 = some R) : mCt μX9_goOn 9 0 0 E0 S [.ref (t), .int (a1)] (mQe R none) := by
  unfold f_X9_goOn at h
  refine mCt.of (by decide) (Nat.le_of_ble_eq_true rfl) ?_
  intro x
  refine mG.iconst (v := 0) dX9_goOn_0 rfl ?_
  refine mG.istore_n (lv2 := [(2, .int 0), (0, .ref (t)), (1, .int (a1))]) dX9_goOn_1 rfl (by decide) rfl ?_
  refine mG.sub (lv2 := [(0, .ref (t)), (1, .int (a1)), (2, .int 0)]) [1, 2, 0] rfl ?_
  exact gX9_goOn_2 ht  F S (0 : Int32)  h
theorem dX9_foretold_0 : decode cX9_foretold 0 = .ok (.iload_n 1, 1) := by decide +kernel
theorem dX9_foretold_1 : decode cX9_foretold 1 = .ok (.iconst 1, 1) := by decide +kernel
theorem dX9_foretold_2 : decode cX9_foretold 2 = .ok (.bipush 60, 2) := by decide +kernel
theorem dX9_foretold_4 : decode cX9_foretold 4 = .ok (.invokestatic 65, 3) := by decide +kernel
theorem dX9_foretold_7 : decode cX9_foretold 7 = .ok (.ifCond .eq 11, 3) := by decide +kernel
theorem dX9_foretold_10 : decode cX9_foretold 10 = .ok (.aload_n 0, 1) := by decide +kernel
theorem dX9_foretold_11 : decode cX9_foretold 11 = .ok (.iload_n 2, 1) := by decide +kernel
theorem dX9_foretold_12 : decode cX9_foretold 12 = .ok (.invokevirtual 69, 3) := by decide +kernel
theorem dX9_foretold_15 : decode cX9_foretold 15 = .ok (.ifCond .ne 5, 3) := by decide +kernel
theorem dX9_foretold_18 : decode cX9_foretold 18 = .ok (.iconst (-1), 1) := by decide +kernel
theorem dX9_foretold_19 : decode cX9_foretold 19 = .ok (.ireturn, 1) := by decide +kernel
theorem dX9_foretold_20 : decode cX9_foretold 20 = .ok (.aload_n 0, 1) := by decide +kernel
theorem dX9_foretold_21 : decode cX9_foretold 21 = .ok (.invokevirtual 396, 3) := by decide +kernel
theorem dX9_foretold_24 : decode cX9_foretold 24 = .ok (.aload_n 0, 1) := by decide +kernel
theorem dX9_foretold_25 : decode cX9_foretold 25 = .ok (.iload_n 1, 1) := by decide +kernel
theorem dX9_foretold_26 : decode cX9_foretold 26 = .ok (.invokevirtual 399, 3) := by decide +kernel
theorem dX9_foretold_29 : decode cX9_foretold 29 = .ok (.aload_n 0, 1) := by decide +kernel
theorem dX9_foretold_30 : decode cX9_foretold 30 = .ok (.iload_n 2, 1) := by decide +kernel
theorem dX9_foretold_31 : decode cX9_foretold 31 = .ok (.iconst 1, 1) := by decide +kernel
theorem dX9_foretold_32 : decode cX9_foretold 32 = .ok (.invokevirtual 73, 3) := by decide +kernel
theorem dX9_foretold_35 : decode cX9_foretold 35 = .ok (.istore_n 3, 1) := by decide +kernel
theorem dX9_foretold_36 : decode cX9_foretold 36 = .ok (.aload_n 0, 1) := by decide +kernel
theorem dX9_foretold_37 : decode cX9_foretold 37 = .ok (.invokevirtual 402, 3) := by decide +kernel
theorem dX9_foretold_40 : decode cX9_foretold 40 = .ok (.iload_n 3, 1) := by decide +kernel
theorem dX9_foretold_41 : decode cX9_foretold 41 = .ok (.ireturn, 1) := by decide +kernel
def f_X9_foretold (F : Nat) (S : mS) (t : Nat) (a1 : Int32) (a2 : Int32) : Option (mS × Int32) := if (f_X9_isIn S a1 (1 : Int32) (60 : Int32)) = true then (bd (f_X9_isHouse F S t a2) fun q1 => if q1 = true then (bd (f_X9_setAside F S t) fun q2 => bd (f_X9_goOn F q2 t a1) fun q3 => bd (f_X9_get F q3 t a2 (1 : Int32)) fun q4 => bd (f_X9_putBack F q3 t) fun q5 => some (q5, q4)) else (some (S, (-1 : Int32)))) else (some (S, (-1 : Int32)))
set_option maxHeartbeats 4000000 in
set_option maxRecDepth 100000 in
theorem c_X9_foretold {F : Nat} {S : mS} {t : Nat} {a1 : Int32} {a2 : Int32} {R : mS × Int32} (ht : kd0 t = 9) (h : f_X9_foretold F S t a1 a2 = some R) : mCt μX9_foretold 10 0 0 E0 S [.ref (t), .int (a1), .int (a2)] (mQe R.1 (some (.int R.2))) := by
  unfold f_X9_foretold at h
  refine mCt.of (by decide) (Nat.le_of_ble_eq_true rfl) ?_
  intro x
  refine mG.iload_n 1 dX9_foretold_0 rfl ?_
  refine mG.iconst (v := 1) dX9_foretold_1 rfl ?_
  refine mG.bipush (v := 60) dX9_foretold_2 (by decide) ?_
  refine mG.callS0 (as := [.int (a1), .int 1, .int 60]) (st := []) (S2 := S) (r := some (.int (bI (f_X9_isIn S a1 (1 : Int32) (60 : Int32))))) dX9_foretold_4 mbX9_isIn wk7_13 wk7_12 rfl rfl (by decide) (Nat.le_of_ble_eq_true rfl) (c_X9_isIn  rfl) ?_
  refine mG.ifz_eq (b := f_X9_isIn S a1 (1 : Int32) (60 : Int32)) 18 dX9_foretold_7 (by decide) (fun c7 => ?_) (fun c7 => ?_)
  · replace h := itn c7 h
    refine mG.iconst (v := (-1)) dX9_foretold_18 rfl ?_
    obtain rfl := Option.some.inj h
    exact mG.iret dX9_foretold_19 rfl ⟨rfl, rfl, rfl⟩
  · replace h := itp c7 h
    refine mG.aload_n 0 dX9_foretold_10 rfl ?_
    refine mG.iload_n 2 dX9_foretold_11 rfl ?_
    obtain ⟨q1, hq1, h⟩ := bdp h
    refine mG.callV0 (as := [.int (a2)]) (st := []) (S2 := S) (r := some (.int (bI (q1)))) dX9_foretold_12 mvX9_isHouse wk33_0 rfl ht rfl (by decide) (Nat.le_of_ble_eq_true rfl) (c_X9_isHouse ht hq1) ?_
    refine mG.ifz_ne (b := q1) 20 dX9_foretold_15 (by decide) (fun c6 => ?_) (fun c6 => ?_)
    · replace h := itp c6 h
      refine mG.aload_n 0 dX9_foretold_20 rfl ?_
      obtain ⟨q2, hq2, h⟩ := bdp h
      refine mG.callV0 (as := []) (st := []) (S2 := q2) (r := none) dX9_foretold_21 mvX9_setAside wk47_8 rfl ht rfl (by decide) (Nat.le_of_ble_eq_true rfl) (c_X9_setAside ht hq2) ?_
      refine mG.aload_n 0 dX9_foretold_24 rfl ?_
      refine mG.iload_n 1 dX9_foretold_25 rfl ?_
      obtain ⟨q3, hq3, h⟩ := bdp h
      refine mG.callV0 (as := [.int (a1)]) (st := []) (S2 := q3) (r := none) dX9_foretold_26 mvX9_goOn wk47_12 rfl ht rfl (by decide) (Nat.le_of_ble_eq_true rfl) (c_X9_goOn ht hq3) ?_
      refine mG.aload_n 0 dX9_foretold_29 rfl ?_
      refine mG.iload_n 2 dX9_foretold_30 rfl ?_
      refine mG.iconst (v := 1) dX9_foretold_31 rfl ?_
      obtain ⟨q4, hq4, h⟩ := bdp h
      refine mG.callV0 (as := [.int (a2), .int 1]) (st := []) (S2 := q3) (r := some (.int (q4))) dX9_foretold_32 mvX9_get wk7_23 rfl ht rfl (by decide) (Nat.le_of_ble_eq_true rfl) (c_X9_get ht hq4) ?_
      refine mG.istore_n (lv2 := [(3, .int (q4)), (0, .ref (t)), (1, .int (a1)), (2, .int (a2))]) dX9_foretold_35 rfl (by decide) rfl ?_
      refine mG.aload_n 1 dX9_foretold_36 rfl ?_
      obtain ⟨q5, hq5, h⟩ := bdp h
      refine mG.callV0 (as := []) (st := []) (S2 := q5) (r := none) dX9_foretold_37 mvX9_putBack wk47_16 rfl ht rfl (by decide) (Nat.le_of_ble_eq_true rfl) (c_X9_putBack ht hq5) ?_
      refine mG.iload_n 0 dX9_foretold_40 rfl ?_
      obtain rfl := Option.some.inj h
      exact mG.iret dX9_foretold_41 rfl ⟨rfl, rfl, rfl⟩
    · replace h := itn c6 h
      refine mG.iconst (v := (-1)) dX9_foretold_18 rfl ?_
      obtain rfl := Option.some.inj h
      exact mG.iret dX9_foretold_19 rfl ⟨rfl, rfl, rfl⟩
theorem dX9_poorest_0 : decode cX9_poorest 0 = .ok (.iload_n 1, 1) := by decide +kernel
theorem dX9_poorest_1 : decode cX9_poorest 1 = .ok (.iconst 1, 1) := by decide +kernel
theorem dX9_poorest_2 : decode cX9_poorest 2 = .ok (.bipush 60, 2) := by decide +kernel
theorem dX9_poorest_4 : decode cX9_poorest 4 = .ok (.invokestatic 65, 3) := by decide +kernel
theorem dX9_poorest_7 : decode cX9_poorest 7 = .ok (.ifCond .ne 5, 3) := by decide +kernel
theorem dX9_poorest_10 : decode cX9_poorest 10 = .ok (.iconst (-1), 1) := by decide +kernel
theorem dX9_poorest_11 : decode cX9_poorest 11 = .ok (.ireturn, 1) := by decide +kernel
theorem dX9_poorest_12 : decode cX9_poorest 12 = .ok (.aload_n 0, 1) := by decide +kernel
theorem dX9_poorest_13 : decode cX9_poorest 13 = .ok (.invokevirtual 396, 3) := by decide +kernel
theorem dX9_poorest_16 : decode cX9_poorest 16 = .ok (.aload_n 0, 1) := by decide +kernel
theorem dX9_poorest_17 : decode cX9_poorest 17 = .ok (.iload_n 1, 1) := by decide +kernel
theorem dX9_poorest_18 : decode cX9_poorest 18 = .ok (.invokevirtual 399, 3) := by decide +kernel
theorem dX9_poorest_21 : decode cX9_poorest 21 = .ok (.iconst (-1), 1) := by decide +kernel
theorem dX9_poorest_22 : decode cX9_poorest 22 = .ok (.istore_n 2, 1) := by decide +kernel
theorem dX9_poorest_23 : decode cX9_poorest 23 = .ok (.iconst 0, 1) := by decide +kernel
theorem dX9_poorest_24 : decode cX9_poorest 24 = .ok (.istore_n 3, 1) := by decide +kernel
theorem dX9_poorest_25 : decode cX9_poorest 25 = .ok (.iload_n 3, 1) := by decide +kernel
theorem dX9_poorest_26 : decode cX9_poorest 26 = .ok (.aload_n 0, 1) := by decide +kernel
theorem dX9_poorest_27 : decode cX9_poorest 27 = .ok (.getfield 7, 3) := by decide +kernel
theorem dX9_poorest_30 : decode cX9_poorest 30 = .ok (.iconst 0, 1) := by decide +kernel
theorem dX9_poorest_31 : decode cX9_poorest 31 = .ok (.iaload, 1) := by decide +kernel
theorem dX9_poorest_32 : decode cX9_poorest 32 = .ok (.if_icmp .ge 39, 3) := by decide +kernel
theorem dX9_poorest_35 : decode cX9_poorest 35 = .ok (.aload_n 0, 1) := by decide +kernel
theorem dX9_poorest_36 : decode cX9_poorest 36 = .ok (.iload_n 3, 1) := by decide +kernel
theorem dX9_poorest_37 : decode cX9_poorest 37 = .ok (.invokevirtual 77, 3) := by decide +kernel
theorem dX9_poorest_40 : decode cX9_poorest 40 = .ok (.ifCond .eq 25, 3) := by decide +kernel
theorem dX9_poorest_43 : decode cX9_poorest 43 = .ok (.iload_n 2, 1) := by decide +kernel
theorem dX9_poorest_44 : decode cX9_poorest 44 = .ok (.iconst (-1), 1) := by decide +kernel
theorem dX9_poorest_45 : decode cX9_poorest 45 = .ok (.if_icmp .eq 18, 3) := by decide +kernel
theorem dX9_poorest_48 : decode cX9_poorest 48 = .ok (.aload_n 0, 1) := by decide +kernel
theorem dX9_poorest_49 : decode cX9_poorest 49 = .ok (.iload_n 3, 1) := by decide +kernel
theorem dX9_poorest_50 : decode cX9_poorest 50 = .ok (.iconst 1, 1) := by decide +kernel
theorem dX9_poorest_51 : decode cX9_poorest 51 = .ok (.invokevirtual 73, 3) := by decide +kernel
theorem dX9_poorest_54 : decode cX9_poorest 54 = .ok (.aload_n 0, 1) := by decide +kernel
theorem dX9_poorest_55 : decode cX9_poorest 55 = .ok (.iload_n 2, 1) := by decide +kernel
theorem dX9_poorest_56 : decode cX9_poorest 56 = .ok (.iconst 1, 1) := by decide +kernel
theorem dX9_poorest_57 : decode cX9_poorest 57 = .ok (.invokevirtual 73, 3) := by decide +kernel
theorem dX9_poorest_60 : decode cX9_poorest 60 = .ok (.if_icmp .ge 5, 3) := by decide +kernel
theorem dX9_poorest_63 : decode cX9_poorest 63 = .ok (.iload_n 3, 1) := by decide +kernel
theorem dX9_poorest_64 : decode cX9_poorest 64 = .ok (.istore_n 2, 1) := by decide +kernel
theorem dX9_poorest_65 : decode cX9_poorest 65 = .ok (.iinc 3 1, 3) := by decide +kernel
theorem dX9_poorest_68 : decode cX9_poorest 68 = .ok (.goto (-43), 3) := by decide +kernel
theorem dX9_poorest_71 : decode cX9_poorest 71 = .ok (.aload_n 0, 1) := by decide +kernel
theorem dX9_poorest_72 : decode cX9_poorest 72 = .ok (.invokevirtual 402, 3) := by decide +kernel
theorem dX9_poorest_75 : decode cX9_poorest 75 = .ok (.iload_n 2, 1) := by decide +kernel
theorem dX9_poorest_76 : decode cX9_poorest 76 = .ok (.ireturn, 1) := by decide +kernel
def lX9_poorest_25 (F : Nat)  (t : Nat) (a1 : Int32) : Nat → mS → Int32 → Int32 → Option (mS × Int32)
  | 0, _, _, _ => none
  | n + 1, S, v2, v3 => ck (inb (0 : Int32) 2308) (if (S.1 (t + 1) (0 : Int32).toNatClampNeg) ≤ v3 then (bd (f_X9_putBack F S t) fun q2 => some (q2, v2)) else (bd (f_X9_isHere F S t v3) fun q3 => if q3 = true then (if v2 = (-1 : Int32) then (lX9_poorest_25 F  t a1 n S v3 (v3 + 1)) else (bd (f_X9_get F S t v3 (1 : Int32)) fun q4 => bd (f_X9_get F S t v2 (1 : Int32)) fun q5 => if q5 ≤ q4 then (lX9_poorest_25 F  t a1 n S v2 (v3 + 1)) else (lX9_poorest_25 F  t a1 n S v3 (v3 + 1)))) else (lX9_poorest_25 F  t a1 n S v2 (v3 + 1))))
set_option maxHeartbeats 4000000 in
set_option maxRecDepth 100000 in
theorem gX9_poorest_25 {x : mX} {F : Nat} {t : Nat} {a1 : Int32}   {R : mS × Int32} (ht : kd0 t = 9)  : ∀ (n : Nat) (S : mS) (v2 : Int32) (v3 : Int32), lX9_poorest_25 F  t a1 n S v2 v3 = some R → mG x μX9_poorest 10 0 0 (mQe R.1 (some (.int R.2))) 0 0 E0 S 25 [(0, .ref (t)), (2, .int (v2)), (3, .int (v3))] [] := by
  intro n
  induction n with
  | zero =>
    intro S v2 v3 h
    cases h
  | succ n ih =>
    intro S v2 v3 h
    unfold lX9_poorest_25 at h
    refine mG.iload_n 2 dX9_poorest_25 rfl ?_
    refine mG.aload_n 0 dX9_poorest_26 rfl ?_
    refine mG.get (v := .ref (t + 1)) dX9_poorest_27 mfX9_7 ht (lr9_a ht) ?_
    refine mG.iconst (v := 0) dX9_poorest_30 rfl ?_
    obtain ⟨b1, h⟩ := ckp h
    refine mG.iald dX9_poorest_31 (lk9_a ht) (ll9_a ht) (inbp b1) ?_
    refine mG.icmp_ge 71 dX9_poorest_32 (by decide) (fun c9 => ?_) (fun c9 => ?_)
    · replace h := itp c9 h
      refine mG.aload_n 0 dX9_poorest_71 rfl ?_
      obtain ⟨q2, hq2, h⟩ := bdp h
      refine mG.callV0 (as := []) (st := []) (S2 := q2) (r := none) dX9_poorest_72 mvX9_putBack wk47_16 rfl ht rfl (by decide) (Nat.le_of_ble_eq_true rfl) (c_X9_putBack ht hq2) ?_
      refine mG.iload_n 1 dX9_poorest_75 rfl ?_
      obtain rfl := Option.some.inj h
      exact mG.iret dX9_poorest_76 rfl ⟨rfl, rfl, rfl⟩
    · replace h := itn c9 h
      refine mG.aload_n 0 dX9_poorest_35 rfl ?_
      refine mG.iload_n 2 dX9_poorest_36 rfl ?_
      obtain ⟨q3, hq3, h⟩ := bdp h
      refine mG.callV0 (as := [.int (v3)]) (st := []) (S2 := S) (r := some (.int (bI (q3)))) dX9_poorest_37 mvX9_isHere wk32_20 rfl ht rfl (by decide) (Nat.le_of_ble_eq_true rfl) (c_X9_isHere ht hq3) ?_
      refine mG.ifz_eq (b := q3) 65 dX9_poorest_40 (by decide) (fun c8 => ?_) (fun c8 => ?_)
      · replace h := itn c8 h
        refine mG.iinc 2 (u := v3 + 1) (lv2 := [(3, .int (v3 + 1)), (0, .ref (t)), (2, .int (v2))]) dX9_poorest_65 rfl rfl (by decide) rfl ?_
        refine mG.goto 25 dX9_poorest_68 (by decide) ?_
        refine mG.sub (lv2 := [(0, .ref (t)), (2, .int (v2)), (3, .int (v3 + 1))]) [1, 2, 0] rfl ?_
        exact ih S v2 (v3 + 1)  h
      · replace h := itp c8 h
        refine mG.iload_n 1 dX9_poorest_43 rfl ?_
        refine mG.iconst (v := (-1)) dX9_poorest_44 rfl ?_
        refine mG.icmp_eq 63 dX9_poorest_45 (by decide) (fun c7 => ?_) (fun c7 => ?_)
        · replace h := itp c7 h
          refine mG.iload_n 2 dX9_poorest_63 rfl ?_
          refine mG.istore_n (lv2 := [(2, .int (v3)), (0, .ref (t)), (3, .int (v3))]) dX9_poorest_64 rfl (by decide) rfl ?_
          refine mG.iinc 2 (u := v3 + 1) (lv2 := [(3, .int (v3 + 1)), (2, .int (v3)), (0, .ref (t))]) dX9_poorest_65 rfl rfl (by decide) rfl ?_
          refine mG.goto 25 dX9_poorest_68 (by decide) ?_
          refine mG.sub (lv2 := [(0, .ref (t)), (2, .int (v3)), (3, .int (v3 + 1))]) [2, 1, 0] rfl ?_
          exact ih S v3 (v3 + 1)  h
        · replace h := itn c7 h
          refine mG.aload_n 0 dX9_poorest_48 rfl ?_
          refine mG.iload_n 2 dX9_poorest_49 rfl ?_
          refine mG.iconst (v := 1) dX9_poorest_50 rfl ?_
          obtain ⟨q4, hq4, h⟩ := bdp h
          refine mG.callV0 (as := [.int (v3), .int 1]) (st := []) (S2 := S) (r := some (.int (q4))) dX9_poorest_51 mvX9_get wk7_23 rfl ht rfl (by decide) (Nat.le_of_ble_eq_true rfl) (c_X9_get ht hq4) ?_
          refine mG.aload_n 0 dX9_poorest_54 rfl ?_
          refine mG.iload_n 1 dX9_poorest_55 rfl ?_
          refine mG.iconst (v := 1) dX9_poorest_56 rfl ?_
          obtain ⟨q5, hq5, h⟩ := bdp h
          refine mG.callV0 (as := [.int (v2), .int 1]) (st := [.int (q4)]) (S2 := S) (r := some (.int (q5))) dX9_poorest_57 mvX9_get wk7_23 rfl ht rfl (by decide) (Nat.le_of_ble_eq_true rfl) (c_X9_get ht hq5) ?_
          refine mG.icmp_ge 65 dX9_poorest_60 (by decide) (fun c6 => ?_) (fun c6 => ?_)
          · replace h := itp c6 h
            refine mG.iinc 2 (u := v3 + 1) (lv2 := [(3, .int (v3 + 1)), (0, .ref (t)), (2, .int (v2))]) dX9_poorest_65 rfl rfl (by decide) rfl ?_
            refine mG.goto 25 dX9_poorest_68 (by decide) ?_
            refine mG.sub (lv2 := [(0, .ref (t)), (2, .int (v2)), (3, .int (v3 + 1))]) [1, 2, 0] rfl ?_
            exact ih S v2 (v3 + 1)  h
          · replace h := itn c6 h
            refine mG.iload_n 2 dX9_poorest_63 rfl ?_
            refine mG.istore_n (lv2 := [(2, .int (v3)), (0, .ref (t)), (3, .int (v3))]) dX9_poorest_64 rfl (by decide) rfl ?_
            refine mG.iinc 2 (u := v3 + 1) (lv2 := [(3, .int (v3 + 1)), (2, .int (v3)), (0, .ref (t))]) dX9_poorest_65 rfl rfl (by decide) rfl ?_
            refine mG.goto 25 dX9_poorest_68 (by decide) ?_
            refine mG.sub (lv2 := [(0, .ref (t)), (2, .int (v3)), (3, .int (v3 + 1))]) [2, 1, 0] rfl ?_
            exact ih S v3 (v3 + 1)  h
def f_X9_poorest (F : Nat) (S : mS) (t : Nat) (a1 : Int32) : Option (mS × Int32) := if (f_X9_isIn S a1 (1 : Int32) (60 : Int32)) = true then (bd (f_X9_setAside F S t) fun q1 => bd (f_X9_goOn F q1 t a1) fun q2 => lX9_poorest_25 F  t a1 F q2 (-1 : Int32) (0 : Int32)) else (some (S, (-1 : Int32)))
set_option maxHeartbeats 4000000 in
set_option maxRecDepth 100000 in
theorem c_X9_poorest {F : Nat} {S : mS} {t : Nat} {a1 : Int32} {R : mS × Int32} (ht : kd0 t = 9) (h : f_X9_poorest F S t a1 = some R) : mCt μX9_poorest 10 0 0 E0 S [.ref (t), .int (a1)] (mQe R.1 (some (.int R.2))) := by
  unfold f_X9_poorest at h
  refine mCt.of (by decide) (Nat.le_of_ble_eq_true rfl) ?_
  intro x
  refine mG.iload_n 1 dX9_poorest_0 rfl ?_
  refine mG.iconst (v := 1) dX9_poorest_1 rfl ?_
  refine mG.bipush (v := 60) dX9_poorest_2 (by decide) ?_
  refine mG.callS0 (as := [.int (a1), .int 1, .int 60]) (st := []) (S2 := S) (r := some (.int (bI (f_X9_isIn S a1 (1 : Int32) (60 : Int32))))) dX9_poorest_4 mbX9_isIn wk7_13 wk7_12 rfl rfl (by decide) (Nat.le_of_ble_eq_true rfl) (c_X9_isIn  rfl) ?_
  refine mG.ifz_ne (b := f_X9_isIn S a1 (1 : Int32) (60 : Int32)) 12 dX9_poorest_7 (by decide) (fun c3 => ?_) (fun c3 => ?_)
  · replace h := itp c3 h
    refine mG.aload_n 0 dX9_poorest_12 rfl ?_
    obtain ⟨q1, hq1, h⟩ := bdp h
    refine mG.callV0 (as := []) (st := []) (S2 := q1) (r := none) dX9_poorest_13 mvX9_setAside wk47_8 rfl ht rfl (by decide) (Nat.le_of_ble_eq_true rfl) (c_X9_setAside ht hq1) ?_
    refine mG.aload_n 0 dX9_poorest_16 rfl ?_
    refine mG.iload_n 1 dX9_poorest_17 rfl ?_
    obtain ⟨q2, hq2, h⟩ := bdp h
    refine mG.callV0 (as := [.int (a1)]) (st := []) (S2 := q2) (r := none) dX9_poorest_18 mvX9_goOn wk47_12 rfl ht rfl (by decide) (Nat.le_of_ble_eq_true rfl) (c_X9_goOn ht hq2) ?_
    refine mG.iconst (v := (-1)) dX9_poorest_21 rfl ?_
    refine mG.istore_n (lv2 := [(2, .int (-1)), (0, .ref (t)), (1, .int (a1))]) dX9_poorest_22 rfl (by decide) rfl ?_
    refine mG.iconst (v := 0) dX9_poorest_23 rfl ?_
    refine mG.istore_n (lv2 := [(3, .int 0), (2, .int (-1)), (0, .ref (t)), (1, .int (a1))]) dX9_poorest_24 rfl (by decide) rfl ?_
    refine mG.sub (lv2 := [(0, .ref (t)), (2, .int (-1)), (3, .int 0)]) [2, 1, 0] rfl ?_
    exact gX9_poorest_25 ht  F q2 (-1 : Int32) (0 : Int32)  h
  · replace h := itn c3 h
    refine mG.iconst (v := (-1)) dX9_poorest_10 rfl ?_
    obtain rfl := Option.some.inj h
    exact mG.iret dX9_poorest_11 rfl ⟨rfl, rfl, rfl⟩
theorem dX9_whose_0 : decode cX9_whose 0 = .ok (.iload_n 1, 1) := by decide +kernel
theorem dX9_whose_1 : decode cX9_whose 1 = .ok (.iconst 1, 1) := by decide +kernel
theorem dX9_whose_2 : decode cX9_whose 2 = .ok (.bipush 60, 2) := by decide +kernel
theorem dX9_whose_4 : decode cX9_whose 4 = .ok (.invokestatic 65, 3) := by decide +kernel
theorem dX9_whose_7 : decode cX9_whose 7 = .ok (.ifCond .ne 5, 3) := by decide +kernel
theorem dX9_whose_10 : decode cX9_whose 10 = .ok (.iconst (-1), 1) := by decide +kernel
theorem dX9_whose_11 : decode cX9_whose 11 = .ok (.ireturn, 1) := by decide +kernel
theorem dX9_whose_12 : decode cX9_whose 12 = .ok (.aload_n 0, 1) := by decide +kernel
theorem dX9_whose_13 : decode cX9_whose 13 = .ok (.getfield 7, 3) := by decide +kernel
theorem dX9_whose_16 : decode cX9_whose 16 = .ok (.iconst 2, 1) := by decide +kernel
theorem dX9_whose_17 : decode cX9_whose 17 = .ok (.iaload, 1) := by decide +kernel
theorem dX9_whose_18 : decode cX9_whose 18 = .ok (.istore_n 2, 1) := by decide +kernel
theorem dX9_whose_19 : decode cX9_whose 19 = .ok (.iconst (-1), 1) := by decide +kernel
theorem dX9_whose_20 : decode cX9_whose 20 = .ok (.istore_n 3, 1) := by decide +kernel
theorem dX9_whose_21 : decode cX9_whose 21 = .ok (.iconst (-1), 1) := by decide +kernel
theorem dX9_whose_22 : decode cX9_whose 22 = .ok (.istore 4, 2) := by decide +kernel
theorem dX9_whose_24 : decode cX9_whose 24 = .ok (.iconst 0, 1) := by decide +kernel
theorem dX9_whose_25 : decode cX9_whose 25 = .ok (.istore 5, 2) := by decide +kernel
theorem dX9_whose_27 : decode cX9_whose 27 = .ok (.iload 5, 2) := by decide +kernel
theorem dX9_whose_29 : decode cX9_whose 29 = .ok (.aload_n 0, 1) := by decide +kernel
theorem dX9_whose_30 : decode cX9_whose 30 = .ok (.getfield 7, 3) := by decide +kernel
theorem dX9_whose_33 : decode cX9_whose 33 = .ok (.iconst 1, 1) := by decide +kernel
theorem dX9_whose_34 : decode cX9_whose 34 = .ok (.iaload, 1) := by decide +kernel
theorem dX9_whose_35 : decode cX9_whose 35 = .ok (.if_icmp .ge 95, 3) := by decide +kernel
theorem dX9_whose_38 : decode cX9_whose 38 = .ok (.aload_n 0, 1) := by decide +kernel
theorem dX9_whose_39 : decode cX9_whose 39 = .ok (.getfield 7, 3) := by decide +kernel
theorem dX9_whose_42 : decode cX9_whose 42 = .ok (.iconst 2, 1) := by decide +kernel
theorem dX9_whose_43 : decode cX9_whose 43 = .ok (.iload 5, 2) := by decide +kernel
theorem dX9_whose_45 : decode cX9_whose 45 = .ok (.iastore, 1) := by decide +kernel
theorem dX9_whose_46 : decode cX9_whose 46 = .ok (.aload_n 0, 1) := by decide +kernel
theorem dX9_whose_47 : decode cX9_whose 47 = .ok (.invokevirtual 396, 3) := by decide +kernel
theorem dX9_whose_50 : decode cX9_whose 50 = .ok (.aload_n 0, 1) := by decide +kernel
theorem dX9_whose_51 : decode cX9_whose 51 = .ok (.iload_n 1, 1) := by decide +kernel
theorem dX9_whose_52 : decode cX9_whose 52 = .ok (.invokevirtual 399, 3) := by decide +kernel
theorem dX9_whose_55 : decode cX9_whose 55 = .ok (.iconst 0, 1) := by decide +kernel
theorem dX9_whose_56 : decode cX9_whose 56 = .ok (.istore 6, 2) := by decide +kernel
theorem dX9_whose_58 : decode cX9_whose 58 = .ok (.iconst 0, 1) := by decide +kernel
theorem dX9_whose_59 : decode cX9_whose 59 = .ok (.istore 7, 2) := by decide +kernel
theorem dX9_whose_61 : decode cX9_whose 61 = .ok (.iload 7, 2) := by decide +kernel
theorem dX9_whose_63 : decode cX9_whose 63 = .ok (.aload_n 0, 1) := by decide +kernel
theorem dX9_whose_64 : decode cX9_whose 64 = .ok (.getfield 7, 3) := by decide +kernel
theorem dX9_whose_67 : decode cX9_whose 67 = .ok (.iconst 0, 1) := by decide +kernel
theorem dX9_whose_68 : decode cX9_whose 68 = .ok (.iaload, 1) := by decide +kernel
theorem dX9_whose_69 : decode cX9_whose 69 = .ok (.if_icmp .ge 34, 3) := by decide +kernel
theorem dX9_whose_72 : decode cX9_whose 72 = .ok (.iload 6, 2) := by decide +kernel
theorem dX9_whose_74 : decode cX9_whose 74 = .ok (.aload_n 0, 1) := by decide +kernel
theorem dX9_whose_75 : decode cX9_whose 75 = .ok (.iload 7, 2) := by decide +kernel
theorem dX9_whose_77 : decode cX9_whose 77 = .ok (.invokevirtual 77, 3) := by decide +kernel
theorem dX9_whose_80 : decode cX9_whose 80 = .ok (.ifCond .eq 13, 3) := by decide +kernel
theorem dX9_whose_83 : decode cX9_whose 83 = .ok (.aload_n 0, 1) := by decide +kernel
theorem dX9_whose_84 : decode cX9_whose 84 = .ok (.iload 7, 2) := by decide +kernel
theorem dX9_whose_86 : decode cX9_whose 86 = .ok (.iconst 1, 1) := by decide +kernel
theorem dX9_whose_87 : decode cX9_whose 87 = .ok (.invokevirtual 73, 3) := by decide +kernel
theorem dX9_whose_90 : decode cX9_whose 90 = .ok (.goto 4, 3) := by decide +kernel
theorem dX9_whose_93 : decode cX9_whose 93 = .ok (.iconst 0, 1) := by decide +kernel
theorem dX9_whose_94 : decode cX9_whose 94 = .ok (.iadd, 1) := by decide +kernel
theorem dX9_whose_95 : decode cX9_whose 95 = .ok (.istore 6, 2) := by decide +kernel
theorem dX9_whose_97 : decode cX9_whose 97 = .ok (.iinc 7 1, 3) := by decide +kernel
theorem dX9_whose_100 : decode cX9_whose 100 = .ok (.goto (-39), 3) := by decide +kernel
theorem dX9_whose_103 : decode cX9_whose 103 = .ok (.aload_n 0, 1) := by decide +kernel
theorem dX9_whose_104 : decode cX9_whose 104 = .ok (.invokevirtual 402, 3) := by decide +kernel
theorem dX9_whose_107 : decode cX9_whose 107 = .ok (.iload 6, 2) := by decide +kernel
theorem dX9_whose_109 : decode cX9_whose 109 = .ok (.iload 4, 2) := by decide +kernel
theorem dX9_whose_111 : decode cX9_whose 111 = .ok (.if_icmp .gt 6, 3) := by decide +kernel
theorem dX9_whose_114 : decode cX9_whose 114 = .ok (.goto 10, 3) := by decide +kernel
theorem dX9_whose_117 : decode cX9_whose 117 = .ok (.iload 6, 2) := by decide +kernel
theorem dX9_whose_119 : decode cX9_whose 119 = .ok (.istore 4, 2) := by decide +kernel
theorem dX9_whose_121 : decode cX9_whose 121 = .ok (.iload 5, 2) := by decide +kernel
theorem dX9_whose_123 : decode cX9_whose 123 = .ok (.istore_n 3, 1) := by decide +kernel
theorem dX9_whose_124 : decode cX9_whose 124 = .ok (.iinc 5 1, 3) := by decide +kernel
theorem dX9_whose_127 : decode cX9_whose 127 = .ok (.goto (-100), 3) := by decide +kernel
theorem dX9_whose_130 : decode cX9_whose 130 = .ok (.aload_n 0, 1) := by decide +kernel
theorem dX9_whose_131 : decode cX9_whose 131 = .ok (.getfield 7, 3) := by decide +kernel
theorem dX9_whose_134 : decode cX9_whose 134 = .ok (.iconst 2, 1) := by decide +kernel
theorem dX9_whose_135 : decode cX9_whose 135 = .ok (.iload_n 2, 1) := by decide +kernel
theorem dX9_whose_136 : decode cX9_whose 136 = .ok (.iastore, 1) := by decide +kernel
theorem dX9_whose_137 : decode cX9_whose 137 = .ok (.iload_n 3, 1) := by decide +kernel
theorem dX9_whose_138 : decode cX9_whose 138 = .ok (.ireturn, 1) := by decide +kernel
def lX9_whose_61 (F : Nat) (K27 : mS → Int32 → Int32 → Int32 → Int32 → Option (mS × Int32)) (t : Nat) (a1 : Int32) : Nat → mS → Int32 → Int32 → Int32 → Int32 → Int32 → Int32 → Option (mS × Int32)
  | 0, _, _, _, _, _, _, _ => none
  | n + 1, S, v2, v3, v4, v5, v6, v7 => ck (inb (0 : Int32) 2308) (if (S.1 (t + 1) (0 : Int32).toNatClampNeg) ≤ v7 then (bd (f_X9_putBack F S t) fun q2 => if v4 < v6 then (K27 q2 v2 v5 v6 (v5 + 1)) else (K27 q2 v2 v3 v4 (v5 + 1))) else (bd (f_X9_isHere F S t v7) fun q4 => if q4 = true then (bd (f_X9_get F S t v7 (1 : Int32)) fun q5 => lX9_whose_61 F K27 t a1 n S v2 v3 v4 v5 (v6 + q5) (v7 + 1)) else (lX9_whose_61 F K27 t a1 n S v2 v3 v4 v5 (v6 + (0 : Int32)) (v7 + 1))))
set_option maxHeartbeats 4000000 in
set_option maxRecDepth 100000 in
theorem gX9_whose_61 {x : mX} {F : Nat} {t : Nat} {a1 : Int32}  {K27 : mS → Int32 → Int32 → Int32 → Int32 → Option (mS × Int32)} {R : mS × Int32} (ht : kd0 t = 9) (hK27 : ∀ (S : mS) (v2 : Int32) (v3 : Int32) (v4 : Int32) (v5 : Int32) , K27 S v2 v3 v4 v5 = some R → mG x μX9_whose 10 0 0 (mQe R.1 (some (.int R.2))) 0 0 E0 S 27 [(0, .ref (t)), (1, .int (a1)), (2, .int (v2)), (3, .int (v3)), (4, .int (v4)), (5, .int (v5))] []) : ∀ (n : Nat) (S : mS) (v2 : Int32) (v3 : Int32) (v4 : Int32) (v5 : Int32) (v6 : Int32) (v7 : Int32), lX9_whose_61 F K27 t a1 n S v2 v3 v4 v5 v6 v7 = some R → mG x μX9_whose 10 0 0 (mQe R.1 (some (.int R.2))) 0 0 E0 S 61 [(0, .ref (t)), (1, .int (a1)), (2, .int (v2)), (3, .int (v3)), (4, .int (v4)), (5, .int (v5)), (6, .int (v6)), (7, .int (v7))] [] := by
  intro n
  induction n with
  | zero =>
    intro S v2 v3 v4 v5 v6 v7 h
    cases h
  | succ n ih =>
    intro S v2 v3 v4 v5 v6 v7 h
    unfold lX9_whose_61 at h
    refine mG.iload 7 dX9_whose_61 rfl ?_
    refine mG.aload_n 0 dX9_whose_63 rfl ?_
    refine mG.get (v := .ref (t + 1)) dX9_whose_64 mfX9_7 ht (lr9_a ht) ?_
    refine mG.iconst (v := 0) dX9_whose_67 rfl ?_
    obtain ⟨b1, h⟩ := ckp h
    refine mG.iald dX9_whose_68 (lk9_a ht) (ll9_a ht) (inbp b1) ?_
    refine mG.icmp_ge 103 dX9_whose_69 (by decide) (fun c7 => ?_) (fun c7 => ?_)
    · replace h := itp c7 h
      refine mG.aload_n 0 dX9_whose_103 rfl ?_
      obtain ⟨q2, hq2, h⟩ := bdp h
      refine mG.callV0 (as := []) (st := []) (S2 := q2) (r := none) dX9_whose_104 mvX9_putBack wk47_16 rfl ht rfl (by decide) (Nat.le_of_ble_eq_true rfl) (c_X9_putBack ht hq2) ?_
      refine mG.iload 6 dX9_whose_107 rfl ?_
      refine mG.iload 4 dX9_whose_109 rfl ?_
      refine mG.icmp_gt 117 dX9_whose_111 (by decide) (fun c3 => ?_) (fun c3 => ?_)
      · replace h := itp c3 h
        refine mG.iload 6 dX9_whose_117 rfl ?_
        refine mG.istore (lv2 := [(4, .int (v6)), (0, .ref (t)), (1, .int (a1)), (2, .int (v2)), (3, .int (v3)), (5, .int (v5)), (6, .int (v6)), (7, .int (v7))]) dX9_whose_119 (by decide) rfl ?_
        refine mG.iload 5 dX9_whose_121 rfl ?_
        refine mG.istore_n (lv2 := [(3, .int (v5)), (4, .int (v6)), (0, .ref (t)), (1, .int (a1)), (2, .int (v2)), (5, .int (v5)), (6, .int (v6)), (7, .int (v7))]) dX9_whose_123 rfl (by decide) rfl ?_
        refine mG.iinc 5 (u := v5 + 1) (lv2 := [(5, .int (v5 + 1)), (3, .int (v5)), (4, .int (v6)), (0, .ref (t)), (1, .int (a1)), (2, .int (v2)), (6, .int (v6)), (7, .int (v7))]) dX9_whose_124 rfl rfl (by decide) rfl ?_
        refine mG.goto 27 dX9_whose_127 (by decide) ?_
        refine mG.sub (lv2 := [(0, .ref (t)), (1, .int (a1)), (2, .int (v2)), (3, .int (v5)), (4, .int (v6)), (5, .int (v5 + 1))]) [3, 4, 5, 1, 2, 0] rfl ?_
        exact hK27 q2 v2 v5 v6 (v5 + 1)  h
      · replace h := itn c3 h
        refine mG.goto 124 dX9_whose_114 (by decide) ?_
        refine mG.iinc 5 (u := v5 + 1) (lv2 := [(5, .int (v5 + 1)), (0, .ref (t)), (1, .int (a1)), (2, .int (v2)), (3, .int (v3)), (4, .int (v4)), (6, .int (v6)), (7, .int (v7))]) dX9_whose_124 rfl rfl (by decide) rfl ?_
        refine mG.goto 27 dX9_whose_127 (by decide) ?_
        refine mG.sub (lv2 := [(0, .ref (t)), (1, .int (a1)), (2, .int (v2)), (3, .int (v3)), (4, .int (v4)), (5, .int (v5 + 1))]) [1, 2, 3, 4, 5, 0] rfl ?_
        exact hK27 q2 v2 v3 v4 (v5 + 1)  h
    · replace h := itn c7 h
      refine mG.iload 6 dX9_whose_72 rfl ?_
      refine mG.aload_n 0 dX9_whose_74 rfl ?_
      refine mG.iload 7 dX9_whose_75 rfl ?_
      obtain ⟨q4, hq4, h⟩ := bdp h
      refine mG.callV0 (as := [.int (v7)]) (st := [.int (v6)]) (S2 := S) (r := some (.int (bI (q4)))) dX9_whose_77 mvX9_isHere wk32_20 rfl ht rfl (by decide) (Nat.le_of_ble_eq_true rfl) (c_X9_isHere ht hq4) ?_
      refine mG.ifz_eq (b := q4) 93 dX9_whose_80 (by decide) (fun c6 => ?_) (fun c6 => ?_)
      · replace h := itn c6 h
        refine mG.iconst (v := 0) dX9_whose_93 rfl ?_
        refine mG.iadd dX9_whose_94 ?_
        refine mG.istore (lv2 := [(6, .int (v6 + (0 : Int32))), (0, .ref (t)), (1, .int (a1)), (2, .int (v2)), (3, .int (v3)), (4, .int (v4)), (5, .int (v5)), (7, .int (v7))]) dX9_whose_95 (by decide) rfl ?_
        refine mG.iinc 7 (u := v7 + 1) (lv2 := [(7, .int (v7 + 1)), (6, .int (v6 + (0 : Int32))), (0, .ref (t)), (1, .int (a1)), (2, .int (v2)), (3, .int (v3)), (4, .int (v4)), (5, .int (v5))]) dX9_whose_97 rfl rfl (by decide) rfl ?_
        refine mG.goto 61 dX9_whose_100 (by decide) ?_
        refine mG.sub (lv2 := [(0, .ref (t)), (1, .int (a1)), (2, .int (v2)), (3, .int (v3)), (4, .int (v4)), (5, .int (v5)), (6, .int (v6 + (0 : Int32))), (7, .int (v7 + 1))]) [2, 3, 4, 5, 6, 7, 1, 0] rfl ?_
        exact ih S v2 v3 v4 v5 (v6 + (0 : Int32)) (v7 + 1)  h
      · replace h := itp c6 h
        refine mG.aload_n 0 dX9_whose_83 rfl ?_
        refine mG.iload 7 dX9_whose_84 rfl ?_
        refine mG.iconst (v := 1) dX9_whose_86 rfl ?_
        obtain ⟨q5, hq5, h⟩ := bdp h
        refine mG.callV0 (as := [.int (v7), .int 1]) (st := [.int (v6)]) (S2 := S) (r := some (.int (q5))) dX9_whose_87 mvX9_get wk7_23 rfl ht rfl (by decide) (Nat.le_of_ble_eq_true rfl) (c_X9_get ht hq5) ?_
        refine mG.goto 94 dX9_whose_90 (by decide) ?_
        refine mG.iadd dX9_whose_94 ?_
        refine mG.istore (lv2 := [(6, .int (v6 + q5)), (0, .ref (t)), (1, .int (a1)), (2, .int (v2)), (3, .int (v3)), (4, .int (v4)), (5, .int (v5)), (7, .int (v7))]) dX9_whose_95 (by decide) rfl ?_
        refine mG.iinc 7 (u := v7 + 1) (lv2 := [(7, .int (v7 + 1)), (6, .int (v6 + q5)), (0, .ref (t)), (1, .int (a1)), (2, .int (v2)), (3, .int (v3)), (4, .int (v4)), (5, .int (v5))]) dX9_whose_97 rfl rfl (by decide) rfl ?_
        refine mG.goto 61 dX9_whose_100 (by decide) ?_
        refine mG.sub (lv2 := [(0, .ref (t)), (1, .int (a1)), (2, .int (v2)), (3, .int (v3)), (4, .int (v4)), (5, .int (v5)), (6, .int (v6 + q5)), (7, .int (v7 + 1))]) [2, 3, 4, 5, 6, 7, 1, 0] rfl ?_
        exact ih S v2 v3 v4 v5 (v6 + q5) (v7 + 1)  h
def lX9_whose_27 (F : Nat)  (t : Nat) (a1 : Int32) : Nat → mS → Int32 → Int32 → Int32 → Int32 → Option (mS × Int32)
  | 0, _, _, _, _, _ => none
  | n + 1, S, v2, v3, v4, v5 => ck (inb (1 : Int32) 2308) (if (S.1 (t + 1) (1 : Int32).toNatClampNeg) ≤ v5 then (ck (inb (2 : Int32) 2308) (stp (sI S (t + 1) (2 : Int32).toNatClampNeg v2) fun S3 => some (S3, v3))) else (ck (inb (2 : Int32) 2308) (stp (sI S (t + 1) (2 : Int32).toNatClampNeg v5) fun S5 => bd (f_X9_setAside F S5 t) fun q6 => bd (f_X9_goOn F q6 t a1) fun q7 => lX9_whose_61 F (fun (S : mS) (v2 : Int32) (v3 : Int32) (v4 : Int32) (v5 : Int32) => lX9_whose_27 F  t a1 n S v2 v3 v4 v5) t a1 F q7 v2 v3 v4 v5 (0 : Int32) (0 : Int32))))
set_option maxHeartbeats 4000000 in
set_option maxRecDepth 100000 in
theorem gX9_whose_27 {x : mX} {F : Nat} {t : Nat} {a1 : Int32}   {R : mS × Int32} (ht : kd0 t = 9)  : ∀ (n : Nat) (S : mS) (v2 : Int32) (v3 : Int32) (v4 : Int32) (v5 : Int32), lX9_whose_27 F  t a1 n S v2 v3 v4 v5 = some R → mG x μX9_whose 10 0 0 (mQe R.1 (some (.int R.2))) 0 0 E0 S 27 [(0, .ref (t)), (1, .int (a1)), (2, .int (v2)), (3, .int (v3)), (4, .int (v4)), (5, .int (v5))] [] := by
  intro n
  induction n with
  | zero =>
    intro S v2 v3 v4 v5 h
    cases h
  | succ n ih =>
    intro S v2 v3 v4 v5 h
    unfold lX9_whose_27 at h
    refine mG.iload 5 dX9_whose_27 rfl ?_
    refine mG.aload_n 0 dX9_whose_29 rfl ?_
    refine mG.get (v := .ref (t + 1)) dX9_whose_30 mfX9_7 ht (lr9_a ht) ?_
    refine mG.iconst (v := 1) dX9_whose_33 rfl ?_
    obtain ⟨b1, h⟩ := ckp h
    refine mG.iald dX9_whose_34 (lk9_a ht) (ll9_a ht) (inbp b1) ?_
    refine mG.icmp_ge 130 dX9_whose_35 (by decide) (fun c8 => ?_) (fun c8 => ?_)
    · replace h := itp c8 h
      refine mG.aload_n 0 dX9_whose_130 rfl ?_
      refine mG.get (v := .ref (t + 1)) dX9_whose_131 mfX9_7 ht (lr9_a ht) ?_
      refine mG.iconst (v := 2) dX9_whose_134 rfl ?_
      refine mG.iload_n 2 dX9_whose_135 rfl ?_
      obtain ⟨b2, h⟩ := ckp h
      obtain ⟨S3, hS3, h⟩ := stpp h
      refine mG.iast dX9_whose_136 (lk9_a ht) (ll9_a ht) (inbp b2) hS3 ?_
      refine mG.iload_n 3 dX9_whose_137 rfl ?_
      obtain rfl := Option.some.inj h
      exact mG.iret dX9_whose_138 rfl ⟨rfl, rfl, rfl⟩
    · replace h := itn c8 h
      refine mG.aload_n 0 dX9_whose_38 rfl ?_
      refine mG.get (v := .ref (t + 1)) dX9_whose_39 mfX9_7 ht (lr9_a ht) ?_
      refine mG.iconst (v := 2) dX9_whose_42 rfl ?_
      refine mG.iload 5 dX9_whose_43 rfl ?_
      obtain ⟨b4, h⟩ := ckp h
      obtain ⟨S5, hS5, h⟩ := stpp h
      refine mG.iast dX9_whose_45 (lk9_a ht) (ll9_a ht) (inbp b4) hS5 ?_
      refine mG.aload_n 0 dX9_whose_46 rfl ?_
      obtain ⟨q6, hq6, h⟩ := bdp h
      refine mG.callV0 (as := []) (st := []) (S2 := q6) (r := none) dX9_whose_47 mvX9_setAside wk47_8 rfl ht rfl (by decide) (Nat.le_of_ble_eq_true rfl) (c_X9_setAside ht hq6) ?_
      refine mG.aload_n 0 dX9_whose_50 rfl ?_
      refine mG.iload_n 1 dX9_whose_51 rfl ?_
      obtain ⟨q7, hq7, h⟩ := bdp h
      refine mG.callV0 (as := [.int (a1)]) (st := []) (S2 := q7) (r := none) dX9_whose_52 mvX9_goOn wk47_12 rfl ht rfl (by decide) (Nat.le_of_ble_eq_true rfl) (c_X9_goOn ht hq7) ?_
      refine mG.iconst (v := 0) dX9_whose_55 rfl ?_
      refine mG.istore (lv2 := [(6, .int 0), (0, .ref (t)), (1, .int (a1)), (2, .int (v2)), (3, .int (v3)), (4, .int (v4)), (5, .int (v5))]) dX9_whose_56 (by decide) rfl ?_
      refine mG.iconst (v := 0) dX9_whose_58 rfl ?_
      refine mG.istore (lv2 := [(7, .int 0), (6, .int 0), (0, .ref (t)), (1, .int (a1)), (2, .int (v2)), (3, .int (v3)), (4, .int (v4)), (5, .int (v5))]) dX9_whose_59 (by decide) rfl ?_
      refine mG.sub (lv2 := [(0, .ref (t)), (1, .int (a1)), (2, .int (v2)), (3, .int (v3)), (4, .int (v4)), (5, .int (v5)), (6, .int 0), (7, .int 0)]) [2, 3, 4, 5, 6, 7, 1, 0] rfl ?_
      exact gX9_whose_61 ht (fun S v2 v3 v4 v5 h => by exact ih S v2 v3 v4 v5  h) F q7 v2 v3 v4 v5 (0 : Int32) (0 : Int32)  h
def f_X9_whose (F : Nat) (S : mS) (t : Nat) (a1 : Int32) : Option (mS × Int32) := if (f_X9_isIn S a1 (1 : Int32) (60 : Int32)) = true then (ck (inb (2 : Int32) 2308) (lX9_whose_27 F  t a1 F S (S.1 (t + 1) (2 : Int32).toNatClampNeg) (-1 : Int32) (-1 : Int32) (0 : Int32))) else (some (S, (-1 : Int32)))
set_option maxHeartbeats 4000000 in
set_option maxRecDepth 100000 in
theorem c_X9_whose {F : Nat} {S : mS} {t : Nat} {a1 : Int32} {R : mS × Int32} (ht : kd0 t = 9) (h : f_X9_whose F S t a1 = some R) : mCt μX9_whose 10 0 0 E0 S [.ref (t), .int (a1)] (mQe R.1 (some (.int R.2))) := by
  unfold f_X9_whose at h
  refine mCt.of (by decide) (Nat.le_of_ble_eq_true rfl) ?_
  intro x
  refine mG.iload_n 1 dX9_whose_0 rfl ?_
  refine mG.iconst (v := 1) dX9_whose_1 rfl ?_
  refine mG.bipush (v := 60) dX9_whose_2 (by decide) ?_
  refine mG.callS0 (as := [.int (a1), .int 1, .int 60]) (st := []) (S2 := S) (r := some (.int (bI (f_X9_isIn S a1 (1 : Int32) (60 : Int32))))) dX9_whose_4 mbX9_isIn wk7_13 wk7_12 rfl rfl (by decide) (Nat.le_of_ble_eq_true rfl) (c_X9_isIn  rfl) ?_
  refine mG.ifz_ne (b := f_X9_isIn S a1 (1 : Int32) (60 : Int32)) 12 dX9_whose_7 (by decide) (fun c2 => ?_) (fun c2 => ?_)
  · replace h := itp c2 h
    refine mG.aload_n 0 dX9_whose_12 rfl ?_
    refine mG.get (v := .ref (t + 1)) dX9_whose_13 mfX9_7 ht (lr9_a ht) ?_
    refine mG.iconst (v := 2) dX9_whose_16 rfl ?_
    obtain ⟨b1, h⟩ := ckp h
    refine mG.iald dX9_whose_17 (lk9_a ht) (ll9_a ht) (inbp b1) ?_
    refine mG.istore_n (lv2 := [(2, .int (S.1 (t + 1) (2 : Int32).toNatClampNeg)), (0, .ref (t)), (1, .int (a1))]) dX9_whose_18 rfl (by decide) rfl ?_
    refine mG.iconst (v := (-1)) dX9_whose_19 rfl ?_
    refine mG.istore_n (lv2 := [(3, .int (-1)), (2, .int (S.1 (t + 1) (2 : Int32).toNatClampNeg)), (0, .ref (t)), (1, .int (a1))]) dX9_whose_20 rfl (by decide) rfl ?_
    refine mG.iconst (v := (-1)) dX9_whose_21 rfl ?_
    refine mG.istore (lv2 := [(4, .int (-1)), (3, .int (-1)), (2, .int (S.1 (t + 1) (2 : Int32).toNatClampNeg)), (0, .ref (t)), (1, .int (a1))]) dX9_whose_22 (by decide) rfl ?_
    refine mG.iconst (v := 0) dX9_whose_24 rfl ?_
    refine mG.istore (lv2 := [(5, .int 0), (4, .int (-1)), (3, .int (-1)), (2, .int (S.1 (t + 1) (2 : Int32).toNatClampNeg)), (0, .ref (t)), (1, .int (a1))]) dX9_whose_25 (by decide) rfl ?_
    refine mG.sub (lv2 := [(0, .ref (t)), (1, .int (a1)), (2, .int (S.1 (t + 1) (2 : Int32).toNatClampNeg)), (3, .int (-1)), (4, .int (-1)), (5, .int 0)]) [4, 5, 3, 2, 1, 0] rfl ?_
    exact gX9_whose_27 ht  F S (S.1 (t + 1) (2 : Int32).toNatClampNeg) (-1 : Int32) (-1 : Int32) (0 : Int32)  h
  · replace h := itn c2 h
    refine mG.iconst (v := (-1)) dX9_whose_10 rfl ?_
    obtain rfl := Option.some.inj h
    exact mG.iret dX9_whose_11 rfl ⟨rfl, rfl, rfl⟩
theorem dX9_shutOn_0 : decode cX9_shutOn 0 = .ok (.iconst 0, 1) := by decide +kernel
theorem dX9_shutOn_1 : decode cX9_shutOn 1 = .ok (.istore_n 2, 1) := by decide +kernel
theorem dX9_shutOn_2 : decode cX9_shutOn 2 = .ok (.iconst 0, 1) := by decide +kernel
theorem dX9_shutOn_3 : decode cX9_shutOn 3 = .ok (.istore_n 3, 1) := by decide +kernel
theorem dX9_shutOn_4 : decode cX9_shutOn 4 = .ok (.iload_n 3, 1) := by decide +kernel
theorem dX9_shutOn_5 : decode cX9_shutOn 5 = .ok (.aload_n 0, 1) := by decide +kernel
theorem dX9_shutOn_6 : decode cX9_shutOn 6 = .ok (.getfield 7, 3) := by decide +kernel
theorem dX9_shutOn_9 : decode cX9_shutOn 9 = .ok (.iconst 0, 1) := by decide +kernel
theorem dX9_shutOn_10 : decode cX9_shutOn 10 = .ok (.iaload, 1) := by decide +kernel
theorem dX9_shutOn_11 : decode cX9_shutOn 11 = .ok (.if_icmp .ge 38, 3) := by decide +kernel
theorem dX9_shutOn_14 : decode cX9_shutOn 14 = .ok (.iload_n 2, 1) := by decide +kernel
theorem dX9_shutOn_15 : decode cX9_shutOn 15 = .ok (.aload_n 0, 1) := by decide +kernel
theorem dX9_shutOn_16 : decode cX9_shutOn 16 = .ok (.iload_n 3, 1) := by decide +kernel
theorem dX9_shutOn_17 : decode cX9_shutOn 17 = .ok (.invokevirtual 77, 3) := by decide +kernel
theorem dX9_shutOn_20 : decode cX9_shutOn 20 = .ok (.ifCond .eq 20, 3) := by decide +kernel
theorem dX9_shutOn_23 : decode cX9_shutOn 23 = .ok (.aload_n 0, 1) := by decide +kernel
theorem dX9_shutOn_24 : decode cX9_shutOn 24 = .ok (.iload_n 3, 1) := by decide +kernel
theorem dX9_shutOn_25 : decode cX9_shutOn 25 = .ok (.iconst 0, 1) := by decide +kernel
theorem dX9_shutOn_26 : decode cX9_shutOn 26 = .ok (.invokevirtual 73, 3) := by decide +kernel
theorem dX9_shutOn_29 : decode cX9_shutOn 29 = .ok (.iload_n 1, 1) := by decide +kernel
theorem dX9_shutOn_30 : decode cX9_shutOn 30 = .ok (.invokestatic 80, 3) := by decide +kernel
theorem dX9_shutOn_33 : decode cX9_shutOn 33 = .ok (.ifCond .eq 7, 3) := by decide +kernel
theorem dX9_shutOn_36 : decode cX9_shutOn 36 = .ok (.iconst 1, 1) := by decide +kernel
theorem dX9_shutOn_37 : decode cX9_shutOn 37 = .ok (.goto 4, 3) := by decide +kernel
theorem dX9_shutOn_40 : decode cX9_shutOn 40 = .ok (.iconst 0, 1) := by decide +kernel
theorem dX9_shutOn_41 : decode cX9_shutOn 41 = .ok (.iadd, 1) := by decide +kernel
theorem dX9_shutOn_42 : decode cX9_shutOn 42 = .ok (.istore_n 2, 1) := by decide +kernel
theorem dX9_shutOn_43 : decode cX9_shutOn 43 = .ok (.iinc 3 1, 3) := by decide +kernel
theorem dX9_shutOn_46 : decode cX9_shutOn 46 = .ok (.goto (-42), 3) := by decide +kernel
theorem dX9_shutOn_49 : decode cX9_shutOn 49 = .ok (.iload_n 2, 1) := by decide +kernel
theorem dX9_shutOn_50 : decode cX9_shutOn 50 = .ok (.ireturn, 1) := by decide +kernel
def lX9_shutOn_4 (F : Nat)  (t : Nat) (a1 : Int32) : Nat → mS → Int32 → Int32 → Option Int32
  | 0, _, _, _ => none
  | n + 1, S0, v2, v3 => ck (inb (0 : Int32) 2308) (if (S0.1 (t + 1) (0 : Int32).toNatClampNeg) ≤ v3 then (some v2) else (bd (f_X9_isHere F S0 t v3) fun q2 => if q2 = true then (bd (f_X9_get F S0 t v3 (0 : Int32)) fun q3 => if (f_X9_has S0 q3 a1) = true then (lX9_shutOn_4 F  t a1 n S0 (v2 + (1 : Int32)) (v3 + 1)) else (lX9_shutOn_4 F  t a1 n S0 (v2 + (0 : Int32)) (v3 + 1))) else (lX9_shutOn_4 F  t a1 n S0 (v2 + (0 : Int32)) (v3 + 1))))
set_option maxHeartbeats 4000000 in
set_option maxRecDepth 100000 in
theorem gX9_shutOn_4 {x : mX} {F : Nat} {t : Nat} {a1 : Int32} {S0 : mS}   {R : Int32} (ht : kd0 t = 9)  : ∀ (n : Nat) (v2 : Int32) (v3 : Int32), lX9_shutOn_4 F  t a1 n S0 v2 v3 = some R → mG x μX9_shutOn 4 0 0 (mQe S0 (some (.int R))) 0 0 E0 S0 4 [(0, .ref (t)), (1, .int (a1)), (2, .int (v2)), (3, .int (v3))] [] := by
  intro n
  induction n with
  | zero =>
    intro v2 v3 h
    cases h
  | succ n ih =>
    intro v2 v3 h
    unfold lX9_shutOn_4 at h
    refine mG.iload_n 3 dX9_shutOn_4 rfl ?_
    refine mG.aload_n 0 dX9_shutOn_5 rfl ?_
    refine mG.get (v := .ref (t + 1)) dX9_shutOn_6 mfX9_7 ht (lr9_a ht) ?_
    refine mG.iconst (v := 0) dX9_shutOn_9 rfl ?_
    obtain ⟨b1, h⟩ := ckp h
    refine mG.iald dX9_shutOn_10 (lk9_a ht) (ll9_a ht) (inbp b1) ?_
    refine mG.icmp_ge 49 dX9_shutOn_11 (by decide) (fun c6 => ?_) (fun c6 => ?_)
    · replace h := itp c6 h
      refine mG.iload_n 2 dX9_shutOn_49 rfl ?_
      obtain rfl := Option.some.inj h
      exact mG.iret dX9_shutOn_50 rfl ⟨rfl, rfl, rfl⟩
    · replace h := itn c6 h
      refine mG.iload_n 2 dX9_shutOn_14 rfl ?_
      refine mG.aload_n 0 dX9_shutOn_15 rfl ?_
      refine mG.iload_n 3 dX9_shutOn_16 rfl ?_
      obtain ⟨q2, hq2, h⟩ := bdp h
      refine mG.callV0 (as := [.int (v3)]) (st := [.int (v2)]) (S2 := S0) (r := some (.int (bI (q2)))) dX9_shutOn_17 mvX9_isHere wk32_20 rfl ht rfl (by decide) (Nat.le_of_ble_eq_true rfl) (c_X9_isHere ht hq2) ?_
      refine mG.ifz_eq (b := q2) 40 dX9_shutOn_20 (by decide) (fun c5 => ?_) (fun c5 => ?_)
      · replace h := itn c5 h
        refine mG.iconst (v := 0) dX9_shutOn_40 rfl ?_
        refine mG.iadd dX9_shutOn_41 ?_
        refine mG.istore_n (lv2 := [(2, .int (v2 + (0 : Int32))), (0, .ref (t)), (1, .int (a1)), (3, .int (v3))]) dX9_shutOn_42 rfl (by decide) rfl ?_
        refine mG.iinc 3 (u := v3 + 1) (lv2 := [(3, .int (v3 + 1)), (2, .int (v2 + (0 : Int32))), (0, .ref (t)), (1, .int (a1))]) dX9_shutOn_43 rfl rfl (by decide) rfl ?_
        refine mG.goto 4 dX9_shutOn_46 (by decide) ?_
        refine mG.sub (lv2 := [(0, .ref (t)), (1, .int (a1)), (2, .int (v2 + (0 : Int32))), (3, .int (v3 + 1))]) [2, 3, 1, 0] rfl ?_
        exact ih  (v2 + (0 : Int32)) (v3 + 1)  h
      · replace h := itp c5 h
        refine mG.aload_n 0 dX9_shutOn_23 rfl ?_
        refine mG.iload_n 3 dX9_shutOn_24 rfl ?_
        refine mG.iconst (v := 0) dX9_shutOn_25 rfl ?_
        obtain ⟨q3, hq3, h⟩ := bdp h
        refine mG.callV0 (as := [.int (v3), .int 0]) (st := [.int (v2)]) (S2 := S0) (r := some (.int (q3))) dX9_shutOn_26 mvX9_get wk7_23 rfl ht rfl (by decide) (Nat.le_of_ble_eq_true rfl) (c_X9_get ht hq3) ?_
        refine mG.iload_n 1 dX9_shutOn_29 rfl ?_
        refine mG.callS0 (as := [.int (q3), .int (a1)]) (st := [.int (v2)]) (S2 := S0) (r := some (.int (bI (f_X9_has S0 q3 a1)))) dX9_shutOn_30 mbX9_has wk22_12 wk22_11 rfl rfl (by decide) (Nat.le_of_ble_eq_true rfl) (c_X9_has  rfl) ?_
        refine mG.ifz_eq (b := f_X9_has S0 q3 a1) 40 dX9_shutOn_33 (by decide) (fun c4 => ?_) (fun c4 => ?_)
        · replace h := itn c4 h
          refine mG.iconst (v := 0) dX9_shutOn_40 rfl ?_
          refine mG.iadd dX9_shutOn_41 ?_
          refine mG.istore_n (lv2 := [(2, .int (v2 + (0 : Int32))), (0, .ref (t)), (1, .int (a1)), (3, .int (v3))]) dX9_shutOn_42 rfl (by decide) rfl ?_
          refine mG.iinc 3 (u := v3 + 1) (lv2 := [(3, .int (v3 + 1)), (2, .int (v2 + (0 : Int32))), (0, .ref (t)), (1, .int (a1))]) dX9_shutOn_43 rfl rfl (by decide) rfl ?_
          refine mG.goto 4 dX9_shutOn_46 (by decide) ?_
          refine mG.sub (lv2 := [(0, .ref (t)), (1, .int (a1)), (2, .int (v2 + (0 : Int32))), (3, .int (v3 + 1))]) [2, 3, 1, 0] rfl ?_
          exact ih  (v2 + (0 : Int32)) (v3 + 1)  h
        · replace h := itp c4 h
          refine mG.iconst (v := 1) dX9_shutOn_36 rfl ?_
          refine mG.goto 41 dX9_shutOn_37 (by decide) ?_
          refine mG.iadd dX9_shutOn_41 ?_
          refine mG.istore_n (lv2 := [(2, .int (v2 + (1 : Int32))), (0, .ref (t)), (1, .int (a1)), (3, .int (v3))]) dX9_shutOn_42 rfl (by decide) rfl ?_
          refine mG.iinc 3 (u := v3 + 1) (lv2 := [(3, .int (v3 + 1)), (2, .int (v2 + (1 : Int32))), (0, .ref (t)), (1, .int (a1))]) dX9_shutOn_43 rfl rfl (by decide) rfl ?_
          refine mG.goto 4 dX9_shutOn_46 (by decide) ?_
          refine mG.sub (lv2 := [(0, .ref (t)), (1, .int (a1)), (2, .int (v2 + (1 : Int32))), (3, .int (v3 + 1))]) [2, 3, 1, 0] rfl ?_
          exact ih  (v2 + (1 : Int32)) (v3 + 1)  h
def f_X9_shutOn (F : Nat) (S0 : mS) (t : Nat) (a1 : Int32) : Option Int32 := lX9_shutOn_4 F  t a1 F S0 (0 : Int32) (0 : Int32)
set_option maxHeartbeats 4000000 in
set_option maxRecDepth 100000 in
theorem c_X9_shutOn {F : Nat} {S0 : mS} {t : Nat} {a1 : Int32} {R : Int32} (ht : kd0 t = 9) (h : f_X9_shutOn F S0 t a1 = some R) : mCt μX9_shutOn 4 0 0 E0 S0 [.ref (t), .int (a1)] (mQe S0 (some (.int R))) := by
  unfold f_X9_shutOn at h
  refine mCt.of (by decide) (Nat.le_of_ble_eq_true rfl) ?_
  intro x
  refine mG.iconst (v := 0) dX9_shutOn_0 rfl ?_
  refine mG.istore_n (lv2 := [(2, .int 0), (0, .ref (t)), (1, .int (a1))]) dX9_shutOn_1 rfl (by decide) rfl ?_
  refine mG.iconst (v := 0) dX9_shutOn_2 rfl ?_
  refine mG.istore_n (lv2 := [(3, .int 0), (2, .int 0), (0, .ref (t)), (1, .int (a1))]) dX9_shutOn_3 rfl (by decide) rfl ?_
  refine mG.sub (lv2 := [(0, .ref (t)), (1, .int (a1)), (2, .int 0), (3, .int 0)]) [2, 3, 1, 0] rfl ?_
  exact gX9_shutOn_4 ht  F  (0 : Int32) (0 : Int32)  h
theorem dX9_indoors_0 : decode cX9_indoors 0 = .ok (.iload_n 1, 1) := by decide +kernel
theorem dX9_indoors_1 : decode cX9_indoors 1 = .ok (.iconst 1, 1) := by decide +kernel
theorem dX9_indoors_2 : decode cX9_indoors 2 = .ok (.bipush 7, 2) := by decide +kernel
theorem dX9_indoors_4 : decode cX9_indoors 4 = .ok (.invokestatic 65, 3) := by decide +kernel
theorem dX9_indoors_7 : decode cX9_indoors 7 = .ok (.ifCond .ne 5, 3) := by decide +kernel
theorem dX9_indoors_10 : decode cX9_indoors 10 = .ok (.iconst (-1), 1) := by decide +kernel
theorem dX9_indoors_11 : decode cX9_indoors 11 = .ok (.ireturn, 1) := by decide +kernel
theorem dX9_indoors_12 : decode cX9_indoors 12 = .ok (.iconst 0, 1) := by decide +kernel
theorem dX9_indoors_13 : decode cX9_indoors 13 = .ok (.istore_n 2, 1) := by decide +kernel
theorem dX9_indoors_14 : decode cX9_indoors 14 = .ok (.iload_n 2, 1) := by decide +kernel
theorem dX9_indoors_15 : decode cX9_indoors 15 = .ok (.bipush 60, 2) := by decide +kernel
theorem dX9_indoors_17 : decode cX9_indoors 17 = .ok (.if_icmp .gt 31, 3) := by decide +kernel
theorem dX9_indoors_20 : decode cX9_indoors 20 = .ok (.aload_n 0, 1) := by decide +kernel
theorem dX9_indoors_21 : decode cX9_indoors 21 = .ok (.aload_n 0, 1) := by decide +kernel
theorem dX9_indoors_22 : decode cX9_indoors 22 = .ok (.getfield 7, 3) := by decide +kernel
theorem dX9_indoors_25 : decode cX9_indoors 25 = .ok (.bipush 8, 2) := by decide +kernel
theorem dX9_indoors_27 : decode cX9_indoors 27 = .ok (.iaload, 1) := by decide +kernel
theorem dX9_indoors_28 : decode cX9_indoors 28 = .ok (.iload_n 2, 1) := by decide +kernel
theorem dX9_indoors_29 : decode cX9_indoors 29 = .ok (.iadd, 1) := by decide +kernel
theorem dX9_indoors_30 : decode cX9_indoors 30 = .ok (.bipush 20, 2) := by decide +kernel
theorem dX9_indoors_32 : decode cX9_indoors 32 = .ok (.irem, 1) := by decide +kernel
theorem dX9_indoors_33 : decode cX9_indoors 33 = .ok (.invokevirtual 405, 3) := by decide +kernel
theorem dX9_indoors_36 : decode cX9_indoors 36 = .ok (.iload_n 1, 1) := by decide +kernel
theorem dX9_indoors_37 : decode cX9_indoors 37 = .ok (.if_icmp .lt 5, 3) := by decide +kernel
theorem dX9_indoors_40 : decode cX9_indoors 40 = .ok (.iload_n 2, 1) := by decide +kernel
theorem dX9_indoors_41 : decode cX9_indoors 41 = .ok (.ireturn, 1) := by decide +kernel
theorem dX9_indoors_42 : decode cX9_indoors 42 = .ok (.iinc 2 1, 3) := by decide +kernel
theorem dX9_indoors_45 : decode cX9_indoors 45 = .ok (.goto (-31), 3) := by decide +kernel
theorem dX9_indoors_48 : decode cX9_indoors 48 = .ok (.iconst (-1), 1) := by decide +kernel
theorem dX9_indoors_49 : decode cX9_indoors 49 = .ok (.ireturn, 1) := by decide +kernel
def lX9_indoors_14 (F : Nat)  (t : Nat) (a1 : Int32) : Nat → mS → Int32 → Option Int32
  | 0, _, _ => none
  | n + 1, S0, v2 => if (60 : Int32) < v2 then (some (-1 : Int32)) else (ck (inb (8 : Int32) 2308) (bd (f_X9_shutOn F S0 t (((S0.1 (t + 1) (8 : Int32).toNatClampNeg) + v2) - ((S0.1 (t + 1) (8 : Int32).toNatClampNeg) + v2) / (20 : Int32) * (20 : Int32))) fun q2 => if q2 < a1 then (lX9_indoors_14 F  t a1 n S0 (v2 + 1)) else (some v2)))
set_option maxHeartbeats 4000000 in
set_option maxRecDepth 100000 in
theorem gX9_indoors_14 {x : mX} {F : Nat} {t : Nat} {a1 : Int32} {S0 : mS}   {R : Int32} (ht : kd0 t = 9)  : ∀ (n : Nat) (v2 : Int32), lX9_indoors_14 F  t a1 n S0 v2 = some R → mG x μX9_indoors 5 0 0 (mQe S0 (some (.int R))) 0 0 E0 S0 14 [(0, .ref (t)), (1, .int (a1)), (2, .int (v2))] [] := by
  intro n
  induction n with
  | zero =>
    intro v2 h
    cases h
  | succ n ih =>
    intro v2 h
    unfold lX9_indoors_14 at h
    refine mG.iload_n 2 dX9_indoors_14 rfl ?_
    refine mG.bipush (v := 60) dX9_indoors_15 (by decide) ?_
    refine mG.icmp_gt 48 dX9_indoors_17 (by decide) (fun c4 => ?_) (fun c4 => ?_)
    · replace h := itp c4 h
      refine mG.iconst (v := (-1)) dX9_indoors_48 rfl ?_
      obtain rfl := Option.some.inj h
      exact mG.iret dX9_indoors_49 rfl ⟨rfl, rfl, rfl⟩
    · replace h := itn c4 h
      refine mG.aload_n 0 dX9_indoors_20 rfl ?_
      refine mG.aload_n 0 dX9_indoors_21 rfl ?_
      refine mG.get (v := .ref (t + 1)) dX9_indoors_22 mfX9_7 ht (lr9_a ht) ?_
      refine mG.bipush (v := 8) dX9_indoors_25 (by decide) ?_
      obtain ⟨b1, h⟩ := ckp h
      refine mG.iald dX9_indoors_27 (lk9_a ht) (ll9_a ht) (inbp b1) ?_
      refine mG.iload_n 2 dX9_indoors_28 rfl ?_
      refine mG.iadd dX9_indoors_29 ?_
      refine mG.bipush (v := 20) dX9_indoors_30 (by decide) ?_
      refine mG.irem dX9_indoors_32 (by decide) ?_
      obtain ⟨q2, hq2, h⟩ := bdp h
      refine mG.callV0 (as := [.int (((S0.1 (t + 1) (8 : Int32).toNatClampNeg) + v2) - ((S0.1 (t + 1) (8 : Int32).toNatClampNeg) + v2) / (20 : Int32) * (20 : Int32))]) (st := []) (S2 := S0) (r := some (.int (q2))) dX9_indoors_33 mvX9_shutOn wk48_8 rfl ht rfl (by decide) (Nat.le_of_ble_eq_true rfl) (c_X9_shutOn ht hq2) ?_
      refine mG.iload_n 1 dX9_indoors_36 rfl ?_
      refine mG.icmp_lt 42 dX9_indoors_37 (by decide) (fun c3 => ?_) (fun c3 => ?_)
      · replace h := itp c3 h
        refine mG.iinc 2 (u := v2 + 1) (lv2 := [(2, .int (v2 + 1)), (0, .ref (t)), (1, .int (a1))]) dX9_indoors_42 rfl rfl (by decide) rfl ?_
        refine mG.goto 14 dX9_indoors_45 (by decide) ?_
        refine mG.sub (lv2 := [(0, .ref (t)), (1, .int (a1)), (2, .int (v2 + 1))]) [1, 2, 0] rfl ?_
        exact ih  (v2 + 1)  h
      · replace h := itn c3 h
        refine mG.iload_n 2 dX9_indoors_40 rfl ?_
        obtain rfl := Option.some.inj h
        exact mG.iret dX9_indoors_41 rfl ⟨rfl, rfl, rfl⟩
def f_X9_indoors (F : Nat) (S0 : mS) (t : Nat) (a1 : Int32) : Option Int32 := if (f_X9_isIn S0 a1 (1 : Int32) (7 : Int32)) = true then (lX9_indoors_14 F  t a1 F S0 (0 : Int32)) else (some (-1 : Int32))
set_option maxHeartbeats 4000000 in
set_option maxRecDepth 100000 in
theorem c_X9_indoors {F : Nat} {S0 : mS} {t : Nat} {a1 : Int32} {R : Int32} (ht : kd0 t = 9) (h : f_X9_indoors F S0 t a1 = some R) : mCt μX9_indoors 5 0 0 E0 S0 [.ref (t), .int (a1)] (mQe S0 (some (.int R))) := by
  unfold f_X9_indoors at h
  refine mCt.of (by decide) (Nat.le_of_ble_eq_true rfl) ?_
  intro x
  refine mG.iload_n 1 dX9_indoors_0 rfl ?_
  refine mG.iconst (v := 1) dX9_indoors_1 rfl ?_
  refine mG.bipush (v := 7) dX9_indoors_2 (by decide) ?_
  refine mG.callS0 (as := [.int (a1), .int 1, .int 7]) (st := []) (S2 := S0) (r := some (.int (bI (f_X9_isIn S0 a1 (1 : Int32) (7 : Int32))))) dX9_indoors_4 mbX9_isIn wk7_13 wk7_12 rfl rfl (by decide) (Nat.le_of_ble_eq_true rfl) (c_X9_isIn  rfl) ?_
  refine mG.ifz_ne (b := f_X9_isIn S0 a1 (1 : Int32) (7 : Int32)) 12 dX9_indoors_7 (by decide) (fun c1 => ?_) (fun c1 => ?_)
  · replace h := itp c1 h
    refine mG.iconst (v := 0) dX9_indoors_12 rfl ?_
    refine mG.istore_n (lv2 := [(2, .int 0), (0, .ref (t)), (1, .int (a1))]) dX9_indoors_13 rfl (by decide) rfl ?_
    refine mG.sub (lv2 := [(0, .ref (t)), (1, .int (a1)), (2, .int 0)]) [1, 2, 0] rfl ?_
    exact gX9_indoors_14 ht  F  (0 : Int32)  h
  · replace h := itn c1 h
    refine mG.iconst (v := (-1)) dX9_indoors_10 rfl ?_
    obtain rfl := Option.some.inj h
    exact mG.iret dX9_indoors_11 rfl ⟨rfl, rfl, rfl⟩
theorem dX9_crowded_0 : decode cX9_crowded 0 = .ok (.iconst 0, 1) := by decide +kernel
theorem dX9_crowded_1 : decode cX9_crowded 1 = .ok (.istore_n 2, 1) := by decide +kernel
theorem dX9_crowded_2 : decode cX9_crowded 2 = .ok (.iconst 1, 1) := by decide +kernel
theorem dX9_crowded_3 : decode cX9_crowded 3 = .ok (.istore_n 3, 1) := by decide +kernel
theorem dX9_crowded_4 : decode cX9_crowded 4 = .ok (.iload_n 3, 1) := by decide +kernel
theorem dX9_crowded_5 : decode cX9_crowded 5 = .ok (.bipush 20, 2) := by decide +kernel
theorem dX9_crowded_7 : decode cX9_crowded 7 = .ok (.if_icmp .ge 24, 3) := by decide +kernel
theorem dX9_crowded_10 : decode cX9_crowded 10 = .ok (.aload_n 0, 1) := by decide +kernel
theorem dX9_crowded_11 : decode cX9_crowded 11 = .ok (.iload_n 3, 1) := by decide +kernel
theorem dX9_crowded_12 : decode cX9_crowded 12 = .ok (.invokevirtual 405, 3) := by decide +kernel
theorem dX9_crowded_15 : decode cX9_crowded 15 = .ok (.aload_n 0, 1) := by decide +kernel
theorem dX9_crowded_16 : decode cX9_crowded 16 = .ok (.iload_n 2, 1) := by decide +kernel
theorem dX9_crowded_17 : decode cX9_crowded 17 = .ok (.invokevirtual 405, 3) := by decide +kernel
theorem dX9_crowded_20 : decode cX9_crowded 20 = .ok (.if_icmp .le 5, 3) := by decide +kernel
theorem dX9_crowded_23 : decode cX9_crowded 23 = .ok (.iload_n 3, 1) := by decide +kernel
theorem dX9_crowded_24 : decode cX9_crowded 24 = .ok (.istore_n 2, 1) := by decide +kernel
theorem dX9_crowded_25 : decode cX9_crowded 25 = .ok (.iinc 3 1, 3) := by decide +kernel
theorem dX9_crowded_28 : decode cX9_crowded 28 = .ok (.goto (-24), 3) := by decide +kernel
theorem dX9_crowded_31 : decode cX9_crowded 31 = .ok (.iload_n 1, 1) := by decide +kernel
theorem dX9_crowded_32 : decode cX9_crowded 32 = .ok (.ifCond .eq 11, 3) := by decide +kernel
theorem dX9_crowded_35 : decode cX9_crowded 35 = .ok (.aload_n 0, 1) := by decide +kernel
theorem dX9_crowded_36 : decode cX9_crowded 36 = .ok (.iload_n 2, 1) := by decide +kernel
theorem dX9_crowded_37 : decode cX9_crowded 37 = .ok (.invokevirtual 405, 3) := by decide +kernel
theorem dX9_crowded_40 : decode cX9_crowded 40 = .ok (.goto 4, 3) := by decide +kernel
theorem dX9_crowded_43 : decode cX9_crowded 43 = .ok (.iload_n 2, 1) := by decide +kernel
theorem dX9_crowded_44 : decode cX9_crowded 44 = .ok (.ireturn, 1) := by decide +kernel
def lX9_crowded_4 (F : Nat)  (t : Nat) (a1 : Int32) : Nat → mS → Int32 → Int32 → Option Int32
  | 0, _, _, _ => none
  | n + 1, S0, v2, v3 => if (20 : Int32) ≤ v3 then (if a1 = 0 then (some v2) else (bd (f_X9_shutOn F S0 t v2) fun q1 => some q1)) else (bd (f_X9_shutOn F S0 t v3) fun q3 => bd (f_X9_shutOn F S0 t v2) fun q4 => if q3 ≤ q4 then (lX9_crowded_4 F  t a1 n S0 v2 (v3 + 1)) else (lX9_crowded_4 F  t a1 n S0 v3 (v3 + 1)))
set_option maxHeartbeats 4000000 in
set_option maxRecDepth 100000 in
theorem gX9_crowded_4 {x : mX} {F : Nat} {t : Nat} {a1 : Int32} {S0 : mS}   {R : Int32} (ht : kd0 t = 9)  : ∀ (n : Nat) (v2 : Int32) (v3 : Int32), lX9_crowded_4 F  t a1 n S0 v2 v3 = some R → mG x μX9_crowded 5 0 0 (mQe S0 (some (.int R))) 0 0 E0 S0 4 [(0, .ref (t)), (1, .int (a1)), (2, .int (v2)), (3, .int (v3))] [] := by
  intro n
  induction n with
  | zero =>
    intro v2 v3 h
    cases h
  | succ n ih =>
    intro v2 v3 h
    unfold lX9_crowded_4 at h
    refine mG.iload_n 3 dX9_crowded_4 rfl ?_
    refine mG.bipush (v := 20) dX9_crowded_5 (by decide) ?_
    refine mG.icmp_ge 31 dX9_crowded_7 (by decide) (fun c6 => ?_) (fun c6 => ?_)
    · replace h := itp c6 h
      refine mG.iload_n 1 dX9_crowded_31 rfl ?_
      refine mG.if_eq 43 dX9_crowded_32 (by decide) (fun c2 => ?_) (fun c2 => ?_)
      · replace h := itp c2 h
        refine mG.iload_n 2 dX9_crowded_43 rfl ?_
        obtain rfl := Option.some.inj h
        exact mG.iret dX9_crowded_44 rfl ⟨rfl, rfl, rfl⟩
      · replace h := itn c2 h
        refine mG.aload_n 0 dX9_crowded_35 rfl ?_
        refine mG.iload_n 2 dX9_crowded_36 rfl ?_
        obtain ⟨q1, hq1, h⟩ := bdp h
        refine mG.callV0 (as := [.int (v2)]) (st := []) (S2 := S0) (r := some (.int (q1))) dX9_crowded_37 mvX9_shutOn wk48_8 rfl ht rfl (by decide) (Nat.le_of_ble_eq_true rfl) (c_X9_shutOn ht hq1) ?_
        refine mG.goto 44 dX9_crowded_40 (by decide) ?_
        obtain rfl := Option.some.inj h
        exact mG.iret dX9_crowded_44 rfl ⟨rfl, rfl, rfl⟩
    · replace h := itn c6 h
      refine mG.aload_n 0 dX9_crowded_10 rfl ?_
      refine mG.iload_n 3 dX9_crowded_11 rfl ?_
      obtain ⟨q3, hq3, h⟩ := bdp h
      refine mG.callV0 (as := [.int (v3)]) (st := []) (S2 := S0) (r := some (.int (q3))) dX9_crowded_12 mvX9_shutOn wk48_8 rfl ht rfl (by decide) (Nat.le_of_ble_eq_true rfl) (c_X9_shutOn ht hq3) ?_
      refine mG.aload_n 0 dX9_crowded_15 rfl ?_
      refine mG.iload_n 2 dX9_crowded_16 rfl ?_
      obtain ⟨q4, hq4, h⟩ := bdp h
      refine mG.callV0 (as := [.int (v2)]) (st := [.int (q3)]) (S2 := S0) (r := some (.int (q4))) dX9_crowded_17 mvX9_shutOn wk48_8 rfl ht rfl (by decide) (Nat.le_of_ble_eq_true rfl) (c_X9_shutOn ht hq4) ?_
      refine mG.icmp_le 25 dX9_crowded_20 (by decide) (fun c5 => ?_) (fun c5 => ?_)
      · replace h := itp c5 h
        refine mG.iinc 3 (u := v3 + 1) (lv2 := [(3, .int (v3 + 1)), (0, .ref (t)), (1, .int (a1)), (2, .int (v2))]) dX9_crowded_25 rfl rfl (by decide) rfl ?_
        refine mG.goto 4 dX9_crowded_28 (by decide) ?_
        refine mG.sub (lv2 := [(0, .ref (t)), (1, .int (a1)), (2, .int (v2)), (3, .int (v3 + 1))]) [1, 2, 3, 0] rfl ?_
        exact ih  v2 (v3 + 1)  h
      · replace h := itn c5 h
        refine mG.iload_n 3 dX9_crowded_23 rfl ?_
        refine mG.istore_n (lv2 := [(2, .int (v3)), (0, .ref (t)), (1, .int (a1)), (3, .int (v3))]) dX9_crowded_24 rfl (by decide) rfl ?_
        refine mG.iinc 3 (u := v3 + 1) (lv2 := [(3, .int (v3 + 1)), (2, .int (v3)), (0, .ref (t)), (1, .int (a1))]) dX9_crowded_25 rfl rfl (by decide) rfl ?_
        refine mG.goto 4 dX9_crowded_28 (by decide) ?_
        refine mG.sub (lv2 := [(0, .ref (t)), (1, .int (a1)), (2, .int (v3)), (3, .int (v3 + 1))]) [2, 3, 1, 0] rfl ?_
        exact ih  v3 (v3 + 1)  h
def f_X9_crowded (F : Nat) (S0 : mS) (t : Nat) (a1 : Int32) : Option Int32 := lX9_crowded_4 F  t a1 F S0 (0 : Int32) (1 : Int32)
set_option maxHeartbeats 4000000 in
set_option maxRecDepth 100000 in
theorem c_X9_crowded {F : Nat} {S0 : mS} {t : Nat} {a1 : Int32} {R : Int32} (ht : kd0 t = 9) (h : f_X9_crowded F S0 t a1 = some R) : mCt μX9_crowded 5 0 0 E0 S0 [.ref (t), .int (a1)] (mQe S0 (some (.int R))) := by
  unfold f_X9_crowded at h
  refine mCt.of (by decide) (Nat.le_of_ble_eq_true rfl) ?_
  intro x
  refine mG.iconst (v := 0) dX9_crowded_0 rfl ?_
  refine mG.istore_n (lv2 := [(2, .int 0), (0, .ref (t)), (1, .int (a1))]) dX9_crowded_1 rfl (by decide) rfl ?_
  refine mG.iconst (v := 1) dX9_crowded_2 rfl ?_
  refine mG.istore_n (lv2 := [(3, .int 1), (2, .int 0), (0, .ref (t)), (1, .int (a1))]) dX9_crowded_3 rfl (by decide) rfl ?_
  refine mG.sub (lv2 := [(0, .ref (t)), (1, .int (a1)), (2, .int 0), (3, .int 1)]) [2, 3, 1, 0] rfl ?_
  exact gX9_crowded_4 ht  F  (0 : Int32) (1 : Int32)  h
theorem dX9_friendsOn_0 : decode cX9_friendsOn 0 = .ok (.iconst 0, 1) := by decide +kernel
theorem dX9_friendsOn_1 : decode cX9_friendsOn 1 = .ok (.istore_n 2, 1) := by decide +kernel
theorem dX9_friendsOn_2 : decode cX9_friendsOn 2 = .ok (.iconst 0, 1) := by decide +kernel
theorem dX9_friendsOn_3 : decode cX9_friendsOn 3 = .ok (.istore_n 3, 1) := by decide +kernel
theorem dX9_friendsOn_4 : decode cX9_friendsOn 4 = .ok (.iload_n 3, 1) := by decide +kernel
theorem dX9_friendsOn_5 : decode cX9_friendsOn 5 = .ok (.aload_n 0, 1) := by decide +kernel
theorem dX9_friendsOn_6 : decode cX9_friendsOn 6 = .ok (.getfield 7, 3) := by decide +kernel
theorem dX9_friendsOn_9 : decode cX9_friendsOn 9 = .ok (.iconst 0, 1) := by decide +kernel
theorem dX9_friendsOn_10 : decode cX9_friendsOn 10 = .ok (.iaload, 1) := by decide +kernel
theorem dX9_friendsOn_11 : decode cX9_friendsOn 11 = .ok (.if_icmp .ge 31, 3) := by decide +kernel
theorem dX9_friendsOn_14 : decode cX9_friendsOn 14 = .ok (.iload_n 2, 1) := by decide +kernel
theorem dX9_friendsOn_15 : decode cX9_friendsOn 15 = .ok (.aload_n 0, 1) := by decide +kernel
theorem dX9_friendsOn_16 : decode cX9_friendsOn 16 = .ok (.iload_n 3, 1) := by decide +kernel
theorem dX9_friendsOn_17 : decode cX9_friendsOn 17 = .ok (.iload_n 1, 1) := by decide +kernel
theorem dX9_friendsOn_18 : decode cX9_friendsOn 18 = .ok (.invokevirtual 302, 3) := by decide +kernel
theorem dX9_friendsOn_21 : decode cX9_friendsOn 21 = .ok (.ifCond .eq 12, 3) := by decide +kernel
theorem dX9_friendsOn_24 : decode cX9_friendsOn 24 = .ok (.aload_n 0, 1) := by decide +kernel
theorem dX9_friendsOn_25 : decode cX9_friendsOn 25 = .ok (.iload_n 3, 1) := by decide +kernel
theorem dX9_friendsOn_26 : decode cX9_friendsOn 26 = .ok (.iconst 2, 1) := by decide +kernel
theorem dX9_friendsOn_27 : decode cX9_friendsOn 27 = .ok (.invokevirtual 73, 3) := by decide +kernel
theorem dX9_friendsOn_30 : decode cX9_friendsOn 30 = .ok (.goto 4, 3) := by decide +kernel
theorem dX9_friendsOn_33 : decode cX9_friendsOn 33 = .ok (.iconst 0, 1) := by decide +kernel
theorem dX9_friendsOn_34 : decode cX9_friendsOn 34 = .ok (.iadd, 1) := by decide +kernel
theorem dX9_friendsOn_35 : decode cX9_friendsOn 35 = .ok (.istore_n 2, 1) := by decide +kernel
theorem dX9_friendsOn_36 : decode cX9_friendsOn 36 = .ok (.iinc 3 1, 3) := by decide +kernel
theorem dX9_friendsOn_39 : decode cX9_friendsOn 39 = .ok (.goto (-35), 3) := by decide +kernel
theorem dX9_friendsOn_42 : decode cX9_friendsOn 42 = .ok (.iload_n 2, 1) := by decide +kernel
theorem dX9_friendsOn_43 : decode cX9_friendsOn 43 = .ok (.ireturn, 1) := by decide +kernel
def lX9_friendsOn_4 (F : Nat)  (t : Nat) (a1 : Int32) : Nat → mS → Int32 → Int32 → Option Int32
  | 0, _, _, _ => none
  | n + 1, S0, v2, v3 => ck (inb (0 : Int32) 2308) (if (S0.1 (t + 1) (0 : Int32).toNatClampNeg) ≤ v3 then (some v2) else (bd (f_X9_isOpen F S0 t v3 a1) fun q2 => if q2 = true then (bd (f_X9_get F S0 t v3 (2 : Int32)) fun q3 => lX9_friendsOn_4 F  t a1 n S0 (v2 + q3) (v3 + 1)) else (lX9_friendsOn_4 F  t a1 n S0 (v2 + (0 : Int32)) (v3 + 1))))
set_option maxHeartbeats 4000000 in
set_option maxRecDepth 100000 in
theorem gX9_friendsOn_4 {x : mX} {F : Nat} {t : Nat} {a1 : Int32} {S0 : mS}   {R : Int32} (ht : kd0 t = 9)  : ∀ (n : Nat) (v2 : Int32) (v3 : Int32), lX9_friendsOn_4 F  t a1 n S0 v2 v3 = some R → mG x μX9_friendsOn 5 0 0 (mQe S0 (some (.int R))) 0 0 E0 S0 4 [(0, .ref (t)), (1, .int (a1)), (2, .int (v2)), (3, .int (v3))] [] := by
  intro n
  induction n with
  | zero =>
    intro v2 v3 h
    cases h
  | succ n ih =>
    intro v2 v3 h
    unfold lX9_friendsOn_4 at h
    refine mG.iload_n 3 dX9_friendsOn_4 rfl ?_
    refine mG.aload_n 0 dX9_friendsOn_5 rfl ?_
    refine mG.get (v := .ref (t + 1)) dX9_friendsOn_6 mfX9_7 ht (lr9_a ht) ?_
    refine mG.iconst (v := 0) dX9_friendsOn_9 rfl ?_
    obtain ⟨b1, h⟩ := ckp h
    refine mG.iald dX9_friendsOn_10 (lk9_a ht) (ll9_a ht) (inbp b1) ?_
    refine mG.icmp_ge 42 dX9_friendsOn_11 (by decide) (fun c5 => ?_) (fun c5 => ?_)
    · replace h := itp c5 h
      refine mG.iload_n 2 dX9_friendsOn_42 rfl ?_
      obtain rfl := Option.some.inj h
      exact mG.iret dX9_friendsOn_43 rfl ⟨rfl, rfl, rfl⟩
    · replace h := itn c5 h
      refine mG.iload_n 2 dX9_friendsOn_14 rfl ?_
      refine mG.aload_n 0 dX9_friendsOn_15 rfl ?_
      refine mG.iload_n 3 dX9_friendsOn_16 rfl ?_
      refine mG.iload_n 1 dX9_friendsOn_17 rfl ?_
      obtain ⟨q2, hq2, h⟩ := bdp h
      refine mG.callV0 (as := [.int (v3), .int (a1)]) (st := [.int (v2)]) (S2 := S0) (r := some (.int (bI (q2)))) dX9_friendsOn_18 mvX9_isOpen wk34_15 rfl ht rfl (by decide) (Nat.le_of_ble_eq_true rfl) (c_X9_isOpen ht hq2) ?_
      refine mG.ifz_eq (b := q2) 33 dX9_friendsOn_21 (by decide) (fun c4 => ?_) (fun c4 => ?_)
      · replace h := itn c4 h
        refine mG.iconst (v := 0) dX9_friendsOn_33 rfl ?_
        refine mG.iadd dX9_friendsOn_34 ?_
        refine mG.istore_n (lv2 := [(2, .int (v2 + (0 : Int32))), (0, .ref (t)), (1, .int (a1)), (3, .int (v3))]) dX9_friendsOn_35 rfl (by decide) rfl ?_
        refine mG.iinc 3 (u := v3 + 1) (lv2 := [(3, .int (v3 + 1)), (2, .int (v2 + (0 : Int32))), (0, .ref (t)), (1, .int (a1))]) dX9_friendsOn_36 rfl rfl (by decide) rfl ?_
        refine mG.goto 4 dX9_friendsOn_39 (by decide) ?_
        refine mG.sub (lv2 := [(0, .ref (t)), (1, .int (a1)), (2, .int (v2 + (0 : Int32))), (3, .int (v3 + 1))]) [2, 3, 1, 0] rfl ?_
        exact ih  (v2 + (0 : Int32)) (v3 + 1)  h
      · replace h := itp c4 h
        refine mG.aload_n 0 dX9_friendsOn_24 rfl ?_
        refine mG.iload_n 3 dX9_friendsOn_25 rfl ?_
        refine mG.iconst (v := 2) dX9_friendsOn_26 rfl ?_
        obtain ⟨q3, hq3, h⟩ := bdp h
        refine mG.callV0 (as := [.int (v3), .int 2]) (st := [.int (v2)]) (S2 := S0) (r := some (.int (q3))) dX9_friendsOn_27 mvX9_get wk7_23 rfl ht rfl (by decide) (Nat.le_of_ble_eq_true rfl) (c_X9_get ht hq3) ?_
        refine mG.goto 34 dX9_friendsOn_30 (by decide) ?_
        refine mG.iadd dX9_friendsOn_34 ?_
        refine mG.istore_n (lv2 := [(2, .int (v2 + q3)), (0, .ref (t)), (1, .int (a1)), (3, .int (v3))]) dX9_friendsOn_35 rfl (by decide) rfl ?_
        refine mG.iinc 3 (u := v3 + 1) (lv2 := [(3, .int (v3 + 1)), (2, .int (v2 + q3)), (0, .ref (t)), (1, .int (a1))]) dX9_friendsOn_36 rfl rfl (by decide) rfl ?_
        refine mG.goto 4 dX9_friendsOn_39 (by decide) ?_
        refine mG.sub (lv2 := [(0, .ref (t)), (1, .int (a1)), (2, .int (v2 + q3)), (3, .int (v3 + 1))]) [2, 3, 1, 0] rfl ?_
        exact ih  (v2 + q3) (v3 + 1)  h
def f_X9_friendsOn (F : Nat) (S0 : mS) (t : Nat) (a1 : Int32) : Option Int32 := lX9_friendsOn_4 F  t a1 F S0 (0 : Int32) (0 : Int32)
set_option maxHeartbeats 4000000 in
set_option maxRecDepth 100000 in
theorem c_X9_friendsOn {F : Nat} {S0 : mS} {t : Nat} {a1 : Int32} {R : Int32} (ht : kd0 t = 9) (h : f_X9_friendsOn F S0 t a1 = some R) : mCt μX9_friendsOn 5 0 0 E0 S0 [.ref (t), .int (a1)] (mQe S0 (some (.int R))) := by
  unfold f_X9_friendsOn at h
  refine mCt.of (by decide) (Nat.le_of_ble_eq_true rfl) ?_
  intro x
  refine mG.iconst (v := 0) dX9_friendsOn_0 rfl ?_
  refine mG.istore_n (lv2 := [(2, .int 0), (0, .ref (t)), (1, .int (a1))]) dX9_friendsOn_1 rfl (by decide) rfl ?_
  refine mG.iconst (v := 0) dX9_friendsOn_2 rfl ?_
  refine mG.istore_n (lv2 := [(3, .int 0), (2, .int 0), (0, .ref (t)), (1, .int (a1))]) dX9_friendsOn_3 rfl (by decide) rfl ?_
  refine mG.sub (lv2 := [(0, .ref (t)), (1, .int (a1)), (2, .int 0), (3, .int 0)]) [2, 3, 1, 0] rfl ?_
  exact gX9_friendsOn_4 ht  F  (0 : Int32) (0 : Int32)  h
theorem dX9_feast_0 : decode cX9_feast 0 = .ok (.iconst 0, 1) := by decide +kernel
theorem dX9_feast_1 : decode cX9_feast 1 = .ok (.istore_n 2, 1) := by decide +kernel
theorem dX9_feast_2 : decode cX9_feast 2 = .ok (.iconst 1, 1) := by decide +kernel
theorem dX9_feast_3 : decode cX9_feast 3 = .ok (.istore_n 3, 1) := by decide +kernel
theorem dX9_feast_4 : decode cX9_feast 4 = .ok (.iload_n 3, 1) := by decide +kernel
theorem dX9_feast_5 : decode cX9_feast 5 = .ok (.bipush 20, 2) := by decide +kernel
theorem dX9_feast_7 : decode cX9_feast 7 = .ok (.if_icmp .ge 24, 3) := by decide +kernel
theorem dX9_feast_10 : decode cX9_feast 10 = .ok (.aload_n 0, 1) := by decide +kernel
theorem dX9_feast_11 : decode cX9_feast 11 = .ok (.iload_n 3, 1) := by decide +kernel
theorem dX9_feast_12 : decode cX9_feast 12 = .ok (.invokevirtual 408, 3) := by decide +kernel
theorem dX9_feast_15 : decode cX9_feast 15 = .ok (.aload_n 0, 1) := by decide +kernel
theorem dX9_feast_16 : decode cX9_feast 16 = .ok (.iload_n 2, 1) := by decide +kernel
theorem dX9_feast_17 : decode cX9_feast 17 = .ok (.invokevirtual 408, 3) := by decide +kernel
theorem dX9_feast_20 : decode cX9_feast 20 = .ok (.if_icmp .le 5, 3) := by decide +kernel
theorem dX9_feast_23 : decode cX9_feast 23 = .ok (.iload_n 3, 1) := by decide +kernel
theorem dX9_feast_24 : decode cX9_feast 24 = .ok (.istore_n 2, 1) := by decide +kernel
theorem dX9_feast_25 : decode cX9_feast 25 = .ok (.iinc 3 1, 3) := by decide +kernel
theorem dX9_feast_28 : decode cX9_feast 28 = .ok (.goto (-24), 3) := by decide +kernel
theorem dX9_feast_31 : decode cX9_feast 31 = .ok (.iload_n 1, 1) := by decide +kernel
theorem dX9_feast_32 : decode cX9_feast 32 = .ok (.ifCond .eq 11, 3) := by decide +kernel
theorem dX9_feast_35 : decode cX9_feast 35 = .ok (.aload_n 0, 1) := by decide +kernel
theorem dX9_feast_36 : decode cX9_feast 36 = .ok (.iload_n 2, 1) := by decide +kernel
theorem dX9_feast_37 : decode cX9_feast 37 = .ok (.invokevirtual 408, 3) := by decide +kernel
theorem dX9_feast_40 : decode cX9_feast 40 = .ok (.goto 4, 3) := by decide +kernel
theorem dX9_feast_43 : decode cX9_feast 43 = .ok (.iload_n 2, 1) := by decide +kernel
theorem dX9_feast_44 : decode cX9_feast 44 = .ok (.ireturn, 1) := by decide +kernel
def lX9_feast_4 (F : Nat)  (t : Nat) (a1 : Int32) : Nat → mS → Int32 → Int32 → Option Int32
  | 0, _, _, _ => none
  | n + 1, S0, v2, v3 => if (20 : Int32) ≤ v3 then (if a1 = 0 then (some v2) else (bd (f_X9_friendsOn F S0 t v2) fun q1 => some q1)) else (bd (f_X9_friendsOn F S0 t v3) fun q3 => bd (f_X9_friendsOn F S0 t v2) fun q4 => if q3 ≤ q4 then (lX9_feast_4 F  t a1 n S0 v2 (v3 + 1)) else (lX9_feast_4 F  t a1 n S0 v3 (v3 + 1)))
set_option maxHeartbeats 4000000 in
set_option maxRecDepth 100000 in
theorem gX9_feast_4 {x : mX} {F : Nat} {t : Nat} {a1 : Int32} {S0 : mS}   {R : Int32} (ht : kd0 t = 9)  : ∀ (n : Nat) (v2 : Int32) (v3 : Int32), lX9_feast_4 F  t a1 n S0 v2 v3 = some R → mG x μX9_feast 6 0 0 (mQe S0 (some (.int R))) 0 0 E0 S0 4 [(0, .ref (t)), (1, .int (a1)), (2, .int (v2)), (3, .int (v3))] [] := by
  intro n
  induction n with
  | zero =>
    intro v2 v3 h
    cases h
  | succ n ih =>
    intro v2 v3 h
    unfold lX9_feast_4 at h
    refine mG.iload_n 3 dX9_feast_4 rfl ?_
    refine mG.bipush (v := 20) dX9_feast_5 (by decide) ?_
    refine mG.icmp_ge 31 dX9_feast_7 (by decide) (fun c6 => ?_) (fun c6 => ?_)
    · replace h := itp c6 h
      refine mG.iload_n 1 dX9_feast_31 rfl ?_
      refine mG.if_eq 43 dX9_feast_32 (by decide) (fun c2 => ?_) (fun c2 => ?_)
      · replace h := itp c2 h
        refine mG.iload_n 2 dX9_feast_43 rfl ?_
        obtain rfl := Option.some.inj h
        exact mG.iret dX9_feast_44 rfl ⟨rfl, rfl, rfl⟩
      · replace h := itn c2 h
        refine mG.aload_n 0 dX9_feast_35 rfl ?_
        refine mG.iload_n 2 dX9_feast_36 rfl ?_
        obtain ⟨q1, hq1, h⟩ := bdp h
        refine mG.callV0 (as := [.int (v2)]) (st := []) (S2 := S0) (r := some (.int (q1))) dX9_feast_37 mvX9_friendsOn wk49_9 rfl ht rfl (by decide) (Nat.le_of_ble_eq_true rfl) (c_X9_friendsOn ht hq1) ?_
        refine mG.goto 44 dX9_feast_40 (by decide) ?_
        obtain rfl := Option.some.inj h
        exact mG.iret dX9_feast_44 rfl ⟨rfl, rfl, rfl⟩
    · replace h := itn c6 h
      refine mG.aload_n 0 dX9_feast_10 rfl ?_
      refine mG.iload_n 3 dX9_feast_11 rfl ?_
      obtain ⟨q3, hq3, h⟩ := bdp h
      refine mG.callV0 (as := [.int (v3)]) (st := []) (S2 := S0) (r := some (.int (q3))) dX9_feast_12 mvX9_friendsOn wk49_9 rfl ht rfl (by decide) (Nat.le_of_ble_eq_true rfl) (c_X9_friendsOn ht hq3) ?_
      refine mG.aload_n 0 dX9_feast_15 rfl ?_
      refine mG.iload_n 2 dX9_feast_16 rfl ?_
      obtain ⟨q4, hq4, h⟩ := bdp h
      refine mG.callV0 (as := [.int (v2)]) (st := [.int (q3)]) (S2 := S0) (r := some (.int (q4))) dX9_feast_17 mvX9_friendsOn wk49_9 rfl ht rfl (by decide) (Nat.le_of_ble_eq_true rfl) (c_X9_friendsOn ht hq4) ?_
      refine mG.icmp_le 25 dX9_feast_20 (by decide) (fun c5 => ?_) (fun c5 => ?_)
      · replace h := itp c5 h
        refine mG.iinc 3 (u := v3 + 1) (lv2 := [(3, .int (v3 + 1)), (0, .ref (t)), (1, .int (a1)), (2, .int (v2))]) dX9_feast_25 rfl rfl (by decide) rfl ?_
        refine mG.goto 4 dX9_feast_28 (by decide) ?_
        refine mG.sub (lv2 := [(0, .ref (t)), (1, .int (a1)), (2, .int (v2)), (3, .int (v3 + 1))]) [1, 2, 3, 0] rfl ?_
        exact ih  v2 (v3 + 1)  h
      · replace h := itn c5 h
        refine mG.iload_n 3 dX9_feast_23 rfl ?_
        refine mG.istore_n (lv2 := [(2, .int (v3)), (0, .ref (t)), (1, .int (a1)), (3, .int (v3))]) dX9_feast_24 rfl (by decide) rfl ?_
        refine mG.iinc 3 (u := v3 + 1) (lv2 := [(3, .int (v3 + 1)), (2, .int (v3)), (0, .ref (t)), (1, .int (a1))]) dX9_feast_25 rfl rfl (by decide) rfl ?_
        refine mG.goto 4 dX9_feast_28 (by decide) ?_
        refine mG.sub (lv2 := [(0, .ref (t)), (1, .int (a1)), (2, .int (v3)), (3, .int (v3 + 1))]) [2, 3, 1, 0] rfl ?_
        exact ih  v3 (v3 + 1)  h
def f_X9_feast (F : Nat) (S0 : mS) (t : Nat) (a1 : Int32) : Option Int32 := lX9_feast_4 F  t a1 F S0 (0 : Int32) (1 : Int32)
set_option maxHeartbeats 4000000 in
set_option maxRecDepth 100000 in
theorem c_X9_feast {F : Nat} {S0 : mS} {t : Nat} {a1 : Int32} {R : Int32} (ht : kd0 t = 9) (h : f_X9_feast F S0 t a1 = some R) : mCt μX9_feast 6 0 0 E0 S0 [.ref (t), .int (a1)] (mQe S0 (some (.int R))) := by
  unfold f_X9_feast at h
  refine mCt.of (by decide) (Nat.le_of_ble_eq_true rfl) ?_
  intro x
  refine mG.iconst (v := 0) dX9_feast_0 rfl ?_
  refine mG.istore_n (lv2 := [(2, .int 0), (0, .ref (t)), (1, .int (a1))]) dX9_feast_1 rfl (by decide) rfl ?_
  refine mG.iconst (v := 1) dX9_feast_2 rfl ?_
  refine mG.istore_n (lv2 := [(3, .int 1), (2, .int 0), (0, .ref (t)), (1, .int (a1))]) dX9_feast_3 rfl (by decide) rfl ?_
  refine mG.sub (lv2 := [(0, .ref (t)), (1, .int (a1)), (2, .int 0), (3, .int 1)]) [2, 3, 1, 0] rfl ?_
  exact gX9_feast_4 ht  F  (0 : Int32) (1 : Int32)  h
theorem dX9_alone_0 : decode cX9_alone 0 = .ok (.iconst 0, 1) := by decide +kernel
theorem dX9_alone_1 : decode cX9_alone 1 = .ok (.istore_n 1, 1) := by decide +kernel
theorem dX9_alone_2 : decode cX9_alone 2 = .ok (.iconst 0, 1) := by decide +kernel
theorem dX9_alone_3 : decode cX9_alone 3 = .ok (.istore_n 2, 1) := by decide +kernel
theorem dX9_alone_4 : decode cX9_alone 4 = .ok (.iload_n 2, 1) := by decide +kernel
theorem dX9_alone_5 : decode cX9_alone 5 = .ok (.aload_n 0, 1) := by decide +kernel
theorem dX9_alone_6 : decode cX9_alone 6 = .ok (.getfield 7, 3) := by decide +kernel
theorem dX9_alone_9 : decode cX9_alone 9 = .ok (.iconst 0, 1) := by decide +kernel
theorem dX9_alone_10 : decode cX9_alone 10 = .ok (.iaload, 1) := by decide +kernel
theorem dX9_alone_11 : decode cX9_alone 11 = .ok (.if_icmp .ge 91, 3) := by decide +kernel
theorem dX9_alone_14 : decode cX9_alone 14 = .ok (.aload_n 0, 1) := by decide +kernel
theorem dX9_alone_15 : decode cX9_alone 15 = .ok (.iload_n 2, 1) := by decide +kernel
theorem dX9_alone_16 : decode cX9_alone 16 = .ok (.invokevirtual 77, 3) := by decide +kernel
theorem dX9_alone_19 : decode cX9_alone 19 = .ok (.istore_n 3, 1) := by decide +kernel
theorem dX9_alone_20 : decode cX9_alone 20 = .ok (.iconst 0, 1) := by decide +kernel
theorem dX9_alone_21 : decode cX9_alone 21 = .ok (.istore 4, 2) := by decide +kernel
theorem dX9_alone_23 : decode cX9_alone 23 = .ok (.iload 4, 2) := by decide +kernel
theorem dX9_alone_25 : decode cX9_alone 25 = .ok (.aload_n 0, 1) := by decide +kernel
theorem dX9_alone_26 : decode cX9_alone 26 = .ok (.getfield 7, 3) := by decide +kernel
theorem dX9_alone_29 : decode cX9_alone 29 = .ok (.iconst 0, 1) := by decide +kernel
theorem dX9_alone_30 : decode cX9_alone 30 = .ok (.iaload, 1) := by decide +kernel
theorem dX9_alone_31 : decode cX9_alone 31 = .ok (.if_icmp .ge 51, 3) := by decide +kernel
theorem dX9_alone_34 : decode cX9_alone 34 = .ok (.iload_n 3, 1) := by decide +kernel
theorem dX9_alone_35 : decode cX9_alone 35 = .ok (.ifCond .eq 39, 3) := by decide +kernel
theorem dX9_alone_38 : decode cX9_alone 38 = .ok (.iload 4, 2) := by decide +kernel
theorem dX9_alone_40 : decode cX9_alone 40 = .ok (.iload_n 2, 1) := by decide +kernel
theorem dX9_alone_41 : decode cX9_alone 41 = .ok (.if_icmp .eq 29, 3) := by decide +kernel
theorem dX9_alone_44 : decode cX9_alone 44 = .ok (.aload_n 0, 1) := by decide +kernel
theorem dX9_alone_45 : decode cX9_alone 45 = .ok (.iload 4, 2) := by decide +kernel
theorem dX9_alone_47 : decode cX9_alone 47 = .ok (.invokevirtual 77, 3) := by decide +kernel
theorem dX9_alone_50 : decode cX9_alone 50 = .ok (.ifCond .eq 20, 3) := by decide +kernel
theorem dX9_alone_53 : decode cX9_alone 53 = .ok (.aload_n 0, 1) := by decide +kernel
theorem dX9_alone_54 : decode cX9_alone 54 = .ok (.iload_n 2, 1) := by decide +kernel
theorem dX9_alone_55 : decode cX9_alone 55 = .ok (.iconst 0, 1) := by decide +kernel
theorem dX9_alone_56 : decode cX9_alone 56 = .ok (.invokevirtual 73, 3) := by decide +kernel
theorem dX9_alone_59 : decode cX9_alone 59 = .ok (.aload_n 0, 1) := by decide +kernel
theorem dX9_alone_60 : decode cX9_alone 60 = .ok (.iload 4, 2) := by decide +kernel
theorem dX9_alone_62 : decode cX9_alone 62 = .ok (.iconst 0, 1) := by decide +kernel
theorem dX9_alone_63 : decode cX9_alone 63 = .ok (.invokevirtual 73, 3) := by decide +kernel
theorem dX9_alone_66 : decode cX9_alone 66 = .ok (.iand, 1) := by decide +kernel
theorem dX9_alone_67 : decode cX9_alone 67 = .ok (.ifCond .ne 7, 3) := by decide +kernel
theorem dX9_alone_70 : decode cX9_alone 70 = .ok (.iconst 1, 1) := by decide +kernel
theorem dX9_alone_71 : decode cX9_alone 71 = .ok (.goto 4, 3) := by decide +kernel
theorem dX9_alone_74 : decode cX9_alone 74 = .ok (.iconst 0, 1) := by decide +kernel
theorem dX9_alone_75 : decode cX9_alone 75 = .ok (.istore_n 3, 1) := by decide +kernel
theorem dX9_alone_76 : decode cX9_alone 76 = .ok (.iinc 4 1, 3) := by decide +kernel
theorem dX9_alone_79 : decode cX9_alone 79 = .ok (.goto (-56), 3) := by decide +kernel
theorem dX9_alone_82 : decode cX9_alone 82 = .ok (.iload_n 1, 1) := by decide +kernel
theorem dX9_alone_83 : decode cX9_alone 83 = .ok (.iload_n 3, 1) := by decide +kernel
theorem dX9_alone_84 : decode cX9_alone 84 = .ok (.ifCond .eq 9, 3) := by decide +kernel
theorem dX9_alone_87 : decode cX9_alone 87 = .ok (.iconst 1, 1) := by decide +kernel
theorem dX9_alone_88 : decode cX9_alone 88 = .ok (.iload_n 2, 1) := by decide +kernel
theorem dX9_alone_89 : decode cX9_alone 89 = .ok (.ishl, 1) := by decide +kernel
theorem dX9_alone_90 : decode cX9_alone 90 = .ok (.goto 4, 3) := by decide +kernel
theorem dX9_alone_93 : decode cX9_alone 93 = .ok (.iconst 0, 1) := by decide +kernel
theorem dX9_alone_94 : decode cX9_alone 94 = .ok (.ior, 1) := by decide +kernel
theorem dX9_alone_95 : decode cX9_alone 95 = .ok (.istore_n 1, 1) := by decide +kernel
theorem dX9_alone_96 : decode cX9_alone 96 = .ok (.iinc 2 1, 3) := by decide +kernel
theorem dX9_alone_99 : decode cX9_alone 99 = .ok (.goto (-95), 3) := by decide +kernel
theorem dX9_alone_102 : decode cX9_alone 102 = .ok (.iload_n 1, 1) := by decide +kernel
theorem dX9_alone_103 : decode cX9_alone 103 = .ok (.ireturn, 1) := by decide +kernel
def lX9_alone_23 (F : Nat) (K4 : Int32 → Int32 → Option Int32) (t : Nat) : Nat → mS → Int32 → Int32 → Int32 → Int32 → Option Int32
  | 0, _, _, _, _, _ => none
  | n + 1, S0, v1, v2, v3, v4 => ck (inb (0 : Int32) 2308) (if (S0.1 (t + 1) (0 : Int32).toNatClampNeg) ≤ v4 then (if v3 = 0 then (K4 (v1 ||| (0 : Int32)) (v2 + 1)) else (K4 (v1 ||| ((1 : Int32) <<< (v2 &&& 31))) (v2 + 1))) else (if v3 = 0 then (lX9_alone_23 F K4 t n S0 v1 v2 (0 : Int32) (v4 + 1)) else (if v4 = v2 then (lX9_alone_23 F K4 t n S0 v1 v2 (1 : Int32) (v4 + 1)) else (bd (f_X9_isHere F S0 t v4) fun q3 => if q3 = true then (bd (f_X9_get F S0 t v2 (0 : Int32)) fun q4 => bd (f_X9_get F S0 t v4 (0 : Int32)) fun q5 => if (q4 &&& q5) = 0 then (lX9_alone_23 F K4 t n S0 v1 v2 (1 : Int32) (v4 + 1)) else (lX9_alone_23 F K4 t n S0 v1 v2 (0 : Int32) (v4 + 1))) else (lX9_alone_23 F K4 t n S0 v1 v2 (1 : Int32) (v4 + 1))))))
set_option maxHeartbeats 4000000 in
set_option maxRecDepth 100000 in
theorem gX9_alone_23 {x : mX} {F : Nat} {t : Nat} {S0 : mS}  {K4 : Int32 → Int32 → Option Int32} {R : Int32} (ht : kd0 t = 9) (hK4 : ∀ (v1 : Int32) (v2 : Int32) , K4 v1 v2 = some R → mG x μX9_alone 4 0 0 (mQe S0 (some (.int R))) 0 0 E0 S0 4 [(0, .ref (t)), (1, .int (v1)), (2, .int (v2))] []) : ∀ (n : Nat) (v1 : Int32) (v2 : Int32) (v3 : Int32) (v4 : Int32), lX9_alone_23 F K4 t n S0 v1 v2 v3 v4 = some R → mG x μX9_alone 4 0 0 (mQe S0 (some (.int R))) 0 0 E0 S0 23 [(0, .ref (t)), (1, .int (v1)), (2, .int (v2)), (3, .int (v3)), (4, .int (v4))] [] := by
  intro n
  induction n with
  | zero =>
    intro v1 v2 v3 v4 h
    cases h
  | succ n ih =>
    intro v1 v2 v3 v4 h
    unfold lX9_alone_23 at h
    refine mG.iload 4 dX9_alone_23 rfl ?_
    refine mG.aload_n 0 dX9_alone_25 rfl ?_
    refine mG.get (v := .ref (t + 1)) dX9_alone_26 mfX9_7 ht (lr9_a ht) ?_
    refine mG.iconst (v := 0) dX9_alone_29 rfl ?_
    obtain ⟨b1, h⟩ := ckp h
    refine mG.iald dX9_alone_30 (lk9_a ht) (ll9_a ht) (inbp b1) ?_
    refine mG.icmp_ge 82 dX9_alone_31 (by decide) (fun c10 => ?_) (fun c10 => ?_)
    · replace h := itp c10 h
      refine mG.iload_n 1 dX9_alone_82 rfl ?_
      refine mG.iload_n 3 dX9_alone_83 rfl ?_
      refine mG.if_eq 93 dX9_alone_84 (by decide) (fun c2 => ?_) (fun c2 => ?_)
      · replace h := itp c2 h
        refine mG.iconst (v := 0) dX9_alone_93 rfl ?_
        refine mG.ior dX9_alone_94 ?_
        refine mG.istore_n (lv2 := [(1, .int (v1 ||| (0 : Int32))), (0, .ref (t)), (2, .int (v2)), (3, .int (v3)), (4, .int (v4))]) dX9_alone_95 rfl (by decide) rfl ?_
        refine mG.iinc 2 (u := v2 + 1) (lv2 := [(2, .int (v2 + 1)), (1, .int (v1 ||| (0 : Int32))), (0, .ref (t)), (3, .int (v3)), (4, .int (v4))]) dX9_alone_96 rfl rfl (by decide) rfl ?_
        refine mG.goto 4 dX9_alone_99 (by decide) ?_
        refine mG.sub (lv2 := [(0, .ref (t)), (1, .int (v1 ||| (0 : Int32))), (2, .int (v2 + 1))]) [2, 1, 0] rfl ?_
        exact hK4  (v1 ||| (0 : Int32)) (v2 + 1)  h
      · replace h := itn c2 h
        refine mG.iconst (v := 1) dX9_alone_87 rfl ?_
        refine mG.iload_n 2 dX9_alone_88 rfl ?_
        refine mG.ishl dX9_alone_89 ?_
        refine mG.goto 94 dX9_alone_90 (by decide) ?_
        refine mG.ior dX9_alone_94 ?_
        refine mG.istore_n (lv2 := [(1, .int (v1 ||| ((1 : Int32) <<< (v2 &&& 31)))), (0, .ref (t)), (2, .int (v2)), (3, .int (v3)), (4, .int (v4))]) dX9_alone_95 rfl (by decide) rfl ?_
        refine mG.iinc 2 (u := v2 + 1) (lv2 := [(2, .int (v2 + 1)), (1, .int (v1 ||| ((1 : Int32) <<< (v2 &&& 31)))), (0, .ref (t)), (3, .int (v3)), (4, .int (v4))]) dX9_alone_96 rfl rfl (by decide) rfl ?_
        refine mG.goto 4 dX9_alone_99 (by decide) ?_
        refine mG.sub (lv2 := [(0, .ref (t)), (1, .int (v1 ||| ((1 : Int32) <<< (v2 &&& 31)))), (2, .int (v2 + 1))]) [2, 1, 0] rfl ?_
        exact hK4  (v1 ||| ((1 : Int32) <<< (v2 &&& 31))) (v2 + 1)  h
    · replace h := itn c10 h
      refine mG.iload_n 3 dX9_alone_34 rfl ?_
      refine mG.if_eq 74 dX9_alone_35 (by decide) (fun c9 => ?_) (fun c9 => ?_)
      · replace h := itp c9 h
        refine mG.iconst (v := 0) dX9_alone_74 rfl ?_
        refine mG.istore_n (lv2 := [(3, .int 0), (0, .ref (t)), (1, .int (v1)), (2, .int (v2)), (4, .int (v4))]) dX9_alone_75 rfl (by decide) rfl ?_
        refine mG.iinc 4 (u := v4 + 1) (lv2 := [(4, .int (v4 + 1)), (3, .int 0), (0, .ref (t)), (1, .int (v1)), (2, .int (v2))]) dX9_alone_76 rfl rfl (by decide) rfl ?_
        refine mG.goto 23 dX9_alone_79 (by decide) ?_
        refine mG.sub (lv2 := [(0, .ref (t)), (1, .int (v1)), (2, .int (v2)), (3, .int 0), (4, .int (v4 + 1))]) [2, 3, 4, 1, 0] rfl ?_
        exact ih  v1 v2 (0 : Int32) (v4 + 1)  h
      · replace h := itn c9 h
        refine mG.iload 4 dX9_alone_38 rfl ?_
        refine mG.iload_n 2 dX9_alone_40 rfl ?_
        refine mG.icmp_eq 70 dX9_alone_41 (by decide) (fun c8 => ?_) (fun c8 => ?_)
        · replace h := itp c8 h
          refine mG.iconst (v := 1) dX9_alone_70 rfl ?_
          refine mG.goto 75 dX9_alone_71 (by decide) ?_
          refine mG.istore_n (lv2 := [(3, .int 1), (0, .ref (t)), (1, .int (v1)), (2, .int (v2)), (4, .int (v4))]) dX9_alone_75 rfl (by decide) rfl ?_
          refine mG.iinc 4 (u := v4 + 1) (lv2 := [(4, .int (v4 + 1)), (3, .int 1), (0, .ref (t)), (1, .int (v1)), (2, .int (v2))]) dX9_alone_76 rfl rfl (by decide) rfl ?_
          refine mG.goto 23 dX9_alone_79 (by decide) ?_
          refine mG.sub (lv2 := [(0, .ref (t)), (1, .int (v1)), (2, .int (v2)), (3, .int 1), (4, .int (v4 + 1))]) [2, 3, 4, 1, 0] rfl ?_
          exact ih  v1 v2 (1 : Int32) (v4 + 1)  h
        · replace h := itn c8 h
          refine mG.aload_n 0 dX9_alone_44 rfl ?_
          refine mG.iload 4 dX9_alone_45 rfl ?_
          obtain ⟨q3, hq3, h⟩ := bdp h
          refine mG.callV0 (as := [.int (v4)]) (st := []) (S2 := S0) (r := some (.int (bI (q3)))) dX9_alone_47 mvX9_isHere wk32_20 rfl ht rfl (by decide) (Nat.le_of_ble_eq_true rfl) (c_X9_isHere ht hq3) ?_
          refine mG.ifz_eq (b := q3) 70 dX9_alone_50 (by decide) (fun c7 => ?_) (fun c7 => ?_)
          · replace h := itn c7 h
            refine mG.iconst (v := 1) dX9_alone_70 rfl ?_
            refine mG.goto 75 dX9_alone_71 (by decide) ?_
            refine mG.istore_n (lv2 := [(3, .int 1), (0, .ref (t)), (1, .int (v1)), (2, .int (v2)), (4, .int (v4))]) dX9_alone_75 rfl (by decide) rfl ?_
            refine mG.iinc 4 (u := v4 + 1) (lv2 := [(4, .int (v4 + 1)), (3, .int 1), (0, .ref (t)), (1, .int (v1)), (2, .int (v2))]) dX9_alone_76 rfl rfl (by decide) rfl ?_
            refine mG.goto 23 dX9_alone_79 (by decide) ?_
            refine mG.sub (lv2 := [(0, .ref (t)), (1, .int (v1)), (2, .int (v2)), (3, .int 1), (4, .int (v4 + 1))]) [2, 3, 4, 1, 0] rfl ?_
            exact ih  v1 v2 (1 : Int32) (v4 + 1)  h
          · replace h := itp c7 h
            refine mG.aload_n 0 dX9_alone_53 rfl ?_
            refine mG.iload_n 2 dX9_alone_54 rfl ?_
            refine mG.iconst (v := 0) dX9_alone_55 rfl ?_
            obtain ⟨q4, hq4, h⟩ := bdp h
            refine mG.callV0 (as := [.int (v2), .int 0]) (st := []) (S2 := S0) (r := some (.int (q4))) dX9_alone_56 mvX9_get wk7_23 rfl ht rfl (by decide) (Nat.le_of_ble_eq_true rfl) (c_X9_get ht hq4) ?_
            refine mG.aload_n 0 dX9_alone_59 rfl ?_
            refine mG.iload 4 dX9_alone_60 rfl ?_
            refine mG.iconst (v := 0) dX9_alone_62 rfl ?_
            obtain ⟨q5, hq5, h⟩ := bdp h
            refine mG.callV0 (as := [.int (v4), .int 0]) (st := [.int (q4)]) (S2 := S0) (r := some (.int (q5))) dX9_alone_63 mvX9_get wk7_23 rfl ht rfl (by decide) (Nat.le_of_ble_eq_true rfl) (c_X9_get ht hq5) ?_
            refine mG.iand dX9_alone_66 ?_
            refine mG.if_ne 74 dX9_alone_67 (by decide) (fun c6 => ?_) (fun c6 => ?_)
            · replace h := itn c6 h
              refine mG.iconst (v := 0) dX9_alone_74 rfl ?_
              refine mG.istore_n (lv2 := [(3, .int 0), (0, .ref (t)), (1, .int (v1)), (2, .int (v2)), (4, .int (v4))]) dX9_alone_75 rfl (by decide) rfl ?_
              refine mG.iinc 4 (u := v4 + 1) (lv2 := [(4, .int (v4 + 1)), (3, .int 0), (0, .ref (t)), (1, .int (v1)), (2, .int (v2))]) dX9_alone_76 rfl rfl (by decide) rfl ?_
              refine mG.goto 23 dX9_alone_79 (by decide) ?_
              refine mG.sub (lv2 := [(0, .ref (t)), (1, .int (v1)), (2, .int (v2)), (3, .int 0), (4, .int (v4 + 1))]) [2, 3, 4, 1, 0] rfl ?_
              exact ih  v1 v2 (0 : Int32) (v4 + 1)  h
            · replace h := itp c6 h
              refine mG.iconst (v := 1) dX9_alone_70 rfl ?_
              refine mG.goto 75 dX9_alone_71 (by decide) ?_
              refine mG.istore_n (lv2 := [(3, .int 1), (0, .ref (t)), (1, .int (v1)), (2, .int (v2)), (4, .int (v4))]) dX9_alone_75 rfl (by decide) rfl ?_
              refine mG.iinc 4 (u := v4 + 1) (lv2 := [(4, .int (v4 + 1)), (3, .int 1), (0, .ref (t)), (1, .int (v1)), (2, .int (v2))]) dX9_alone_76 rfl rfl (by decide) rfl ?_
              refine mG.goto 23 dX9_alone_79 (by decide) ?_
              refine mG.sub (lv2 := [(0, .ref (t)), (1, .int (v1)), (2, .int (v2)), (3, .int 1), (4, .int (v4 + 1))]) [2, 3, 4, 1, 0] rfl ?_
              exact ih  v1 v2 (1 : Int32) (v4 + 1)  h
def lX9_alone_4 (F : Nat)  (t : Nat) : Nat → mS → Int32 → Int32 → Option Int32
  | 0, _, _, _ => none
  | n + 1, S0, v1, v2 => ck (inb (0 : Int32) 2308) (if (S0.1 (t + 1) (0 : Int32).toNatClampNeg) ≤ v2 then (some v1) else (bd (f_X9_isHere F S0 t v2) fun q2 => lX9_alone_23 F (fun (v1 : Int32) (v2 : Int32) => lX9_alone_4 F  t n S0 v1 v2) t F S0 v1 v2 (bI (q2)) (0 : Int32)))
set_option maxHeartbeats 4000000 in
set_option maxRecDepth 100000 in
theorem gX9_alone_4 {x : mX} {F : Nat} {t : Nat} {S0 : mS}   {R : Int32} (ht : kd0 t = 9)  : ∀ (n : Nat) (v1 : Int32) (v2 : Int32), lX9_alone_4 F  t n S0 v1 v2 = some R → mG x μX9_alone 4 0 0 (mQe S0 (some (.int R))) 0 0 E0 S0 4 [(0, .ref (t)), (1, .int (v1)), (2, .int (v2))] [] := by
  intro n
  induction n with
  | zero =>
    intro v1 v2 h
    cases h
  | succ n ih =>
    intro v1 v2 h
    unfold lX9_alone_4 at h
    refine mG.iload_n 2 dX9_alone_4 rfl ?_
    refine mG.aload_n 0 dX9_alone_5 rfl ?_
    refine mG.get (v := .ref (t + 1)) dX9_alone_6 mfX9_7 ht (lr9_a ht) ?_
    refine mG.iconst (v := 0) dX9_alone_9 rfl ?_
    obtain ⟨b1, h⟩ := ckp h
    refine mG.iald dX9_alone_10 (lk9_a ht) (ll9_a ht) (inbp b1) ?_
    refine mG.icmp_ge 102 dX9_alone_11 (by decide) (fun c3 => ?_) (fun c3 => ?_)
    · replace h := itp c3 h
      refine mG.iload_n 1 dX9_alone_102 rfl ?_
      obtain rfl := Option.some.inj h
      exact mG.iret dX9_alone_103 rfl ⟨rfl, rfl, rfl⟩
    · replace h := itn c3 h
      refine mG.aload_n 0 dX9_alone_14 rfl ?_
      refine mG.iload_n 2 dX9_alone_15 rfl ?_
      obtain ⟨q2, hq2, h⟩ := bdp h
      refine mG.callV0 (as := [.int (v2)]) (st := []) (S2 := S0) (r := some (.int (bI (q2)))) dX9_alone_16 mvX9_isHere wk32_20 rfl ht rfl (by decide) (Nat.le_of_ble_eq_true rfl) (c_X9_isHere ht hq2) ?_
      refine mG.istore_n (lv2 := [(3, .int (bI (q2))), (0, .ref (t)), (1, .int (v1)), (2, .int (v2))]) dX9_alone_19 rfl (by decide) rfl ?_
      refine mG.iconst (v := 0) dX9_alone_20 rfl ?_
      refine mG.istore (lv2 := [(4, .int 0), (3, .int (bI (q2))), (0, .ref (t)), (1, .int (v1)), (2, .int (v2))]) dX9_alone_21 (by decide) rfl ?_
      refine mG.sub (lv2 := [(0, .ref (t)), (1, .int (v1)), (2, .int (v2)), (3, .int (bI (q2))), (4, .int 0)]) [2, 3, 4, 1, 0] rfl ?_
      exact gX9_alone_23 ht (fun v1 v2 h => by exact ih  v1 v2  h) F  v1 v2 (bI (q2)) (0 : Int32)  h
def f_X9_alone (F : Nat) (S0 : mS) (t : Nat) : Option Int32 := lX9_alone_4 F  t F S0 (0 : Int32) (0 : Int32)
set_option maxHeartbeats 4000000 in
set_option maxRecDepth 100000 in
theorem c_X9_alone {F : Nat} {S0 : mS} {t : Nat} {R : Int32} (ht : kd0 t = 9) (h : f_X9_alone F S0 t = some R) : mCt μX9_alone 4 0 0 E0 S0 [.ref (t)] (mQe S0 (some (.int R))) := by
  unfold f_X9_alone at h
  refine mCt.of (by decide) (Nat.le_of_ble_eq_true rfl) ?_
  intro x
  refine mG.iconst (v := 0) dX9_alone_0 rfl ?_
  refine mG.istore_n (lv2 := [(1, .int 0), (0, .ref (t))]) dX9_alone_1 rfl (by decide) rfl ?_
  refine mG.iconst (v := 0) dX9_alone_2 rfl ?_
  refine mG.istore_n (lv2 := [(2, .int 0), (1, .int 0), (0, .ref (t))]) dX9_alone_3 rfl (by decide) rfl ?_
  refine mG.sub (lv2 := [(0, .ref (t)), (1, .int 0), (2, .int 0)]) [2, 1, 0] rfl ?_
  exact gX9_alone_4 ht  F  (0 : Int32) (0 : Int32)  h
theorem dX9_nobodys_0 : decode cX9_nobodys 0 = .ok (.iconst 0, 1) := by decide +kernel
theorem dX9_nobodys_1 : decode cX9_nobodys 1 = .ok (.istore_n 1, 1) := by decide +kernel
theorem dX9_nobodys_2 : decode cX9_nobodys 2 = .ok (.iconst 0, 1) := by decide +kernel
theorem dX9_nobodys_3 : decode cX9_nobodys 3 = .ok (.istore_n 2, 1) := by decide +kernel
theorem dX9_nobodys_4 : decode cX9_nobodys 4 = .ok (.iload_n 2, 1) := by decide +kernel
theorem dX9_nobodys_5 : decode cX9_nobodys 5 = .ok (.bipush 20, 2) := by decide +kernel
theorem dX9_nobodys_7 : decode cX9_nobodys 7 = .ok (.if_icmp .ge 27, 3) := by decide +kernel
theorem dX9_nobodys_10 : decode cX9_nobodys 10 = .ok (.iload_n 1, 1) := by decide +kernel
theorem dX9_nobodys_11 : decode cX9_nobodys 11 = .ok (.aload_n 0, 1) := by decide +kernel
theorem dX9_nobodys_12 : decode cX9_nobodys 12 = .ok (.iload_n 2, 1) := by decide +kernel
theorem dX9_nobodys_13 : decode cX9_nobodys 13 = .ok (.invokevirtual 405, 3) := by decide +kernel
theorem dX9_nobodys_16 : decode cX9_nobodys 16 = .ok (.ifCond .ne 9, 3) := by decide +kernel
theorem dX9_nobodys_19 : decode cX9_nobodys 19 = .ok (.iconst 1, 1) := by decide +kernel
theorem dX9_nobodys_20 : decode cX9_nobodys 20 = .ok (.iload_n 2, 1) := by decide +kernel
theorem dX9_nobodys_21 : decode cX9_nobodys 21 = .ok (.ishl, 1) := by decide +kernel
theorem dX9_nobodys_22 : decode cX9_nobodys 22 = .ok (.goto 4, 3) := by decide +kernel
theorem dX9_nobodys_25 : decode cX9_nobodys 25 = .ok (.iconst 0, 1) := by decide +kernel
theorem dX9_nobodys_26 : decode cX9_nobodys 26 = .ok (.ior, 1) := by decide +kernel
theorem dX9_nobodys_27 : decode cX9_nobodys 27 = .ok (.istore_n 1, 1) := by decide +kernel
theorem dX9_nobodys_28 : decode cX9_nobodys 28 = .ok (.iinc 2 1, 3) := by decide +kernel
theorem dX9_nobodys_31 : decode cX9_nobodys 31 = .ok (.goto (-27), 3) := by decide +kernel
theorem dX9_nobodys_34 : decode cX9_nobodys 34 = .ok (.iload_n 1, 1) := by decide +kernel
theorem dX9_nobodys_35 : decode cX9_nobodys 35 = .ok (.ireturn, 1) := by decide +kernel
def lX9_nobodys_4 (F : Nat)  (t : Nat) : Nat → mS → Int32 → Int32 → Option Int32
  | 0, _, _, _ => none
  | n + 1, S0, v1, v2 => if (20 : Int32) ≤ v2 then (some v1) else (bd (f_X9_shutOn F S0 t v2) fun q1 => if q1 = 0 then (lX9_nobodys_4 F  t n S0 (v1 ||| ((1 : Int32) <<< (v2 &&& 31))) (v2 + 1)) else (lX9_nobodys_4 F  t n S0 (v1 ||| (0 : Int32)) (v2 + 1)))
set_option maxHeartbeats 4000000 in
set_option maxRecDepth 100000 in
theorem gX9_nobodys_4 {x : mX} {F : Nat} {t : Nat} {S0 : mS}   {R : Int32} (ht : kd0 t = 9)  : ∀ (n : Nat) (v1 : Int32) (v2 : Int32), lX9_nobodys_4 F  t n S0 v1 v2 = some R → mG x μX9_nobodys 5 0 0 (mQe S0 (some (.int R))) 0 0 E0 S0 4 [(0, .ref (t)), (1, .int (v1)), (2, .int (v2))] [] := by
  intro n
  induction n with
  | zero =>
    intro v1 v2 h
    cases h
  | succ n ih =>
    intro v1 v2 h
    unfold lX9_nobodys_4 at h
    refine mG.iload_n 2 dX9_nobodys_4 rfl ?_
    refine mG.bipush (v := 20) dX9_nobodys_5 (by decide) ?_
    refine mG.icmp_ge 34 dX9_nobodys_7 (by decide) (fun c3 => ?_) (fun c3 => ?_)
    · replace h := itp c3 h
      refine mG.iload_n 1 dX9_nobodys_34 rfl ?_
      obtain rfl := Option.some.inj h
      exact mG.iret dX9_nobodys_35 rfl ⟨rfl, rfl, rfl⟩
    · replace h := itn c3 h
      refine mG.iload_n 1 dX9_nobodys_10 rfl ?_
      refine mG.aload_n 0 dX9_nobodys_11 rfl ?_
      refine mG.iload_n 2 dX9_nobodys_12 rfl ?_
      obtain ⟨q1, hq1, h⟩ := bdp h
      refine mG.callV0 (as := [.int (v2)]) (st := [.int (v1)]) (S2 := S0) (r := some (.int (q1))) dX9_nobodys_13 mvX9_shutOn wk48_8 rfl ht rfl (by decide) (Nat.le_of_ble_eq_true rfl) (c_X9_shutOn ht hq1) ?_
      refine mG.if_ne 25 dX9_nobodys_16 (by decide) (fun c2 => ?_) (fun c2 => ?_)
      · replace h := itn c2 h
        refine mG.iconst (v := 0) dX9_nobodys_25 rfl ?_
        refine mG.ior dX9_nobodys_26 ?_
        refine mG.istore_n (lv2 := [(1, .int (v1 ||| (0 : Int32))), (0, .ref (t)), (2, .int (v2))]) dX9_nobodys_27 rfl (by decide) rfl ?_
        refine mG.iinc 2 (u := v2 + 1) (lv2 := [(2, .int (v2 + 1)), (1, .int (v1 ||| (0 : Int32))), (0, .ref (t))]) dX9_nobodys_28 rfl rfl (by decide) rfl ?_
        refine mG.goto 4 dX9_nobodys_31 (by decide) ?_
        refine mG.sub (lv2 := [(0, .ref (t)), (1, .int (v1 ||| (0 : Int32))), (2, .int (v2 + 1))]) [2, 1, 0] rfl ?_
        exact ih  (v1 ||| (0 : Int32)) (v2 + 1)  h
      · replace h := itp c2 h
        refine mG.iconst (v := 1) dX9_nobodys_19 rfl ?_
        refine mG.iload_n 2 dX9_nobodys_20 rfl ?_
        refine mG.ishl dX9_nobodys_21 ?_
        refine mG.goto 26 dX9_nobodys_22 (by decide) ?_
        refine mG.ior dX9_nobodys_26 ?_
        refine mG.istore_n (lv2 := [(1, .int (v1 ||| ((1 : Int32) <<< (v2 &&& 31)))), (0, .ref (t)), (2, .int (v2))]) dX9_nobodys_27 rfl (by decide) rfl ?_
        refine mG.iinc 2 (u := v2 + 1) (lv2 := [(2, .int (v2 + 1)), (1, .int (v1 ||| ((1 : Int32) <<< (v2 &&& 31)))), (0, .ref (t))]) dX9_nobodys_28 rfl rfl (by decide) rfl ?_
        refine mG.goto 4 dX9_nobodys_31 (by decide) ?_
        refine mG.sub (lv2 := [(0, .ref (t)), (1, .int (v1 ||| ((1 : Int32) <<< (v2 &&& 31)))), (2, .int (v2 + 1))]) [2, 1, 0] rfl ?_
        exact ih  (v1 ||| ((1 : Int32) <<< (v2 &&& 31))) (v2 + 1)  h
def f_X9_nobodys (F : Nat) (S0 : mS) (t : Nat) : Option Int32 := lX9_nobodys_4 F  t F S0 (0 : Int32) (0 : Int32)
set_option maxHeartbeats 4000000 in
set_option maxRecDepth 100000 in
theorem c_X9_nobodys {F : Nat} {S0 : mS} {t : Nat} {R : Int32} (ht : kd0 t = 9) (h : f_X9_nobodys F S0 t = some R) : mCt μX9_nobodys 5 0 0 E0 S0 [.ref (t)] (mQe S0 (some (.int R))) := by
  unfold f_X9_nobodys at h
  refine mCt.of (by decide) (Nat.le_of_ble_eq_true rfl) ?_
  intro x
  refine mG.iconst (v := 0) dX9_nobodys_0 rfl ?_
  refine mG.istore_n (lv2 := [(1, .int 0), (0, .ref (t))]) dX9_nobodys_1 rfl (by decide) rfl ?_
  refine mG.iconst (v := 0) dX9_nobodys_2 rfl ?_
  refine mG.istore_n (lv2 := [(2, .int 0), (1, .int 0), (0, .ref (t))]) dX9_nobodys_3 rfl (by decide) rfl ?_
  refine mG.sub (lv2 := [(0, .ref (t)), (1, .int 0), (2, .int 0)]) [2, 1, 0] rfl ?_
  exact gX9_nobodys_4 ht  F  (0 : Int32) (0 : Int32)  h
theorem dX9_seen_0 : decode cX9_seen 0 = .ok (.iload_n 1, 1) := by decide +kernel
theorem dX9_seen_1 : decode cX9_seen 1 = .ok (.iconst (-1), 1) := by decide +kernel
theorem dX9_seen_2 : decode cX9_seen 2 = .ok (.if_icmp .ne 12, 3) := by decide +kernel
theorem dX9_seen_5 : decode cX9_seen 5 = .ok (.aload_n 0, 1) := by decide +kernel
theorem dX9_seen_6 : decode cX9_seen 6 = .ok (.getfield 7, 3) := by decide +kernel
theorem dX9_seen_9 : decode cX9_seen 9 = .ok (.iconst 4, 1) := by decide +kernel
theorem dX9_seen_10 : decode cX9_seen 10 = .ok (.iconst 0, 1) := by decide +kernel
theorem dX9_seen_11 : decode cX9_seen 11 = .ok (.iastore, 1) := by decide +kernel
theorem dX9_seen_12 : decode cX9_seen 12 = .ok (.iconst 0, 1) := by decide +kernel
theorem dX9_seen_13 : decode cX9_seen 13 = .ok (.ireturn, 1) := by decide +kernel
theorem dX9_seen_14 : decode cX9_seen 14 = .ok (.aload_n 0, 1) := by decide +kernel
theorem dX9_seen_15 : decode cX9_seen 15 = .ok (.iload_n 1, 1) := by decide +kernel
theorem dX9_seen_16 : decode cX9_seen 16 = .ok (.invokevirtual 69, 3) := by decide +kernel
theorem dX9_seen_19 : decode cX9_seen 19 = .ok (.ifCond .eq 24, 3) := by decide +kernel
theorem dX9_seen_22 : decode cX9_seen 22 = .ok (.iload_n 2, 1) := by decide +kernel
theorem dX9_seen_23 : decode cX9_seen 23 = .ok (.iconst 0, 1) := by decide +kernel
theorem dX9_seen_24 : decode cX9_seen 24 = .ok (.bipush 19, 2) := by decide +kernel
theorem dX9_seen_26 : decode cX9_seen 26 = .ok (.invokestatic 65, 3) := by decide +kernel
theorem dX9_seen_29 : decode cX9_seen 29 = .ok (.ifCond .eq 14, 3) := by decide +kernel
theorem dX9_seen_32 : decode cX9_seen 32 = .ok (.aload_n 0, 1) := by decide +kernel
theorem dX9_seen_33 : decode cX9_seen 33 = .ok (.getfield 7, 3) := by decide +kernel
theorem dX9_seen_36 : decode cX9_seen 36 = .ok (.iconst 4, 1) := by decide +kernel
theorem dX9_seen_37 : decode cX9_seen 37 = .ok (.iaload, 1) := by decide +kernel
theorem dX9_seen_38 : decode cX9_seen 38 = .ok (.bipush 8, 2) := by decide +kernel
theorem dX9_seen_40 : decode cX9_seen 40 = .ok (.if_icmp .ne 6, 3) := by decide +kernel
theorem dX9_seen_43 : decode cX9_seen 43 = .ok (.bipush (-2), 2) := by decide +kernel
theorem dX9_seen_45 : decode cX9_seen 45 = .ok (.ireturn, 1) := by decide +kernel
theorem dX9_seen_46 : decode cX9_seen 46 = .ok (.bipush 68, 2) := by decide +kernel
theorem dX9_seen_48 : decode cX9_seen 48 = .ok (.iconst 3, 1) := by decide +kernel
theorem dX9_seen_49 : decode cX9_seen 49 = .ok (.aload_n 0, 1) := by decide +kernel
theorem dX9_seen_50 : decode cX9_seen 50 = .ok (.getfield 7, 3) := by decide +kernel
theorem dX9_seen_53 : decode cX9_seen 53 = .ok (.iconst 4, 1) := by decide +kernel
theorem dX9_seen_54 : decode cX9_seen 54 = .ok (.iaload, 1) := by decide +kernel
theorem dX9_seen_55 : decode cX9_seen 55 = .ok (.imul, 1) := by decide +kernel
theorem dX9_seen_56 : decode cX9_seen 56 = .ok (.iadd, 1) := by decide +kernel
theorem dX9_seen_57 : decode cX9_seen 57 = .ok (.istore 4, 2) := by decide +kernel
theorem dX9_seen_59 : decode cX9_seen 59 = .ok (.aload_n 0, 1) := by decide +kernel
theorem dX9_seen_60 : decode cX9_seen 60 = .ok (.getfield 7, 3) := by decide +kernel
theorem dX9_seen_63 : decode cX9_seen 63 = .ok (.iload 4, 2) := by decide +kernel
theorem dX9_seen_65 : decode cX9_seen 65 = .ok (.iload_n 1, 1) := by decide +kernel
theorem dX9_seen_66 : decode cX9_seen 66 = .ok (.iastore, 1) := by decide +kernel
theorem dX9_seen_67 : decode cX9_seen 67 = .ok (.aload_n 0, 1) := by decide +kernel
theorem dX9_seen_68 : decode cX9_seen 68 = .ok (.getfield 7, 3) := by decide +kernel
theorem dX9_seen_71 : decode cX9_seen 71 = .ok (.iload 4, 2) := by decide +kernel
theorem dX9_seen_73 : decode cX9_seen 73 = .ok (.iconst 1, 1) := by decide +kernel
theorem dX9_seen_74 : decode cX9_seen 74 = .ok (.iadd, 1) := by decide +kernel
theorem dX9_seen_75 : decode cX9_seen 75 = .ok (.iload_n 2, 1) := by decide +kernel
theorem dX9_seen_76 : decode cX9_seen 76 = .ok (.iastore, 1) := by decide +kernel
theorem dX9_seen_77 : decode cX9_seen 77 = .ok (.aload_n 0, 1) := by decide +kernel
theorem dX9_seen_78 : decode cX9_seen 78 = .ok (.getfield 7, 3) := by decide +kernel
theorem dX9_seen_81 : decode cX9_seen 81 = .ok (.iload 4, 2) := by decide +kernel
theorem dX9_seen_83 : decode cX9_seen 83 = .ok (.iconst 2, 1) := by decide +kernel
theorem dX9_seen_84 : decode cX9_seen 84 = .ok (.iadd, 1) := by decide +kernel
theorem dX9_seen_85 : decode cX9_seen 85 = .ok (.iload_n 3, 1) := by decide +kernel
theorem dX9_seen_86 : decode cX9_seen 86 = .ok (.ifCond .eq 7, 3) := by decide +kernel
theorem dX9_seen_89 : decode cX9_seen 89 = .ok (.iconst 1, 1) := by decide +kernel
theorem dX9_seen_90 : decode cX9_seen 90 = .ok (.goto 4, 3) := by decide +kernel
theorem dX9_seen_93 : decode cX9_seen 93 = .ok (.iconst 0, 1) := by decide +kernel
theorem dX9_seen_94 : decode cX9_seen 94 = .ok (.iastore, 1) := by decide +kernel
theorem dX9_seen_95 : decode cX9_seen 95 = .ok (.aload_n 0, 1) := by decide +kernel
theorem dX9_seen_96 : decode cX9_seen 96 = .ok (.getfield 7, 3) := by decide +kernel
theorem dX9_seen_99 : decode cX9_seen 99 = .ok (.iconst 4, 1) := by decide +kernel
theorem dX9_seen_100 : decode cX9_seen 100 = .ok (.dup2, 1) := by decide +kernel
theorem dX9_seen_101 : decode cX9_seen 101 = .ok (.iaload, 1) := by decide +kernel
theorem dX9_seen_102 : decode cX9_seen 102 = .ok (.iconst 1, 1) := by decide +kernel
theorem dX9_seen_103 : decode cX9_seen 103 = .ok (.iadd, 1) := by decide +kernel
theorem dX9_seen_104 : decode cX9_seen 104 = .ok (.iastore, 1) := by decide +kernel
theorem dX9_seen_105 : decode cX9_seen 105 = .ok (.aload_n 0, 1) := by decide +kernel
theorem dX9_seen_106 : decode cX9_seen 106 = .ok (.getfield 7, 3) := by decide +kernel
theorem dX9_seen_109 : decode cX9_seen 109 = .ok (.iconst 4, 1) := by decide +kernel
theorem dX9_seen_110 : decode cX9_seen 110 = .ok (.iaload, 1) := by decide +kernel
theorem dX9_seen_111 : decode cX9_seen 111 = .ok (.ireturn, 1) := by decide +kernel
def lX9_seen_94 (F : Nat)  (t : Nat) (a1 : Int32) (a2 : Int32) (a3 : Int32) (S : mS) (s0 : Int32) (s1 : Int32) : Option (mS × Int32) := ck (inb s1 2308) (stp (sI S (t + 1) s1.toNatClampNeg s0) fun S2 => ck (inb (4 : Int32) 2308) (ck (inb (4 : Int32) 2308) (stp (sI S2 (t + 1) (4 : Int32).toNatClampNeg ((S2.1 (t + 1) (4 : Int32).toNatClampNeg) + (1 : Int32))) fun S5 => ck (inb (4 : Int32) 2308) (some (S5, S5.1 (t + 1) (4 : Int32).toNatClampNeg)))))
set_option maxHeartbeats 4000000 in
set_option maxRecDepth 100000 in
theorem gX9_seen_94 {x : mX} {F : Nat} {t : Nat} {a1 : Int32} {a2 : Int32} {a3 : Int32}  {R : mS × Int32} (ht : kd0 t = 9)  (S : mS) (s0 : Int32) (s1 : Int32) (ks2 : kd0 (t + 1) = 10) (ls2 : ln0 (t + 1) = 2308) (h : lX9_seen_94 F  t a1 a2 a3 S s0 s1 = some R) : mG x μX9_seen 3 0 0 (mQe R.1 (some (.int R.2))) 0 0 E0 S 94 [(0, .ref (t))] [.int (s0), .int (s1), .ref (t + 1)] := by
  unfold lX9_seen_94 at h
  obtain ⟨b1, h⟩ := ckp h
  obtain ⟨S2, hS2, h⟩ := stpp h
  refine mG.iast dX9_seen_94 ks2 ls2 (inbp b1) hS2 ?_
  refine mG.aload_n 0 dX9_seen_95 rfl ?_
  refine mG.get (v := .ref (t + 1)) dX9_seen_96 mfX9_7 ht (lr9_a ht) ?_
  refine mG.iconst (v := 4) dX9_seen_99 rfl ?_
  refine mG.dup2 dX9_seen_100 rfl rfl ?_
  obtain ⟨b3, h⟩ := ckp h
  refine mG.iald dX9_seen_101 (lk9_a ht) (ll9_a ht) (inbp b3) ?_
  refine mG.iconst (v := 1) dX9_seen_102 rfl ?_
  refine mG.iadd dX9_seen_103 ?_
  obtain ⟨b4, h⟩ := ckp h
  obtain ⟨S5, hS5, h⟩ := stpp h
  refine mG.iast dX9_seen_104 (lk9_a ht) (ll9_a ht) (inbp b4) hS5 ?_
  refine mG.aload_n 0 dX9_seen_105 rfl ?_
  refine mG.get (v := .ref (t + 1)) dX9_seen_106 mfX9_7 ht (lr9_a ht) ?_
  refine mG.iconst (v := 4) dX9_seen_109 rfl ?_
  obtain ⟨b6, h⟩ := ckp h
  refine mG.iald dX9_seen_110 (lk9_a ht) (ll9_a ht) (inbp b6) ?_
  obtain rfl := Option.some.inj h
  exact mG.iret dX9_seen_111 rfl ⟨rfl, rfl, rfl⟩
def f_X9_seen (F : Nat) (S : mS) (t : Nat) (a1 : Int32) (a2 : Int32) (a3 : Int32) : Option (mS × Int32) := if a1 = (-1 : Int32) then (ck (inb (4 : Int32) 2308) (stp (sI S (t + 1) (4 : Int32).toNatClampNeg (0 : Int32)) fun S13 => some (S13, (0 : Int32)))) else (bd (f_X9_isHouse F S t a1) fun q1 => if q1 = true then (if (f_X9_isIn S a2 (0 : Int32) (19 : Int32)) = true then (ck (inb (4 : Int32) 2308) (if (S.1 (t + 1) (4 : Int32).toNatClampNeg) = (8 : Int32) then (some (S, (-2 : Int32))) else (ck (inb (4 : Int32) 2308) (ck (inb ((68 : Int32) + ((3 : Int32) * (S.1 (t + 1) (4 : Int32).toNatClampNeg))) 2308) (stp (sI S (t + 1) ((68 : Int32) + ((3 : Int32) * (S.1 (t + 1) (4 : Int32).toNatClampNeg))).toNatClampNeg a1) fun S5 => ck (inb (((68 : Int32) + ((3 : Int32) * (S.1 (t + 1) (4 : Int32).toNatClampNeg))) + (1 : Int32)) 2308) (stp (sI S5 (t + 1) (((68 : Int32) + ((3 : Int32) * (S.1 (t + 1) (4 : Int32).toNatClampNeg))) + (1 : Int32)).toNatClampNeg a2) fun S7 => if a3 = 0 then (lX9_seen_94 F  t a1 a2 a3 S7 (0 : Int32) (((68 : Int32) + ((3 : Int32) * (S.1 (t + 1) (4 : Int32).toNatClampNeg))) + (2 : Int32))) else (lX9_seen_94 F  t a1 a2 a3 S7 (1 : Int32) (((68 : Int32) + ((3 : Int32) * (S.1 (t + 1) (4 : Int32).toNatClampNeg))) + (2 : Int32))))))))) else (some (S, (-2 : Int32)))) else (some (S, (-2 : Int32))))
set_option maxHeartbeats 4000000 in
set_option maxRecDepth 100000 in
theorem c_X9_seen {F : Nat} {S : mS} {t : Nat} {a1 : Int32} {a2 : Int32} {a3 : Int32} {R : mS × Int32} (ht : kd0 t = 9) (h : f_X9_seen F S t a1 a2 a3 = some R) : mCt μX9_seen 3 0 0 E0 S [.ref (t), .int (a1), .int (a2), .int (a3)] (mQe R.1 (some (.int R.2))) := by
  unfold f_X9_seen at h
  refine mCt.of (by decide) (Nat.le_of_ble_eq_true rfl) ?_
  intro x
  refine mG.iload_n 1 dX9_seen_0 rfl ?_
  refine mG.iconst (v := (-1)) dX9_seen_1 rfl ?_
  refine mG.icmp_ne 14 dX9_seen_2 (by decide) (fun c14 => ?_) (fun c14 => ?_)
  · replace h := itn c14 h
    refine mG.aload_n 0 dX9_seen_14 rfl ?_
    refine mG.iload_n 1 dX9_seen_15 rfl ?_
    obtain ⟨q1, hq1, h⟩ := bdp h
    refine mG.callV0 (as := [.int (a1)]) (st := []) (S2 := S) (r := some (.int (bI (q1)))) dX9_seen_16 mvX9_isHouse wk33_0 rfl ht rfl (by decide) (Nat.le_of_ble_eq_true rfl) (c_X9_isHouse ht hq1) ?_
    refine mG.ifz_eq (b := q1) 43 dX9_seen_19 (by decide) (fun c11 => ?_) (fun c11 => ?_)
    · replace h := itn c11 h
      refine mG.bipush (v := (-2)) dX9_seen_43 (by decide) ?_
      obtain rfl := Option.some.inj h
      exact mG.iret dX9_seen_45 rfl ⟨rfl, rfl, rfl⟩
    · replace h := itp c11 h
      refine mG.iload_n 2 dX9_seen_22 rfl ?_
      refine mG.iconst (v := 0) dX9_seen_23 rfl ?_
      refine mG.bipush (v := 19) dX9_seen_24 (by decide) ?_
      refine mG.callS0 (as := [.int (a2), .int 0, .int 19]) (st := []) (S2 := S) (r := some (.int (bI (f_X9_isIn S a2 (0 : Int32) (19 : Int32))))) dX9_seen_26 mbX9_isIn wk7_13 wk7_12 rfl rfl (by decide) (Nat.le_of_ble_eq_true rfl) (c_X9_isIn  rfl) ?_
      refine mG.ifz_eq (b := f_X9_isIn S a2 (0 : Int32) (19 : Int32)) 43 dX9_seen_29 (by decide) (fun c10 => ?_) (fun c10 => ?_)
      · replace h := itn c10 h
        refine mG.bipush (v := (-2)) dX9_seen_43 (by decide) ?_
        obtain rfl := Option.some.inj h
        exact mG.iret dX9_seen_45 rfl ⟨rfl, rfl, rfl⟩
      · replace h := itp c10 h
        refine mG.aload_n 0 dX9_seen_32 rfl ?_
        refine mG.get (v := .ref (t + 1)) dX9_seen_33 mfX9_7 ht (lr9_a ht) ?_
        refine mG.iconst (v := 4) dX9_seen_36 rfl ?_
        obtain ⟨b2, h⟩ := ckp h
        refine mG.iald dX9_seen_37 (lk9_a ht) (ll9_a ht) (inbp b2) ?_
        refine mG.bipush (v := 8) dX9_seen_38 (by decide) ?_
        refine mG.icmp_ne 46 dX9_seen_40 (by decide) (fun c9 => ?_) (fun c9 => ?_)
        · replace h := itn c9 h
          refine mG.bipush (v := 68) dX9_seen_46 (by decide) ?_
          refine mG.iconst (v := 3) dX9_seen_48 rfl ?_
          refine mG.aload_n 0 dX9_seen_49 rfl ?_
          refine mG.get (v := .ref (t + 1)) dX9_seen_50 mfX9_7 ht (lr9_a ht) ?_
          refine mG.iconst (v := 4) dX9_seen_53 rfl ?_
          obtain ⟨b3, h⟩ := ckp h
          refine mG.iald dX9_seen_54 (lk9_a ht) (ll9_a ht) (inbp b3) ?_
          refine mG.imul dX9_seen_55 ?_
          refine mG.iadd dX9_seen_56 ?_
          refine mG.istore (lv2 := [(4, .int ((68 : Int32) + ((3 : Int32) * (S.1 (t + 1) (4 : Int32).toNatClampNeg)))), (0, .ref (t)), (1, .int (a1)), (2, .int (a2)), (3, .int (a3))]) dX9_seen_57 (by decide) rfl ?_
          refine mG.aload_n 1 dX9_seen_59 rfl ?_
          refine mG.get (v := .ref (t + 1)) dX9_seen_60 mfX9_7 ht (lr9_a ht) ?_
          refine mG.iload 0 dX9_seen_63 rfl ?_
          refine mG.iload_n 2 dX9_seen_65 rfl ?_
          obtain ⟨b4, h⟩ := ckp h
          obtain ⟨S5, hS5, h⟩ := stpp h
          refine mG.iast dX9_seen_66 (lk9_a ht) (ll9_a ht) (inbp b4) hS5 ?_
          refine mG.aload_n 1 dX9_seen_67 rfl ?_
          refine mG.get (v := .ref (t + 1)) dX9_seen_68 mfX9_7 ht (lr9_a ht) ?_
          refine mG.iload 0 dX9_seen_71 rfl ?_
          refine mG.iconst (v := 1) dX9_seen_73 rfl ?_
          refine mG.iadd dX9_seen_74 ?_
          refine mG.iload_n 3 dX9_seen_75 rfl ?_
          obtain ⟨b6, h⟩ := ckp h
          obtain ⟨S7, hS7, h⟩ := stpp h
          refine mG.iast dX9_seen_76 (lk9_a ht) (ll9_a ht) (inbp b6) hS7 ?_
          refine mG.aload_n 1 dX9_seen_77 rfl ?_
          refine mG.get (v := .ref (t + 1)) dX9_seen_78 mfX9_7 ht (lr9_a ht) ?_
          refine mG.iload 0 dX9_seen_81 rfl ?_
          refine mG.iconst (v := 2) dX9_seen_83 rfl ?_
          refine mG.iadd dX9_seen_84 ?_
          refine mG.iload_n 4 dX9_seen_85 rfl ?_
          refine mG.if_eq 93 dX9_seen_86 (by decide) (fun c8 => ?_) (fun c8 => ?_)
          · replace h := itp c8 h
            refine mG.iconst (v := 0) dX9_seen_93 rfl ?_
            refine mG.sub (lv2 := [(0, .ref (t))]) [1] rfl ?_
            exact gX9_seen_94 ht   S7 (0 : Int32) (((68 : Int32) + ((3 : Int32) * (S.1 (t + 1) (4 : Int32).toNatClampNeg))) + (2 : Int32)) (lk9_a ht) (ll9_a ht) h
          · replace h := itn c8 h
            refine mG.iconst (v := 1) dX9_seen_89 rfl ?_
            refine mG.goto 94 dX9_seen_90 (by decide) ?_
            refine mG.sub (lv2 := [(0, .ref (t))]) [1] rfl ?_
            exact gX9_seen_94 ht   S7 (1 : Int32) (((68 : Int32) + ((3 : Int32) * (S.1 (t + 1) (4 : Int32).toNatClampNeg))) + (2 : Int32)) (lk9_a ht) (ll9_a ht) h
        · replace h := itp c9 h
          refine mG.bipush (v := (-2)) dX9_seen_43 (by decide) ?_
          obtain rfl := Option.some.inj h
          exact mG.iret dX9_seen_45 rfl ⟨rfl, rfl, rfl⟩
  · replace h := itp c14 h
    refine mG.aload_n 0 dX9_seen_5 rfl ?_
    refine mG.get (v := .ref (t + 1)) dX9_seen_6 mfX9_7 ht (lr9_a ht) ?_
    refine mG.iconst (v := 4) dX9_seen_9 rfl ?_
    refine mG.iconst (v := 0) dX9_seen_10 rfl ?_
    obtain ⟨b12, h⟩ := ckp h
    obtain ⟨S13, hS13, h⟩ := stpp h
    refine mG.iast dX9_seen_11 (lk9_a ht) (ll9_a ht) (inbp b12) hS13 ?_
    refine mG.iconst (v := 0) dX9_seen_12 rfl ?_
    obtain rfl := Option.some.inj h
    exact mG.iret dX9_seen_13 rfl ⟨rfl, rfl, rfl⟩
theorem dX9_note_0 : decode cX9_note 0 = .ok (.iload_n 2, 1) := by decide +kernel
theorem dX9_note_1 : decode cX9_note 1 = .ok (.iconst 1, 1) := by decide +kernel
theorem dX9_note_2 : decode cX9_note 2 = .ok (.if_icmp .ne 18, 3) := by decide +kernel
theorem dX9_note_5 : decode cX9_note 5 = .ok (.aload_n 0, 1) := by decide +kernel
theorem dX9_note_6 : decode cX9_note 6 = .ok (.dup, 1) := by decide +kernel
theorem dX9_note_7 : decode cX9_note 7 = .ok (.getfield 411, 3) := by decide +kernel
theorem dX9_note_10 : decode cX9_note 10 = .ok (.iconst 1, 1) := by decide +kernel
theorem dX9_note_11 : decode cX9_note 11 = .ok (.iload_n 1, 1) := by decide +kernel
theorem dX9_note_12 : decode cX9_note 12 = .ok (.ishl, 1) := by decide +kernel
theorem dX9_note_13 : decode cX9_note 13 = .ok (.ior, 1) := by decide +kernel
theorem dX9_note_14 : decode cX9_note 14 = .ok (.putfield 411, 3) := by decide +kernel
theorem dX9_note_17 : decode cX9_note 17 = .ok (.goto 15, 3) := by decide +kernel
theorem dX9_note_20 : decode cX9_note 20 = .ok (.aload_n 0, 1) := by decide +kernel
theorem dX9_note_21 : decode cX9_note 21 = .ok (.dup, 1) := by decide +kernel
theorem dX9_note_22 : decode cX9_note 22 = .ok (.getfield 414, 3) := by decide +kernel
theorem dX9_note_25 : decode cX9_note 25 = .ok (.iconst 1, 1) := by decide +kernel
theorem dX9_note_26 : decode cX9_note 26 = .ok (.iload_n 1, 1) := by decide +kernel
theorem dX9_note_27 : decode cX9_note 27 = .ok (.ishl, 1) := by decide +kernel
theorem dX9_note_28 : decode cX9_note 28 = .ok (.ior, 1) := by decide +kernel
theorem dX9_note_29 : decode cX9_note 29 = .ok (.putfield 414, 3) := by decide +kernel
theorem dX9_note_32 : decode cX9_note 32 = .ok (.return_, 1) := by decide +kernel
def f_X9_note (F : Nat) (S : mS) (t : Nat) (a1 : Int32) (a2 : Int32) : Option mS := if a2 = (1 : Int32) then (stp (sI S t 25 ((S.1 t 25) ||| ((1 : Int32) <<< (a1 &&& 31)))) fun S2 => some S2) else (stp (sI S t 26 ((S.1 t 26) ||| ((1 : Int32) <<< (a1 &&& 31)))) fun S1 => some S1)
set_option maxHeartbeats 4000000 in
set_option maxRecDepth 100000 in
theorem c_X9_note {F : Nat} {S : mS} {t : Nat} {a1 : Int32} {a2 : Int32} {R : mS} (ht : kd0 t = 9) (h : f_X9_note F S t a1 a2 = some R) : mCt μX9_note 1 0 0 E0 S [.ref (t), .int (a1), .int (a2)] (mQe R none) := by
  unfold f_X9_note at h
  refine mCt.of (by decide) (Nat.le_of_ble_eq_true rfl) ?_
  intro x
  refine mG.iload_n 2 dX9_note_0 rfl ?_
  refine mG.iconst (v := 1) dX9_note_1 rfl ?_
  refine mG.icmp_ne 20 dX9_note_2 (by decide) (fun c3 => ?_) (fun c3 => ?_)
  · replace h := itn c3 h
    refine mG.aload_n 0 dX9_note_20 rfl ?_
    refine mG.dup dX9_note_21 rfl ?_
    refine mG.get (v := .int (S.1 t 26)) dX9_note_22 mfX9_414 ht rfl ?_
    refine mG.iconst (v := 1) dX9_note_25 rfl ?_
    refine mG.iload_n 1 dX9_note_26 rfl ?_
    refine mG.ishl dX9_note_27 ?_
    refine mG.ior dX9_note_28 ?_
    obtain ⟨S1, hS1, h⟩ := stpp h
    refine mG.putI dX9_note_29 mfX9_414 rfl (Or.inl rfl) ht hS1 ?_
    obtain rfl := Option.some.inj h
    exact mG.vret dX9_note_32 rfl ⟨rfl, rfl, rfl⟩
  · replace h := itp c3 h
    refine mG.aload_n 0 dX9_note_5 rfl ?_
    refine mG.dup dX9_note_6 rfl ?_
    refine mG.get (v := .int (S.1 t 25)) dX9_note_7 mfX9_411 ht rfl ?_
    refine mG.iconst (v := 1) dX9_note_10 rfl ?_
    refine mG.iload_n 1 dX9_note_11 rfl ?_
    refine mG.ishl dX9_note_12 ?_
    refine mG.ior dX9_note_13 ?_
    obtain ⟨S2, hS2, h⟩ := stpp h
    refine mG.putI dX9_note_14 mfX9_411 rfl (Or.inl rfl) ht hS2 ?_
    refine mG.goto 32 dX9_note_17 (by decide) ?_
    obtain rfl := Option.some.inj h
    exact mG.vret dX9_note_32 rfl ⟨rfl, rfl, rfl⟩
theorem dX9_count_0 : decode cX9_count 0 = .ok (.aload_n 0, 1) := by decide +kernel
theorem dX9_count_1 : decode cX9_count 1 = .ok (.getfield 411, 3) := by decide +kernel
theorem dX9_count_4 : decode cX9_count 4 = .ok (.iload_n 1, 1) := by decide +kernel
theorem dX9_count_5 : decode cX9_count 5 = .ok (.iconst (-1), 1) := by decide +kernel
theorem dX9_count_6 : decode cX9_count 6 = .ok (.ixor, 1) := by decide +kernel
theorem dX9_count_7 : decode cX9_count 7 = .ok (.iand, 1) := by decide +kernel
theorem dX9_count_8 : decode cX9_count 8 = .ok (.ifCond .ne 12, 3) := by decide +kernel
theorem dX9_count_11 : decode cX9_count 11 = .ok (.aload_n 0, 1) := by decide +kernel
theorem dX9_count_12 : decode cX9_count 12 = .ok (.getfield 414, 3) := by decide +kernel
theorem dX9_count_15 : decode cX9_count 15 = .ok (.iload_n 1, 1) := by decide +kernel
theorem dX9_count_16 : decode cX9_count 16 = .ok (.iand, 1) := by decide +kernel
theorem dX9_count_17 : decode cX9_count 17 = .ok (.ifCond .eq 4, 3) := by decide +kernel
theorem dX9_count_20 : decode cX9_count 20 = .ok (.return_, 1) := by decide +kernel
theorem dX9_count_21 : decode cX9_count 21 = .ok (.aload_n 0, 1) := by decide +kernel
theorem dX9_count_22 : decode cX9_count 22 = .ok (.dup, 1) := by decide +kernel
theorem dX9_count_23 : decode cX9_count 23 = .ok (.getfield 417, 3) := by decide +kernel
theorem dX9_count_26 : decode cX9_count 26 = .ok (.iconst 1, 1) := by decide +kernel
theorem dX9_count_27 : decode cX9_count 27 = .ok (.iadd, 1) := by decide +kernel
theorem dX9_count_28 : decode cX9_count 28 = .ok (.putfield 417, 3) := by decide +kernel
theorem dX9_count_31 : decode cX9_count 31 = .ok (.aload_n 0, 1) := by decide +kernel
theorem dX9_count_32 : decode cX9_count 32 = .ok (.dup, 1) := by decide +kernel
theorem dX9_count_33 : decode cX9_count 33 = .ok (.getfield 420, 3) := by decide +kernel
theorem dX9_count_36 : decode cX9_count 36 = .ok (.iload_n 1, 1) := by decide +kernel
theorem dX9_count_37 : decode cX9_count 37 = .ok (.iand, 1) := by decide +kernel
theorem dX9_count_38 : decode cX9_count 38 = .ok (.putfield 420, 3) := by decide +kernel
theorem dX9_count_41 : decode cX9_count 41 = .ok (.iconst 0, 1) := by decide +kernel
theorem dX9_count_42 : decode cX9_count 42 = .ok (.istore_n 2, 1) := by decide +kernel
theorem dX9_count_43 : decode cX9_count 43 = .ok (.iload_n 2, 1) := by decide +kernel
theorem dX9_count_44 : decode cX9_count 44 = .ok (.bipush 20, 2) := by decide +kernel
theorem dX9_count_46 : decode cX9_count 46 = .ok (.if_icmp .ge 23, 3) := by decide +kernel
theorem dX9_count_49 : decode cX9_count 49 = .ok (.aload_n 0, 1) := by decide +kernel
theorem dX9_count_50 : decode cX9_count 50 = .ok (.getfield 46, 3) := by decide +kernel
theorem dX9_count_53 : decode cX9_count 53 = .ok (.iload_n 2, 1) := by decide +kernel
theorem dX9_count_54 : decode cX9_count 54 = .ok (.dup2, 1) := by decide +kernel
theorem dX9_count_55 : decode cX9_count 55 = .ok (.iaload, 1) := by decide +kernel
theorem dX9_count_56 : decode cX9_count 56 = .ok (.iload_n 1, 1) := by decide +kernel
theorem dX9_count_57 : decode cX9_count 57 = .ok (.iload_n 2, 1) := by decide +kernel
theorem dX9_count_58 : decode cX9_count 58 = .ok (.ishr, 1) := by decide +kernel
theorem dX9_count_59 : decode cX9_count 59 = .ok (.iconst 1, 1) := by decide +kernel
theorem dX9_count_60 : decode cX9_count 60 = .ok (.iand, 1) := by decide +kernel
theorem dX9_count_61 : decode cX9_count 61 = .ok (.iadd, 1) := by decide +kernel
theorem dX9_count_62 : decode cX9_count 62 = .ok (.iastore, 1) := by decide +kernel
theorem dX9_count_63 : decode cX9_count 63 = .ok (.iinc 2 1, 3) := by decide +kernel
theorem dX9_count_66 : decode cX9_count 66 = .ok (.goto (-23), 3) := by decide +kernel
theorem dX9_count_69 : decode cX9_count 69 = .ok (.return_, 1) := by decide +kernel
def lX9_count_43 (F : Nat)  (t : Nat) (a1 : Int32) : Nat → mS → Int32 → Option mS
  | 0, _, _ => none
  | n + 1, S, v2 => if (20 : Int32) ≤ v2 then (some S) else (ck (inb v2 20) (ck (inb v2 20) (stp (sI S (t + 10) v2.toNatClampNeg ((S.1 (t + 10) v2.toNatClampNeg) + ((a1 >>> (v2 &&& 31)) &&& (1 : Int32)))) fun S3 => lX9_count_43 F  t a1 n S3 (v2 + 1))))
set_option maxHeartbeats 4000000 in
set_option maxRecDepth 100000 in
theorem gX9_count_43 {x : mX} {F : Nat} {t : Nat} {a1 : Int32}   {R : mS} (ht : kd0 t = 9)  : ∀ (n : Nat) (S : mS) (v2 : Int32), lX9_count_43 F  t a1 n S v2 = some R → mG x μX9_count 1 0 0 (mQe R none) 0 0 E0 S 43 [(0, .ref (t)), (1, .int (a1)), (2, .int (v2))] [] := by
  intro n
  induction n with
  | zero =>
    intro S v2 h
    cases h
  | succ n ih =>
    intro S v2 h
    unfold lX9_count_43 at h
    refine mG.iload_n 2 dX9_count_43 rfl ?_
    refine mG.bipush (v := 20) dX9_count_44 (by decide) ?_
    refine mG.icmp_ge 69 dX9_count_46 (by decide) (fun c4 => ?_) (fun c4 => ?_)
    · replace h := itp c4 h
      obtain rfl := Option.some.inj h
      exact mG.vret dX9_count_69 rfl ⟨rfl, rfl, rfl⟩
    · replace h := itn c4 h
      refine mG.aload_n 0 dX9_count_49 rfl ?_
      refine mG.get (v := .ref (t + 10)) dX9_count_50 mfX9_46 ht (lr9_with ht) ?_
      refine mG.iload_n 2 dX9_count_53 rfl ?_
      refine mG.dup2 dX9_count_54 rfl rfl ?_
      obtain ⟨b1, h⟩ := ckp h
      refine mG.iald dX9_count_55 (lk9_with ht) (ll9_with ht) (inbp b1) ?_
      refine mG.iload_n 1 dX9_count_56 rfl ?_
      refine mG.iload_n 2 dX9_count_57 rfl ?_
      refine mG.ishr dX9_count_58 ?_
      refine mG.iconst (v := 1) dX9_count_59 rfl ?_
      refine mG.iand dX9_count_60 ?_
      refine mG.iadd dX9_count_61 ?_
      obtain ⟨b2, h⟩ := ckp h
      obtain ⟨S3, hS3, h⟩ := stpp h
      refine mG.iast dX9_count_62 (lk9_with ht) (ll9_with ht) (inbp b2) hS3 ?_
      refine mG.iinc 2 (u := v2 + 1) (lv2 := [(2, .int (v2 + 1)), (0, .ref (t)), (1, .int (a1))]) dX9_count_63 rfl rfl (by decide) rfl ?_
      refine mG.goto 43 dX9_count_66 (by decide) ?_
      refine mG.sub (lv2 := [(0, .ref (t)), (1, .int (a1)), (2, .int (v2 + 1))]) [1, 2, 0] rfl ?_
      exact ih S3 (v2 + 1)  h
def f_X9_count (F : Nat) (S : mS) (t : Nat) (a1 : Int32) : Option mS := if ((S.1 t 25) &&& (a1 ^^^ (-1 : Int32))) = 0 then (if ((S.1 t 26) &&& a1) = 0 then (stp (sI S t 27 ((S.1 t 27) + (1 : Int32))) fun S1 => stp (sI S1 t 28 ((S1.1 t 28) &&& a1)) fun S2 => lX9_count_43 F  t a1 F S2 (0 : Int32)) else (some S)) else (some S)
set_option maxHeartbeats 4000000 in
set_option maxRecDepth 100000 in
theorem c_X9_count {F : Nat} {S : mS} {t : Nat} {a1 : Int32} {R : mS} (ht : kd0 t = 9) (h : f_X9_count F S t a1 = some R) : mCt μX9_count 1 0 0 E0 S [.ref (t), .int (a1)] (mQe R none) := by
  unfold f_X9_count at h
  refine mCt.of (by decide) (Nat.le_of_ble_eq_true rfl) ?_
  intro x
  refine mG.aload_n 0 dX9_count_0 rfl ?_
  refine mG.get (v := .int (S.1 t 25)) dX9_count_1 mfX9_411 ht rfl ?_
  refine mG.iload_n 1 dX9_count_4 rfl ?_
  refine mG.iconst (v := (-1)) dX9_count_5 rfl ?_
  refine mG.ixor dX9_count_6 ?_
  refine mG.iand dX9_count_7 ?_
  refine mG.if_ne 20 dX9_count_8 (by decide) (fun c4 => ?_) (fun c4 => ?_)
  · replace h := itn c4 h
    obtain rfl := Option.some.inj h
    exact mG.vret dX9_count_20 rfl ⟨rfl, rfl, rfl⟩
  · replace h := itp c4 h
    refine mG.aload_n 0 dX9_count_11 rfl ?_
    refine mG.get (v := .int (S.1 t 26)) dX9_count_12 mfX9_414 ht rfl ?_
    refine mG.iload_n 1 dX9_count_15 rfl ?_
    refine mG.iand dX9_count_16 ?_
    refine mG.if_eq 21 dX9_count_17 (by decide) (fun c3 => ?_) (fun c3 => ?_)
    · replace h := itp c3 h
      refine mG.aload_n 0 dX9_count_21 rfl ?_
      refine mG.dup dX9_count_22 rfl ?_
      refine mG.get (v := .int (S.1 t 27)) dX9_count_23 mfX9_417 ht rfl ?_
      refine mG.iconst (v := 1) dX9_count_26 rfl ?_
      refine mG.iadd dX9_count_27 ?_
      obtain ⟨S1, hS1, h⟩ := stpp h
      refine mG.putI dX9_count_28 mfX9_417 rfl (Or.inl rfl) ht hS1 ?_
      refine mG.aload_n 0 dX9_count_31 rfl ?_
      refine mG.dup dX9_count_32 rfl ?_
      refine mG.get (v := .int (S1.1 t 28)) dX9_count_33 mfX9_420 ht rfl ?_
      refine mG.iload_n 1 dX9_count_36 rfl ?_
      refine mG.iand dX9_count_37 ?_
      obtain ⟨S2, hS2, h⟩ := stpp h
      refine mG.putI dX9_count_38 mfX9_420 rfl (Or.inl rfl) ht hS2 ?_
      refine mG.iconst (v := 0) dX9_count_41 rfl ?_
      refine mG.istore_n (lv2 := [(2, .int 0), (0, .ref (t)), (1, .int (a1))]) dX9_count_42 rfl (by decide) rfl ?_
      refine mG.sub (lv2 := [(0, .ref (t)), (1, .int (a1)), (2, .int 0)]) [1, 2, 0] rfl ?_
      exact gX9_count_43 ht  F S2 (0 : Int32)  h
    · replace h := itn c3 h
      obtain rfl := Option.some.inj h
      exact mG.vret dX9_count_20 rfl ⟨rfl, rfl, rfl⟩
theorem dX9_laySets_0 : decode cX9_laySets 0 = .ok (.aload_n 0, 1) := by decide +kernel
theorem dX9_laySets_1 : decode cX9_laySets 1 = .ok (.iconst 0, 1) := by decide +kernel
theorem dX9_laySets_2 : decode cX9_laySets 2 = .ok (.putfield 411, 3) := by decide +kernel
theorem dX9_laySets_5 : decode cX9_laySets 5 = .ok (.aload_n 0, 1) := by decide +kernel
theorem dX9_laySets_6 : decode cX9_laySets 6 = .ok (.iconst 0, 1) := by decide +kernel
theorem dX9_laySets_7 : decode cX9_laySets 7 = .ok (.putfield 414, 3) := by decide +kernel
theorem dX9_laySets_10 : decode cX9_laySets 10 = .ok (.iconst 0, 1) := by decide +kernel
theorem dX9_laySets_11 : decode cX9_laySets 11 = .ok (.istore_n 3, 1) := by decide +kernel
theorem dX9_laySets_12 : decode cX9_laySets 12 = .ok (.iload_n 3, 1) := by decide +kernel
theorem dX9_laySets_13 : decode cX9_laySets 13 = .ok (.aload_n 0, 1) := by decide +kernel
theorem dX9_laySets_14 : decode cX9_laySets 14 = .ok (.getfield 7, 3) := by decide +kernel
theorem dX9_laySets_17 : decode cX9_laySets 17 = .ok (.bipush 10, 2) := by decide +kernel
theorem dX9_laySets_19 : decode cX9_laySets 19 = .ok (.iaload, 1) := by decide +kernel
theorem dX9_laySets_20 : decode cX9_laySets 20 = .ok (.if_icmp .ge 38, 3) := by decide +kernel
theorem dX9_laySets_23 : decode cX9_laySets 23 = .ok (.aload_n 0, 1) := by decide +kernel
theorem dX9_laySets_24 : decode cX9_laySets 24 = .ok (.iload_n 3, 1) := by decide +kernel
theorem dX9_laySets_25 : decode cX9_laySets 25 = .ok (.iconst 1, 1) := by decide +kernel
theorem dX9_laySets_26 : decode cX9_laySets 26 = .ok (.invokevirtual 390, 3) := by decide +kernel
theorem dX9_laySets_29 : decode cX9_laySets 29 = .ok (.iload_n 1, 1) := by decide +kernel
theorem dX9_laySets_30 : decode cX9_laySets 30 = .ok (.if_icmp .ne 22, 3) := by decide +kernel
theorem dX9_laySets_33 : decode cX9_laySets 33 = .ok (.aload_n 0, 1) := by decide +kernel
theorem dX9_laySets_34 : decode cX9_laySets 34 = .ok (.aload_n 0, 1) := by decide +kernel
theorem dX9_laySets_35 : decode cX9_laySets 35 = .ok (.iload_n 3, 1) := by decide +kernel
theorem dX9_laySets_36 : decode cX9_laySets 36 = .ok (.iconst 0, 1) := by decide +kernel
theorem dX9_laySets_37 : decode cX9_laySets 37 = .ok (.invokevirtual 390, 3) := by decide +kernel
theorem dX9_laySets_40 : decode cX9_laySets 40 = .ok (.bipush 20, 2) := by decide +kernel
theorem dX9_laySets_42 : decode cX9_laySets 42 = .ok (.irem, 1) := by decide +kernel
theorem dX9_laySets_43 : decode cX9_laySets 43 = .ok (.aload_n 0, 1) := by decide +kernel
theorem dX9_laySets_44 : decode cX9_laySets 44 = .ok (.iload_n 3, 1) := by decide +kernel
theorem dX9_laySets_45 : decode cX9_laySets 45 = .ok (.iconst 2, 1) := by decide +kernel
theorem dX9_laySets_46 : decode cX9_laySets 46 = .ok (.invokevirtual 390, 3) := by decide +kernel
theorem dX9_laySets_49 : decode cX9_laySets 49 = .ok (.invokevirtual 423, 3) := by decide +kernel
theorem dX9_laySets_52 : decode cX9_laySets 52 = .ok (.iinc 3 1, 3) := by decide +kernel
theorem dX9_laySets_55 : decode cX9_laySets 55 = .ok (.goto (-43), 3) := by decide +kernel
theorem dX9_laySets_58 : decode cX9_laySets 58 = .ok (.iconst 0, 1) := by decide +kernel
theorem dX9_laySets_59 : decode cX9_laySets 59 = .ok (.istore_n 3, 1) := by decide +kernel
theorem dX9_laySets_60 : decode cX9_laySets 60 = .ok (.iload_n 3, 1) := by decide +kernel
theorem dX9_laySets_61 : decode cX9_laySets 61 = .ok (.aload_n 0, 1) := by decide +kernel
theorem dX9_laySets_62 : decode cX9_laySets 62 = .ok (.getfield 7, 3) := by decide +kernel
theorem dX9_laySets_65 : decode cX9_laySets 65 = .ok (.iconst 4, 1) := by decide +kernel
theorem dX9_laySets_66 : decode cX9_laySets 66 = .ok (.iaload, 1) := by decide +kernel
theorem dX9_laySets_67 : decode cX9_laySets 67 = .ok (.if_icmp .ge 54, 3) := by decide +kernel
theorem dX9_laySets_70 : decode cX9_laySets 70 = .ok (.aload_n 0, 1) := by decide +kernel
theorem dX9_laySets_71 : decode cX9_laySets 71 = .ok (.getfield 7, 3) := by decide +kernel
theorem dX9_laySets_74 : decode cX9_laySets 74 = .ok (.bipush 68, 2) := by decide +kernel
theorem dX9_laySets_76 : decode cX9_laySets 76 = .ok (.iconst 3, 1) := by decide +kernel
theorem dX9_laySets_77 : decode cX9_laySets 77 = .ok (.iload_n 3, 1) := by decide +kernel
theorem dX9_laySets_78 : decode cX9_laySets 78 = .ok (.imul, 1) := by decide +kernel
theorem dX9_laySets_79 : decode cX9_laySets 79 = .ok (.iadd, 1) := by decide +kernel
theorem dX9_laySets_80 : decode cX9_laySets 80 = .ok (.iaload, 1) := by decide +kernel
theorem dX9_laySets_81 : decode cX9_laySets 81 = .ok (.iload_n 1, 1) := by decide +kernel
theorem dX9_laySets_82 : decode cX9_laySets 82 = .ok (.if_icmp .ne 33, 3) := by decide +kernel
theorem dX9_laySets_85 : decode cX9_laySets 85 = .ok (.aload_n 0, 1) := by decide +kernel
theorem dX9_laySets_86 : decode cX9_laySets 86 = .ok (.aload_n 0, 1) := by decide +kernel
theorem dX9_laySets_87 : decode cX9_laySets 87 = .ok (.getfield 7, 3) := by decide +kernel
theorem dX9_laySets_90 : decode cX9_laySets 90 = .ok (.bipush 68, 2) := by decide +kernel
theorem dX9_laySets_92 : decode cX9_laySets 92 = .ok (.iconst 3, 1) := by decide +kernel
theorem dX9_laySets_93 : decode cX9_laySets 93 = .ok (.iload_n 3, 1) := by decide +kernel
theorem dX9_laySets_94 : decode cX9_laySets 94 = .ok (.imul, 1) := by decide +kernel
theorem dX9_laySets_95 : decode cX9_laySets 95 = .ok (.iadd, 1) := by decide +kernel
theorem dX9_laySets_96 : decode cX9_laySets 96 = .ok (.iconst 1, 1) := by decide +kernel
theorem dX9_laySets_97 : decode cX9_laySets 97 = .ok (.iadd, 1) := by decide +kernel
theorem dX9_laySets_98 : decode cX9_laySets 98 = .ok (.iaload, 1) := by decide +kernel
theorem dX9_laySets_99 : decode cX9_laySets 99 = .ok (.aload_n 0, 1) := by decide +kernel
theorem dX9_laySets_100 : decode cX9_laySets 100 = .ok (.getfield 7, 3) := by decide +kernel
theorem dX9_laySets_103 : decode cX9_laySets 103 = .ok (.bipush 68, 2) := by decide +kernel
theorem dX9_laySets_105 : decode cX9_laySets 105 = .ok (.iconst 3, 1) := by decide +kernel
theorem dX9_laySets_106 : decode cX9_laySets 106 = .ok (.iload_n 3, 1) := by decide +kernel
theorem dX9_laySets_107 : decode cX9_laySets 107 = .ok (.imul, 1) := by decide +kernel
theorem dX9_laySets_108 : decode cX9_laySets 108 = .ok (.iadd, 1) := by decide +kernel
theorem dX9_laySets_109 : decode cX9_laySets 109 = .ok (.iconst 2, 1) := by decide +kernel
theorem dX9_laySets_110 : decode cX9_laySets 110 = .ok (.iadd, 1) := by decide +kernel
theorem dX9_laySets_111 : decode cX9_laySets 111 = .ok (.iaload, 1) := by decide +kernel
theorem dX9_laySets_112 : decode cX9_laySets 112 = .ok (.invokevirtual 423, 3) := by decide +kernel
theorem dX9_laySets_115 : decode cX9_laySets 115 = .ok (.iinc 3 1, 3) := by decide +kernel
theorem dX9_laySets_118 : decode cX9_laySets 118 = .ok (.goto (-58), 3) := by decide +kernel
theorem dX9_laySets_121 : decode cX9_laySets 121 = .ok (.aload_n 0, 1) := by decide +kernel
theorem dX9_laySets_122 : decode cX9_laySets 122 = .ok (.iconst 0, 1) := by decide +kernel
theorem dX9_laySets_123 : decode cX9_laySets 123 = .ok (.putfield 417, 3) := by decide +kernel
theorem dX9_laySets_126 : decode cX9_laySets 126 = .ok (.aload_n 0, 1) := by decide +kernel
theorem dX9_laySets_127 : decode cX9_laySets 127 = .ok (.ldc_w 426, 3) := by decide +kernel
theorem dX9_laySets_130 : decode cX9_laySets 130 = .ok (.putfield 420, 3) := by decide +kernel
theorem dX9_laySets_133 : decode cX9_laySets 133 = .ok (.iconst 0, 1) := by decide +kernel
theorem dX9_laySets_134 : decode cX9_laySets 134 = .ok (.istore_n 3, 1) := by decide +kernel
theorem dX9_laySets_135 : decode cX9_laySets 135 = .ok (.iload_n 3, 1) := by decide +kernel
theorem dX9_laySets_136 : decode cX9_laySets 136 = .ok (.bipush 20, 2) := by decide +kernel
theorem dX9_laySets_138 : decode cX9_laySets 138 = .ok (.if_icmp .ge 16, 3) := by decide +kernel
theorem dX9_laySets_141 : decode cX9_laySets 141 = .ok (.aload_n 0, 1) := by decide +kernel
theorem dX9_laySets_142 : decode cX9_laySets 142 = .ok (.getfield 46, 3) := by decide +kernel
theorem dX9_laySets_145 : decode cX9_laySets 145 = .ok (.iload_n 3, 1) := by decide +kernel
theorem dX9_laySets_146 : decode cX9_laySets 146 = .ok (.iconst 0, 1) := by decide +kernel
theorem dX9_laySets_147 : decode cX9_laySets 147 = .ok (.iastore, 1) := by decide +kernel
theorem dX9_laySets_148 : decode cX9_laySets 148 = .ok (.iinc 3 1, 3) := by decide +kernel
theorem dX9_laySets_151 : decode cX9_laySets 151 = .ok (.goto (-16), 3) := by decide +kernel
theorem dX9_laySets_154 : decode cX9_laySets 154 = .ok (.iconst 0, 1) := by decide +kernel
theorem dX9_laySets_155 : decode cX9_laySets 155 = .ok (.istore_n 3, 1) := by decide +kernel
theorem dX9_laySets_156 : decode cX9_laySets 156 = .ok (.iload_n 3, 1) := by decide +kernel
theorem dX9_laySets_157 : decode cX9_laySets 157 = .ok (.bipush 20, 2) := by decide +kernel
theorem dX9_laySets_159 : decode cX9_laySets 159 = .ok (.if_icmp .ge 102, 3) := by decide +kernel
theorem dX9_laySets_162 : decode cX9_laySets 162 = .ok (.iload_n 2, 1) := by decide +kernel
theorem dX9_laySets_163 : decode cX9_laySets 163 = .ok (.iconst 1, 1) := by decide +kernel
theorem dX9_laySets_164 : decode cX9_laySets 164 = .ok (.if_icmp .ne 10, 3) := by decide +kernel
theorem dX9_laySets_167 : decode cX9_laySets 167 = .ok (.aload_n 0, 1) := by decide +kernel
theorem dX9_laySets_168 : decode cX9_laySets 168 = .ok (.iconst 1, 1) := by decide +kernel
theorem dX9_laySets_169 : decode cX9_laySets 169 = .ok (.iload_n 3, 1) := by decide +kernel
theorem dX9_laySets_170 : decode cX9_laySets 170 = .ok (.ishl, 1) := by decide +kernel
theorem dX9_laySets_171 : decode cX9_laySets 171 = .ok (.invokevirtual 427, 3) := by decide +kernel
theorem dX9_laySets_174 : decode cX9_laySets 174 = .ok (.iload_n 3, 1) := by decide +kernel
theorem dX9_laySets_175 : decode cX9_laySets 175 = .ok (.iconst 1, 1) := by decide +kernel
theorem dX9_laySets_176 : decode cX9_laySets 176 = .ok (.iadd, 1) := by decide +kernel
theorem dX9_laySets_177 : decode cX9_laySets 177 = .ok (.istore 4, 2) := by decide +kernel
theorem dX9_laySets_179 : decode cX9_laySets 179 = .ok (.iload 4, 2) := by decide +kernel
theorem dX9_laySets_181 : decode cX9_laySets 181 = .ok (.bipush 20, 2) := by decide +kernel
theorem dX9_laySets_183 : decode cX9_laySets 183 = .ok (.if_icmp .ge 72, 3) := by decide +kernel
theorem dX9_laySets_186 : decode cX9_laySets 186 = .ok (.iload_n 2, 1) := by decide +kernel
theorem dX9_laySets_187 : decode cX9_laySets 187 = .ok (.iconst 1, 1) := by decide +kernel
theorem dX9_laySets_188 : decode cX9_laySets 188 = .ok (.if_icmp .le 67, 3) := by decide +kernel
theorem dX9_laySets_191 : decode cX9_laySets 191 = .ok (.iload_n 2, 1) := by decide +kernel
theorem dX9_laySets_192 : decode cX9_laySets 192 = .ok (.iconst 2, 1) := by decide +kernel
theorem dX9_laySets_193 : decode cX9_laySets 193 = .ok (.if_icmp .ne 15, 3) := by decide +kernel
theorem dX9_laySets_196 : decode cX9_laySets 196 = .ok (.aload_n 0, 1) := by decide +kernel
theorem dX9_laySets_197 : decode cX9_laySets 197 = .ok (.iconst 1, 1) := by decide +kernel
theorem dX9_laySets_198 : decode cX9_laySets 198 = .ok (.iload_n 3, 1) := by decide +kernel
theorem dX9_laySets_199 : decode cX9_laySets 199 = .ok (.ishl, 1) := by decide +kernel
theorem dX9_laySets_200 : decode cX9_laySets 200 = .ok (.iconst 1, 1) := by decide +kernel
theorem dX9_laySets_201 : decode cX9_laySets 201 = .ok (.iload 4, 2) := by decide +kernel
theorem dX9_laySets_203 : decode cX9_laySets 203 = .ok (.ishl, 1) := by decide +kernel
theorem dX9_laySets_204 : decode cX9_laySets 204 = .ok (.ior, 1) := by decide +kernel
theorem dX9_laySets_205 : decode cX9_laySets 205 = .ok (.invokevirtual 427, 3) := by decide +kernel
theorem dX9_laySets_208 : decode cX9_laySets 208 = .ok (.iload 4, 2) := by decide +kernel
theorem dX9_laySets_210 : decode cX9_laySets 210 = .ok (.iconst 1, 1) := by decide +kernel
theorem dX9_laySets_211 : decode cX9_laySets 211 = .ok (.iadd, 1) := by decide +kernel
theorem dX9_laySets_212 : decode cX9_laySets 212 = .ok (.istore 5, 2) := by decide +kernel
theorem dX9_laySets_214 : decode cX9_laySets 214 = .ok (.iload 5, 2) := by decide +kernel
theorem dX9_laySets_216 : decode cX9_laySets 216 = .ok (.bipush 20, 2) := by decide +kernel
theorem dX9_laySets_218 : decode cX9_laySets 218 = .ok (.if_icmp .ge 31, 3) := by decide +kernel
theorem dX9_laySets_221 : decode cX9_laySets 221 = .ok (.iload_n 2, 1) := by decide +kernel
theorem dX9_laySets_222 : decode cX9_laySets 222 = .ok (.iconst 3, 1) := by decide +kernel
theorem dX9_laySets_223 : decode cX9_laySets 223 = .ok (.if_icmp .ne 26, 3) := by decide +kernel
theorem dX9_laySets_226 : decode cX9_laySets 226 = .ok (.aload_n 0, 1) := by decide +kernel
theorem dX9_laySets_227 : decode cX9_laySets 227 = .ok (.iconst 1, 1) := by decide +kernel
theorem dX9_laySets_228 : decode cX9_laySets 228 = .ok (.iload_n 3, 1) := by decide +kernel
theorem dX9_laySets_229 : decode cX9_laySets 229 = .ok (.ishl, 1) := by decide +kernel
theorem dX9_laySets_230 : decode cX9_laySets 230 = .ok (.iconst 1, 1) := by decide +kernel
theorem dX9_laySets_231 : decode cX9_laySets 231 = .ok (.iload 4, 2) := by decide +kernel
theorem dX9_laySets_233 : decode cX9_laySets 233 = .ok (.ishl, 1) := by decide +kernel
theorem dX9_laySets_234 : decode cX9_laySets 234 = .ok (.ior, 1) := by decide +kernel
theorem dX9_laySets_235 : decode cX9_laySets 235 = .ok (.iconst 1, 1) := by decide +kernel
theorem dX9_laySets_236 : decode cX9_laySets 236 = .ok (.iload 5, 2) := by decide +kernel
theorem dX9_laySets_238 : decode cX9_laySets 238 = .ok (.ishl, 1) := by decide +kernel
theorem dX9_laySets_239 : decode cX9_laySets 239 = .ok (.ior, 1) := by decide +kernel
theorem dX9_laySets_240 : decode cX9_laySets 240 = .ok (.invokevirtual 427, 3) := by decide +kernel
theorem dX9_laySets_243 : decode cX9_laySets 243 = .ok (.iinc 5 1, 3) := by decide +kernel
theorem dX9_laySets_246 : decode cX9_laySets 246 = .ok (.goto (-32), 3) := by decide +kernel
theorem dX9_laySets_249 : decode cX9_laySets 249 = .ok (.iinc 4 1, 3) := by decide +kernel
theorem dX9_laySets_252 : decode cX9_laySets 252 = .ok (.goto (-73), 3) := by decide +kernel
theorem dX9_laySets_255 : decode cX9_laySets 255 = .ok (.iinc 3 1, 3) := by decide +kernel
theorem dX9_laySets_258 : decode cX9_laySets 258 = .ok (.goto (-102), 3) := by decide +kernel
theorem dX9_laySets_261 : decode cX9_laySets 261 = .ok (.return_, 1) := by decide +kernel
def lX9_laySets_12 (F : Nat) (K60 : mS → Int32 → Option mS) (t : Nat) (a1 : Int32) (a2 : Int32) : Nat → mS → Int32 → Option mS
  | 0, _, _ => none
  | n + 1, S, v3 => ck (inb (10 : Int32) 2308) (if (S.1 (t + 1) (10 : Int32).toNatClampNeg) ≤ v3 then (K60 S (0 : Int32)) else (bd (f_X9_entry F S t v3 (1 : Int32)) fun q2 => if q2 = a1 then (bd (f_X9_entry F S t v3 (0 : Int32)) fun q3 => bd (f_X9_entry F S t v3 (2 : Int32)) fun q4 => bd (f_X9_note F S t (q3 - q3 / (20 : Int32) * (20 : Int32)) q4) fun q5 => lX9_laySets_12 F K60 t a1 a2 n q5 (v3 + 1)) else (lX9_laySets_12 F K60 t a1 a2 n S (v3 + 1))))
set_option maxHeartbeats 4000000 in
set_option maxRecDepth 100000 in
theorem gX9_laySets_12 {x : mX} {F : Nat} {t : Nat} {a1 : Int32} {a2 : Int32}  {K60 : mS → Int32 → Option mS} {R : mS} (ht : kd0 t = 9) (hK60 : ∀ (S : mS) (v3 : Int32) , K60 S v3 = some R → mG x μX9_laySets 2 0 0 (mQe R none) 0 0 E0 S 60 [(0, .ref (t)), (1, .int (a1)), (2, .int (a2)), (3, .int (v3))] []) : ∀ (n : Nat) (S : mS) (v3 : Int32), lX9_laySets_12 F K60 t a1 a2 n S v3 = some R → mG x μX9_laySets 2 0 0 (mQe R none) 0 0 E0 S 12 [(0, .ref (t)), (1, .int (a1)), (2, .int (a2)), (3, .int (v3))] [] := by
  intro n
  induction n with
  | zero =>
    intro S v3 h
    cases h
  | succ n ih =>
    intro S v3 h
    unfold lX9_laySets_12 at h
    refine mG.iload_n 3 dX9_laySets_12 rfl ?_
    refine mG.aload_n 0 dX9_laySets_13 rfl ?_
    refine mG.get (v := .ref (t + 1)) dX9_laySets_14 mfX9_7 ht (lr9_a ht) ?_
    refine mG.bipush (v := 10) dX9_laySets_17 (by decide) ?_
    obtain ⟨b1, h⟩ := ckp h
    refine mG.iald dX9_laySets_19 (lk9_a ht) (ll9_a ht) (inbp b1) ?_
    refine mG.icmp_ge 58 dX9_laySets_20 (by decide) (fun c7 => ?_) (fun c7 => ?_)
    · replace h := itp c7 h
      refine mG.iconst (v := 0) dX9_laySets_58 rfl ?_
      refine mG.istore_n (lv2 := [(3, .int 0), (0, .ref (t)), (1, .int (a1)), (2, .int (a2))]) dX9_laySets_59 rfl (by decide) rfl ?_
      refine mG.sub (lv2 := [(0, .ref (t)), (1, .int (a1)), (2, .int (a2)), (3, .int 0)]) [1, 2, 3, 0] rfl ?_
      exact hK60 S (0 : Int32)  h
    · replace h := itn c7 h
      refine mG.aload_n 0 dX9_laySets_23 rfl ?_
      refine mG.iload_n 3 dX9_laySets_24 rfl ?_
      refine mG.iconst (v := 1) dX9_laySets_25 rfl ?_
      obtain ⟨q2, hq2, h⟩ := bdp h
      refine mG.callV0 (as := [.int (v3), .int 1]) (st := []) (S2 := S) (r := some (.int (q2))) dX9_laySets_26 mvX9_entry wk46_15 rfl ht rfl (by decide) (Nat.le_of_ble_eq_true rfl) (c_X9_entry ht hq2) ?_
      refine mG.iload_n 1 dX9_laySets_29 rfl ?_
      refine mG.icmp_ne 52 dX9_laySets_30 (by decide) (fun c6 => ?_) (fun c6 => ?_)
      · replace h := itn c6 h
        refine mG.iinc 3 (u := v3 + 1) (lv2 := [(3, .int (v3 + 1)), (0, .ref (t)), (1, .int (a1)), (2, .int (a2))]) dX9_laySets_52 rfl rfl (by decide) rfl ?_
        refine mG.goto 12 dX9_laySets_55 (by decide) ?_
        refine mG.sub (lv2 := [(0, .ref (t)), (1, .int (a1)), (2, .int (a2)), (3, .int (v3 + 1))]) [1, 2, 3, 0] rfl ?_
        exact ih S (v3 + 1)  h
      · replace h := itp c6 h
        refine mG.aload_n 0 dX9_laySets_33 rfl ?_
        refine mG.aload_n 0 dX9_laySets_34 rfl ?_
        refine mG.iload_n 3 dX9_laySets_35 rfl ?_
        refine mG.iconst (v := 0) dX9_laySets_36 rfl ?_
        obtain ⟨q3, hq3, h⟩ := bdp h
        refine mG.callV0 (as := [.int (v3), .int 0]) (st := [.ref (t)]) (S2 := S) (r := some (.int (q3))) dX9_laySets_37 mvX9_entry wk46_15 rfl ht rfl (by decide) (Nat.le_of_ble_eq_true rfl) (c_X9_entry ht hq3) ?_
        refine mG.bipush (v := 20) dX9_laySets_40 (by decide) ?_
        refine mG.irem dX9_laySets_42 (by decide) ?_
        refine mG.aload_n 0 dX9_laySets_43 rfl ?_
        refine mG.iload_n 3 dX9_laySets_44 rfl ?_
        refine mG.iconst (v := 2) dX9_laySets_45 rfl ?_
        obtain ⟨q4, hq4, h⟩ := bdp h
        refine mG.callV0 (as := [.int (v3), .int 2]) (st := [.int (q3 - q3 / (20 : Int32) * (20 : Int32)), .ref (t)]) (S2 := S) (r := some (.int (q4))) dX9_laySets_46 mvX9_entry wk46_15 rfl ht rfl (by decide) (Nat.le_of_ble_eq_true rfl) (c_X9_entry ht hq4) ?_
        obtain ⟨q5, hq5, h⟩ := bdp h
        refine mG.callV0 (as := [.int (q3 - q3 / (20 : Int32) * (20 : Int32)), .int (q4)]) (st := []) (S2 := q5) (r := none) dX9_laySets_49 mvX9_note wk53_14 rfl ht rfl (by decide) (Nat.le_of_ble_eq_true rfl) (c_X9_note ht hq5) ?_
        refine mG.iinc 3 (u := v3 + 1) (lv2 := [(3, .int (v3 + 1)), (0, .ref (t)), (1, .int (a1)), (2, .int (a2))]) dX9_laySets_52 rfl rfl (by decide) rfl ?_
        refine mG.goto 12 dX9_laySets_55 (by decide) ?_
        refine mG.sub (lv2 := [(0, .ref (t)), (1, .int (a1)), (2, .int (a2)), (3, .int (v3 + 1))]) [1, 2, 3, 0] rfl ?_
        exact ih q5 (v3 + 1)  h
def lX9_laySets_60 (F : Nat) (K135 : mS → Int32 → Option mS) (t : Nat) (a1 : Int32) (a2 : Int32) : Nat → mS → Int32 → Option mS
  | 0, _, _ => none
  | n + 1, S, v3 => ck (inb (4 : Int32) 2308) (if (S.1 (t + 1) (4 : Int32).toNatClampNeg) ≤ v3 then (stp (sI S t 27 (0 : Int32)) fun S2 => stp (sI S2 t 28 (1048575 : Int32)) fun S3 => K135 S3 (0 : Int32)) else (ck (inb ((68 : Int32) + ((3 : Int32) * v3)) 2308) (if (S.1 (t + 1) ((68 : Int32) + ((3 : Int32) * v3)).toNatClampNeg) = a1 then (ck (inb (((68 : Int32) + ((3 : Int32) * v3)) + (1 : Int32)) 2308) (ck (inb (((68 : Int32) + ((3 : Int32) * v3)) + (2 : Int32)) 2308) (bd (f_X9_note F S t (S.1 (t + 1) (((68 : Int32) + ((3 : Int32) * v3)) + (1 : Int32)).toNatClampNeg) (S.1 (t + 1) (((68 : Int32) + ((3 : Int32) * v3)) + (2 : Int32)).toNatClampNeg)) fun q7 => lX9_laySets_60 F K135 t a1 a2 n q7 (v3 + 1)))) else (lX9_laySets_60 F K135 t a1 a2 n S (v3 + 1)))))
set_option maxHeartbeats 4000000 in
set_option maxRecDepth 100000 in
theorem gX9_laySets_60 {x : mX} {F : Nat} {t : Nat} {a1 : Int32} {a2 : Int32}  {K135 : mS → Int32 → Option mS} {R : mS} (ht : kd0 t = 9) (hK135 : ∀ (S : mS) (v3 : Int32) , K135 S v3 = some R → mG x μX9_laySets 2 0 0 (mQe R none) 0 0 E0 S 135 [(0, .ref (t)), (2, .int (a2)), (3, .int (v3))] []) : ∀ (n : Nat) (S : mS) (v3 : Int32), lX9_laySets_60 F K135 t a1 a2 n S v3 = some R → mG x μX9_laySets 2 0 0 (mQe R none) 0 0 E0 S 60 [(0, .ref (t)), (1, .int (a1)), (2, .int (a2)), (3, .int (v3))] [] := by
  intro n
  induction n with
  | zero =>
    intro S v3 h
    cases h
  | succ n ih =>
    intro S v3 h
    unfold lX9_laySets_60 at h
    refine mG.iload_n 3 dX9_laySets_60 rfl ?_
    refine mG.aload_n 0 dX9_laySets_61 rfl ?_
    refine mG.get (v := .ref (t + 1)) dX9_laySets_62 mfX9_7 ht (lr9_a ht) ?_
    refine mG.iconst (v := 4) dX9_laySets_65 rfl ?_
    obtain ⟨b1, h⟩ := ckp h
    refine mG.iald dX9_laySets_66 (lk9_a ht) (ll9_a ht) (inbp b1) ?_
    refine mG.icmp_ge 121 dX9_laySets_67 (by decide) (fun c9 => ?_) (fun c9 => ?_)
    · replace h := itp c9 h
      refine mG.aload_n 0 dX9_laySets_121 rfl ?_
      refine mG.iconst (v := 0) dX9_laySets_122 rfl ?_
      obtain ⟨S2, hS2, h⟩ := stpp h
      refine mG.putI dX9_laySets_123 mfX9_417 rfl (Or.inl rfl) ht hS2 ?_
      refine mG.aload_n 0 dX9_laySets_126 rfl ?_
      refine mG.ldcw (v := 1048575) dX9_laySets_127 wk53_13 ?_
      obtain ⟨S3, hS3, h⟩ := stpp h
      refine mG.putI dX9_laySets_130 mfX9_420 rfl (Or.inl rfl) ht hS3 ?_
      refine mG.iconst (v := 0) dX9_laySets_133 rfl ?_
      refine mG.istore_n (lv2 := [(3, .int 0), (0, .ref (t)), (1, .int (a1)), (2, .int (a2))]) dX9_laySets_134 rfl (by decide) rfl ?_
      refine mG.sub (lv2 := [(0, .ref (t)), (2, .int (a2)), (3, .int 0)]) [1, 3, 0] rfl ?_
      exact hK135 S3 (0 : Int32)  h
    · replace h := itn c9 h
      refine mG.aload_n 0 dX9_laySets_70 rfl ?_
      refine mG.get (v := .ref (t + 1)) dX9_laySets_71 mfX9_7 ht (lr9_a ht) ?_
      refine mG.bipush (v := 68) dX9_laySets_74 (by decide) ?_
      refine mG.iconst (v := 3) dX9_laySets_76 rfl ?_
      refine mG.iload_n 3 dX9_laySets_77 rfl ?_
      refine mG.imul dX9_laySets_78 ?_
      refine mG.iadd dX9_laySets_79 ?_
      obtain ⟨b4, h⟩ := ckp h
      refine mG.iald dX9_laySets_80 (lk9_a ht) (ll9_a ht) (inbp b4) ?_
      refine mG.iload_n 1 dX9_laySets_81 rfl ?_
      refine mG.icmp_ne 115 dX9_laySets_82 (by decide) (fun c8 => ?_) (fun c8 => ?_)
      · replace h := itn c8 h
        refine mG.iinc 3 (u := v3 + 1) (lv2 := [(3, .int (v3 + 1)), (0, .ref (t)), (1, .int (a1)), (2, .int (a2))]) dX9_laySets_115 rfl rfl (by decide) rfl ?_
        refine mG.goto 60 dX9_laySets_118 (by decide) ?_
        refine mG.sub (lv2 := [(0, .ref (t)), (1, .int (a1)), (2, .int (a2)), (3, .int (v3 + 1))]) [1, 2, 3, 0] rfl ?_
        exact ih S (v3 + 1)  h
      · replace h := itp c8 h
        refine mG.aload_n 0 dX9_laySets_85 rfl ?_
        refine mG.aload_n 0 dX9_laySets_86 rfl ?_
        refine mG.get (v := .ref (t + 1)) dX9_laySets_87 mfX9_7 ht (lr9_a ht) ?_
        refine mG.bipush (v := 68) dX9_laySets_90 (by decide) ?_
        refine mG.iconst (v := 3) dX9_laySets_92 rfl ?_
        refine mG.iload_n 3 dX9_laySets_93 rfl ?_
        refine mG.imul dX9_laySets_94 ?_
        refine mG.iadd dX9_laySets_95 ?_
        refine mG.iconst (v := 1) dX9_laySets_96 rfl ?_
        refine mG.iadd dX9_laySets_97 ?_
        obtain ⟨b5, h⟩ := ckp h
        refine mG.iald dX9_laySets_98 (lk9_a ht) (ll9_a ht) (inbp b5) ?_
        refine mG.aload_n 0 dX9_laySets_99 rfl ?_
        refine mG.get (v := .ref (t + 1)) dX9_laySets_100 mfX9_7 ht (lr9_a ht) ?_
        refine mG.bipush (v := 68) dX9_laySets_103 (by decide) ?_
        refine mG.iconst (v := 3) dX9_laySets_105 rfl ?_
        refine mG.iload_n 3 dX9_laySets_106 rfl ?_
        refine mG.imul dX9_laySets_107 ?_
        refine mG.iadd dX9_laySets_108 ?_
        refine mG.iconst (v := 2) dX9_laySets_109 rfl ?_
        refine mG.iadd dX9_laySets_110 ?_
        obtain ⟨b6, h⟩ := ckp h
        refine mG.iald dX9_laySets_111 (lk9_a ht) (ll9_a ht) (inbp b6) ?_
        obtain ⟨q7, hq7, h⟩ := bdp h
        refine mG.callV0 (as := [.int (S.1 (t + 1) (((68 : Int32) + ((3 : Int32) * v3)) + (1 : Int32)).toNatClampNeg), .int (S.1 (t + 1) (((68 : Int32) + ((3 : Int32) * v3)) + (2 : Int32)).toNatClampNeg)]) (st := []) (S2 := q7) (r := none) dX9_laySets_112 mvX9_note wk53_14 rfl ht rfl (by decide) (Nat.le_of_ble_eq_true rfl) (c_X9_note ht hq7) ?_
        refine mG.iinc 3 (u := v3 + 1) (lv2 := [(3, .int (v3 + 1)), (0, .ref (t)), (1, .int (a1)), (2, .int (a2))]) dX9_laySets_115 rfl rfl (by decide) rfl ?_
        refine mG.goto 60 dX9_laySets_118 (by decide) ?_
        refine mG.sub (lv2 := [(0, .ref (t)), (1, .int (a1)), (2, .int (a2)), (3, .int (v3 + 1))]) [1, 2, 3, 0] rfl ?_
        exact ih q7 (v3 + 1)  h
def lX9_laySets_135 (F : Nat) (K156 : mS → Int32 → Option mS) (t : Nat) (a1 : Int32) (a2 : Int32) : Nat → mS → Int32 → Option mS
  | 0, _, _ => none
  | n + 1, S, v3 => if (20 : Int32) ≤ v3 then (K156 S (0 : Int32)) else (ck (inb v3 20) (stp (sI S (t + 10) v3.toNatClampNeg (0 : Int32)) fun S2 => lX9_laySets_135 F K156 t a1 a2 n S2 (v3 + 1)))
set_option maxHeartbeats 4000000 in
set_option maxRecDepth 100000 in
theorem gX9_laySets_135 {x : mX} {F : Nat} {t : Nat} {a1 : Int32} {a2 : Int32}  {K156 : mS → Int32 → Option mS} {R : mS} (ht : kd0 t = 9) (hK156 : ∀ (S : mS) (v3 : Int32) , K156 S v3 = some R → mG x μX9_laySets 2 0 0 (mQe R none) 0 0 E0 S 156 [(0, .ref (t)), (2, .int (a2)), (3, .int (v3))] []) : ∀ (n : Nat) (S : mS) (v3 : Int32), lX9_laySets_135 F K156 t a1 a2 n S v3 = some R → mG x μX9_laySets 2 0 0 (mQe R none) 0 0 E0 S 135 [(0, .ref (t)), (2, .int (a2)), (3, .int (v3))] [] := by
  intro n
  induction n with
  | zero =>
    intro S v3 h
    cases h
  | succ n ih =>
    intro S v3 h
    unfold lX9_laySets_135 at h
    refine mG.iload_n 2 dX9_laySets_135 rfl ?_
    refine mG.bipush (v := 20) dX9_laySets_136 (by decide) ?_
    refine mG.icmp_ge 154 dX9_laySets_138 (by decide) (fun c3 => ?_) (fun c3 => ?_)
    · replace h := itp c3 h
      refine mG.iconst (v := 0) dX9_laySets_154 rfl ?_
      refine mG.istore_n (lv2 := [(3, .int 0), (0, .ref (t)), (2, .int (a2))]) dX9_laySets_155 rfl (by decide) rfl ?_
      refine mG.sub (lv2 := [(0, .ref (t)), (2, .int (a2)), (3, .int 0)]) [1, 2, 0] rfl ?_
      exact hK156 S (0 : Int32)  h
    · replace h := itn c3 h
      refine mG.aload_n 0 dX9_laySets_141 rfl ?_
      refine mG.get (v := .ref (t + 10)) dX9_laySets_142 mfX9_46 ht (lr9_with ht) ?_
      refine mG.iload_n 2 dX9_laySets_145 rfl ?_
      refine mG.iconst (v := 0) dX9_laySets_146 rfl ?_
      obtain ⟨b1, h⟩ := ckp h
      obtain ⟨S2, hS2, h⟩ := stpp h
      refine mG.iast dX9_laySets_147 (lk9_with ht) (ll9_with ht) (inbp b1) hS2 ?_
      refine mG.iinc 2 (u := v3 + 1) (lv2 := [(3, .int (v3 + 1)), (0, .ref (t)), (2, .int (a2))]) dX9_laySets_148 rfl rfl (by decide) rfl ?_
      refine mG.goto 135 dX9_laySets_151 (by decide) ?_
      refine mG.sub (lv2 := [(0, .ref (t)), (2, .int (a2)), (3, .int (v3 + 1))]) [1, 2, 0] rfl ?_
      exact ih S2 (v3 + 1)  h
def lX9_laySets_214 (F : Nat) (K179 : mS → Int32 → Int32 → Option mS) (t : Nat) (a1 : Int32) (a2 : Int32) : Nat → mS → Int32 → Int32 → Int32 → Option mS
  | 0, _, _, _, _ => none
  | n + 1, S, v3, v4, v5 => if (20 : Int32) ≤ v5 then (K179 S v3 (v4 + 1)) else (if a2 = (3 : Int32) then (bd (f_X9_count F S t ((((1 : Int32) <<< (v3 &&& 31)) ||| ((1 : Int32) <<< (v4 &&& 31))) ||| ((1 : Int32) <<< (v5 &&& 31)))) fun q1 => lX9_laySets_214 F K179 t a1 a2 n q1 v3 v4 (v5 + 1)) else (K179 S v3 (v4 + 1)))
set_option maxHeartbeats 4000000 in
set_option maxRecDepth 100000 in
theorem gX9_laySets_214 {x : mX} {F : Nat} {t : Nat} {a1 : Int32} {a2 : Int32}  {K179 : mS → Int32 → Int32 → Option mS} {R : mS} (ht : kd0 t = 9) (hK179 : ∀ (S : mS) (v3 : Int32) (v4 : Int32) , K179 S v3 v4 = some R → mG x μX9_laySets 2 0 0 (mQe R none) 0 0 E0 S 179 [(0, .ref (t)), (2, .int (a2)), (3, .int (v3)), (4, .int (v4))] []) : ∀ (n : Nat) (S : mS) (v3 : Int32) (v4 : Int32) (v5 : Int32), lX9_laySets_214 F K179 t a1 a2 n S v3 v4 v5 = some R → mG x μX9_laySets 2 0 0 (mQe R none) 0 0 E0 S 214 [(0, .ref (t)), (2, .int (a2)), (3, .int (v3)), (4, .int (v4)), (5, .int (v5))] [] := by
  intro n
  induction n with
  | zero =>
    intro S v3 v4 v5 h
    cases h
  | succ n ih =>
    intro S v3 v4 v5 h
    unfold lX9_laySets_214 at h
    refine mG.iload 4 dX9_laySets_214 rfl ?_
    refine mG.bipush (v := 20) dX9_laySets_216 (by decide) ?_
    refine mG.icmp_ge 249 dX9_laySets_218 (by decide) (fun c3 => ?_) (fun c3 => ?_)
    · replace h := itp c3 h
      refine mG.iinc 3 (u := v4 + 1) (lv2 := [(4, .int (v4 + 1)), (0, .ref (t)), (2, .int (a2)), (3, .int (v3)), (5, .int (v5))]) dX9_laySets_249 rfl rfl (by decide) rfl ?_
      refine mG.goto 179 dX9_laySets_252 (by decide) ?_
      refine mG.sub (lv2 := [(0, .ref (t)), (2, .int (a2)), (3, .int (v3)), (4, .int (v4 + 1))]) [1, 2, 3, 0] rfl ?_
      exact hK179 S v3 (v4 + 1)  h
    · replace h := itn c3 h
      refine mG.iload_n 1 dX9_laySets_221 rfl ?_
      refine mG.iconst (v := 3) dX9_laySets_222 rfl ?_
      refine mG.icmp_ne 249 dX9_laySets_223 (by decide) (fun c2 => ?_) (fun c2 => ?_)
      · replace h := itn c2 h
        refine mG.iinc 3 (u := v4 + 1) (lv2 := [(4, .int (v4 + 1)), (0, .ref (t)), (2, .int (a2)), (3, .int (v3)), (5, .int (v5))]) dX9_laySets_249 rfl rfl (by decide) rfl ?_
        refine mG.goto 179 dX9_laySets_252 (by decide) ?_
        refine mG.sub (lv2 := [(0, .ref (t)), (2, .int (a2)), (3, .int (v3)), (4, .int (v4 + 1))]) [1, 2, 3, 0] rfl ?_
        exact hK179 S v3 (v4 + 1)  h
      · replace h := itp c2 h
        refine mG.aload_n 0 dX9_laySets_226 rfl ?_
        refine mG.iconst (v := 1) dX9_laySets_227 rfl ?_
        refine mG.iload_n 2 dX9_laySets_228 rfl ?_
        refine mG.ishl dX9_laySets_229 ?_
        refine mG.iconst (v := 1) dX9_laySets_230 rfl ?_
        refine mG.iload 3 dX9_laySets_231 rfl ?_
        refine mG.ishl dX9_laySets_233 ?_
        refine mG.ior dX9_laySets_234 ?_
        refine mG.iconst (v := 1) dX9_laySets_235 rfl ?_
        refine mG.iload 4 dX9_laySets_236 rfl ?_
        refine mG.ishl dX9_laySets_238 ?_
        refine mG.ior dX9_laySets_239 ?_
        obtain ⟨q1, hq1, h⟩ := bdp h
        refine mG.callV0 (as := [.int ((((1 : Int32) <<< (v3 &&& 31)) ||| ((1 : Int32) <<< (v4 &&& 31))) ||| ((1 : Int32) <<< (v5 &&& 31)))]) (st := []) (S2 := q1) (r := none) dX9_laySets_240 mvX9_count wk53_18 rfl ht rfl (by decide) (Nat.le_of_ble_eq_true rfl) (c_X9_count ht hq1) ?_
        refine mG.iinc 4 (u := v5 + 1) (lv2 := [(5, .int (v5 + 1)), (0, .ref (t)), (2, .int (a2)), (3, .int (v3)), (4, .int (v4))]) dX9_laySets_243 rfl rfl (by decide) rfl ?_
        refine mG.goto 214 dX9_laySets_246 (by decide) ?_
        refine mG.sub (lv2 := [(0, .ref (t)), (2, .int (a2)), (3, .int (v3)), (4, .int (v4)), (5, .int (v5 + 1))]) [1, 2, 3, 4, 0] rfl ?_
        exact ih q1 v3 v4 (v5 + 1)  h
def lX9_laySets_179 (F : Nat) (K156 : mS → Int32 → Option mS) (t : Nat) (a1 : Int32) (a2 : Int32) : Nat → mS → Int32 → Int32 → Option mS
  | 0, _, _, _ => none
  | n + 1, S, v3, v4 => if (20 : Int32) ≤ v4 then (K156 S (v3 + 1)) else (if a2 ≤ (1 : Int32) then (K156 S (v3 + 1)) else (if a2 = (2 : Int32) then (bd (f_X9_count F S t (((1 : Int32) <<< (v3 &&& 31)) ||| ((1 : Int32) <<< (v4 &&& 31)))) fun q1 => lX9_laySets_214 F (fun (S : mS) (v3 : Int32) (v4 : Int32) => lX9_laySets_179 F K156 t a1 a2 n S v3 v4) t a1 a2 F q1 v3 v4 (v4 + (1 : Int32))) else (lX9_laySets_214 F (fun (S : mS) (v3 : Int32) (v4 : Int32) => lX9_laySets_179 F K156 t a1 a2 n S v3 v4) t a1 a2 F S v3 v4 (v4 + (1 : Int32)))))
set_option maxHeartbeats 4000000 in
set_option maxRecDepth 100000 in
theorem gX9_laySets_179 {x : mX} {F : Nat} {t : Nat} {a1 : Int32} {a2 : Int32}  {K156 : mS → Int32 → Option mS} {R : mS} (ht : kd0 t = 9) (hK156 : ∀ (S : mS) (v3 : Int32) , K156 S v3 = some R → mG x μX9_laySets 2 0 0 (mQe R none) 0 0 E0 S 156 [(0, .ref (t)), (2, .int (a2)), (3, .int (v3))] []) : ∀ (n : Nat) (S : mS) (v3 : Int32) (v4 : Int32), lX9_laySets_179 F K156 t a1 a2 n S v3 v4 = some R → mG x μX9_laySets 2 0 0 (mQe R none) 0 0 E0 S 179 [(0, .ref (t)), (2, .int (a2)), (3, .int (v3)), (4, .int (v4))] [] := by
  intro n
  induction n with
  | zero =>
    intro S v3 v4 h
    cases h
  | succ n ih =>
    intro S v3 v4 h
    unfold lX9_laySets_179 at h
    refine mG.iload 3 dX9_laySets_179 rfl ?_
    refine mG.bipush (v := 20) dX9_laySets_181 (by decide) ?_
    refine mG.icmp_ge 255 dX9_laySets_183 (by decide) (fun c4 => ?_) (fun c4 => ?_)
    · replace h := itp c4 h
      refine mG.iinc 2 (u := v3 + 1) (lv2 := [(3, .int (v3 + 1)), (0, .ref (t)), (2, .int (a2)), (4, .int (v4))]) dX9_laySets_255 rfl rfl (by decide) rfl ?_
      refine mG.goto 156 dX9_laySets_258 (by decide) ?_
      refine mG.sub (lv2 := [(0, .ref (t)), (2, .int (a2)), (3, .int (v3 + 1))]) [1, 2, 0] rfl ?_
      exact hK156 S (v3 + 1)  h
    · replace h := itn c4 h
      refine mG.iload_n 1 dX9_laySets_186 rfl ?_
      refine mG.iconst (v := 1) dX9_laySets_187 rfl ?_
      refine mG.icmp_le 255 dX9_laySets_188 (by decide) (fun c3 => ?_) (fun c3 => ?_)
      · replace h := itp c3 h
        refine mG.iinc 2 (u := v3 + 1) (lv2 := [(3, .int (v3 + 1)), (0, .ref (t)), (2, .int (a2)), (4, .int (v4))]) dX9_laySets_255 rfl rfl (by decide) rfl ?_
        refine mG.goto 156 dX9_laySets_258 (by decide) ?_
        refine mG.sub (lv2 := [(0, .ref (t)), (2, .int (a2)), (3, .int (v3 + 1))]) [1, 2, 0] rfl ?_
        exact hK156 S (v3 + 1)  h
      · replace h := itn c3 h
        refine mG.iload_n 1 dX9_laySets_191 rfl ?_
        refine mG.iconst (v := 2) dX9_laySets_192 rfl ?_
        refine mG.icmp_ne 208 dX9_laySets_193 (by decide) (fun c2 => ?_) (fun c2 => ?_)
        · replace h := itn c2 h
          refine mG.iload 3 dX9_laySets_208 rfl ?_
          refine mG.iconst (v := 1) dX9_laySets_210 rfl ?_
          refine mG.iadd dX9_laySets_211 ?_
          refine mG.istore (lv2 := [(5, .int (v4 + (1 : Int32))), (0, .ref (t)), (2, .int (a2)), (3, .int (v3)), (4, .int (v4))]) dX9_laySets_212 (by decide) rfl ?_
          refine mG.sub (lv2 := [(0, .ref (t)), (2, .int (a2)), (3, .int (v3)), (4, .int (v4)), (5, .int (v4 + (1 : Int32)))]) [1, 2, 3, 4, 0] rfl ?_
          exact gX9_laySets_214 ht (fun S v3 v4 h => by exact ih S v3 v4  h) F S v3 v4 (v4 + (1 : Int32))  h
        · replace h := itp c2 h
          refine mG.aload_n 0 dX9_laySets_196 rfl ?_
          refine mG.iconst (v := 1) dX9_laySets_197 rfl ?_
          refine mG.iload_n 2 dX9_laySets_198 rfl ?_
          refine mG.ishl dX9_laySets_199 ?_
          refine mG.iconst (v := 1) dX9_laySets_200 rfl ?_
          refine mG.iload 3 dX9_laySets_201 rfl ?_
          refine mG.ishl dX9_laySets_203 ?_
          refine mG.ior dX9_laySets_204 ?_
          obtain ⟨q1, hq1, h⟩ := bdp h
          refine mG.callV0 (as := [.int (((1 : Int32) <<< (v3 &&& 31)) ||| ((1 : Int32) <<< (v4 &&& 31)))]) (st := []) (S2 := q1) (r := none) dX9_laySets_205 mvX9_count wk53_18 rfl ht rfl (by decide) (Nat.le_of_ble_eq_true rfl) (c_X9_count ht hq1) ?_
          refine mG.iload 3 dX9_laySets_208 rfl ?_
          refine mG.iconst (v := 1) dX9_laySets_210 rfl ?_
          refine mG.iadd dX9_laySets_211 ?_
          refine mG.istore (lv2 := [(5, .int (v4 + (1 : Int32))), (0, .ref (t)), (2, .int (a2)), (3, .int (v3)), (4, .int (v4))]) dX9_laySets_212 (by decide) rfl ?_
          refine mG.sub (lv2 := [(0, .ref (t)), (2, .int (a2)), (3, .int (v3)), (4, .int (v4)), (5, .int (v4 + (1 : Int32)))]) [1, 2, 3, 4, 0] rfl ?_
          exact gX9_laySets_214 ht (fun S v3 v4 h => by exact ih S v3 v4  h) F q1 v3 v4 (v4 + (1 : Int32))  h
def lX9_laySets_156 (F : Nat)  (t : Nat) (a1 : Int32) (a2 : Int32) : Nat → mS → Int32 → Option mS
  | 0, _, _ => none
  | n + 1, S, v3 => if (20 : Int32) ≤ v3 then (some S) else (if a2 = (1 : Int32) then (bd (f_X9_count F S t ((1 : Int32) <<< (v3 &&& 31))) fun q1 => lX9_laySets_179 F (fun (S : mS) (v3 : Int32) => lX9_laySets_156 F  t a1 a2 n S v3) t a1 a2 F q1 v3 (v3 + (1 : Int32))) else (lX9_laySets_179 F (fun (S : mS) (v3 : Int32) => lX9_laySets_156 F  t a1 a2 n S v3) t a1 a2 F S v3 (v3 + (1 : Int32))))
set_option maxHeartbeats 4000000 in
set_option maxRecDepth 100000 in
theorem gX9_laySets_156 {x : mX} {F : Nat} {t : Nat} {a1 : Int32} {a2 : Int32}   {R : mS} (ht : kd0 t = 9)  : ∀ (n : Nat) (S : mS) (v3 : Int32), lX9_laySets_156 F  t a1 a2 n S v3 = some R → mG x μX9_laySets 2 0 0 (mQe R none) 0 0 E0 S 156 [(0, .ref (t)), (2, .int (a2)), (3, .int (v3))] [] := by
  intro n
  induction n with
  | zero =>
    intro S v3 h
    cases h
  | succ n ih =>
    intro S v3 h
    unfold lX9_laySets_156 at h
    refine mG.iload_n 2 dX9_laySets_156 rfl ?_
    refine mG.bipush (v := 20) dX9_laySets_157 (by decide) ?_
    refine mG.icmp_ge 261 dX9_laySets_159 (by decide) (fun c3 => ?_) (fun c3 => ?_)
    · replace h := itp c3 h
      obtain rfl := Option.some.inj h
      exact mG.vret dX9_laySets_261 rfl ⟨rfl, rfl, rfl⟩
    · replace h := itn c3 h
      refine mG.iload_n 1 dX9_laySets_162 rfl ?_
      refine mG.iconst (v := 1) dX9_laySets_163 rfl ?_
      refine mG.icmp_ne 174 dX9_laySets_164 (by decide) (fun c2 => ?_) (fun c2 => ?_)
      · replace h := itn c2 h
        refine mG.iload_n 2 dX9_laySets_174 rfl ?_
        refine mG.iconst (v := 1) dX9_laySets_175 rfl ?_
        refine mG.iadd dX9_laySets_176 ?_
        refine mG.istore (lv2 := [(4, .int (v3 + (1 : Int32))), (0, .ref (t)), (2, .int (a2)), (3, .int (v3))]) dX9_laySets_177 (by decide) rfl ?_
        refine mG.sub (lv2 := [(0, .ref (t)), (2, .int (a2)), (3, .int (v3)), (4, .int (v3 + (1 : Int32)))]) [1, 2, 3, 0] rfl ?_
        exact gX9_laySets_179 ht (fun S v3 h => by exact ih S v3  h) F S v3 (v3 + (1 : Int32))  h
      · replace h := itp c2 h
        refine mG.aload_n 0 dX9_laySets_167 rfl ?_
        refine mG.iconst (v := 1) dX9_laySets_168 rfl ?_
        refine mG.iload_n 2 dX9_laySets_169 rfl ?_
        refine mG.ishl dX9_laySets_170 ?_
        obtain ⟨q1, hq1, h⟩ := bdp h
        refine mG.callV0 (as := [.int ((1 : Int32) <<< (v3 &&& 31))]) (st := []) (S2 := q1) (r := none) dX9_laySets_171 mvX9_count wk53_18 rfl ht rfl (by decide) (Nat.le_of_ble_eq_true rfl) (c_X9_count ht hq1) ?_
        refine mG.iload_n 2 dX9_laySets_174 rfl ?_
        refine mG.iconst (v := 1) dX9_laySets_175 rfl ?_
        refine mG.iadd dX9_laySets_176 ?_
        refine mG.istore (lv2 := [(4, .int (v3 + (1 : Int32))), (0, .ref (t)), (2, .int (a2)), (3, .int (v3))]) dX9_laySets_177 (by decide) rfl ?_
        refine mG.sub (lv2 := [(0, .ref (t)), (2, .int (a2)), (3, .int (v3)), (4, .int (v3 + (1 : Int32)))]) [1, 2, 3, 0] rfl ?_
        exact gX9_laySets_179 ht (fun S v3 h => by exact ih S v3  h) F q1 v3 (v3 + (1 : Int32))  h
def f_X9_laySets (F : Nat) (S : mS) (t : Nat) (a1 : Int32) (a2 : Int32) : Option mS := stp (sI S t 25 (0 : Int32)) fun S1 => stp (sI S1 t 26 (0 : Int32)) fun S2 => lX9_laySets_12 F (fun (S : mS) (v3 : Int32) => lX9_laySets_60 F (fun (S : mS) (v3 : Int32) => lX9_laySets_135 F (fun (S : mS) (v3 : Int32) => lX9_laySets_156 F  t a1 a2 F S v3) t a1 a2 F S v3) t a1 a2 F S v3) t a1 a2 F S2 (0 : Int32)
set_option maxHeartbeats 4000000 in
set_option maxRecDepth 100000 in
theorem c_X9_laySets {F : Nat} {S : mS} {t : Nat} {a1 : Int32} {a2 : Int32} {R : mS} (ht : kd0 t = 9) (h : f_X9_laySets F S t a1 a2 = some R) : mCt μX9_laySets 2 0 0 E0 S [.ref (t), .int (a1), .int (a2)] (mQe R none) := by
  unfold f_X9_laySets at h
  refine mCt.of (by decide) (Nat.le_of_ble_eq_true rfl) ?_
  intro x
  refine mG.aload_n 0 dX9_laySets_0 rfl ?_
  refine mG.iconst (v := 0) dX9_laySets_1 rfl ?_
  obtain ⟨S1, hS1, h⟩ := stpp h
  refine mG.putI dX9_laySets_2 mfX9_411 rfl (Or.inl rfl) ht hS1 ?_
  refine mG.aload_n 0 dX9_laySets_5 rfl ?_
  refine mG.iconst (v := 0) dX9_laySets_6 rfl ?_
  obtain ⟨S2, hS2, h⟩ := stpp h
  refine mG.putI dX9_laySets_7 mfX9_414 rfl (Or.inl rfl) ht hS2 ?_
  refine mG.iconst (v := 0) dX9_laySets_10 rfl ?_
  refine mG.istore_n (lv2 := [(3, .int 0), (0, .ref (t)), (1, .int (a1)), (2, .int (a2))]) dX9_laySets_11 rfl (by decide) rfl ?_
  refine mG.sub (lv2 := [(0, .ref (t)), (1, .int (a1)), (2, .int (a2)), (3, .int 0)]) [1, 2, 3, 0] rfl ?_
  exact gX9_laySets_12 ht (fun S v3 h => by exact gX9_laySets_60 ht (fun S v3 h => by exact gX9_laySets_135 ht (fun S v3 h => by exact gX9_laySets_156 ht  F S v3  h) F S v3  h) F S v3  h) F S2 (0 : Int32)  h
