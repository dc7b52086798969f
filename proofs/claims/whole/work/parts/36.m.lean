theorem dX9_body_0 : decode cX9_body 0 = .ok (.iload_n 1, 1) := by decide +kernel
theorem dX9_body_1 : decode cX9_body 1 = .ok (.tableswitch 150 3 8 #[39, 45, 56, 92, 103, 139], 39) := by decide +kernel
theorem dX9_body_40 : decode cX9_body 40 = .ok (.aload_n 0, 1) := by decide +kernel
theorem dX9_body_41 : decode cX9_body 41 = .ok (.iload_n 2, 1) := by decide +kernel
theorem dX9_body_42 : decode cX9_body 42 = .ok (.invokevirtual 240, 3) := by decide +kernel
theorem dX9_body_45 : decode cX9_body 45 = .ok (.ireturn, 1) := by decide +kernel
theorem dX9_body_46 : decode cX9_body 46 = .ok (.aload_n 0, 1) := by decide +kernel
theorem dX9_body_47 : decode cX9_body 47 = .ok (.iload_n 2, 1) := by decide +kernel
theorem dX9_body_48 : decode cX9_body 48 = .ok (.iconst 1, 1) := by decide +kernel
theorem dX9_body_49 : decode cX9_body 49 = .ok (.iadd, 1) := by decide +kernel
theorem dX9_body_50 : decode cX9_body 50 = .ok (.iconst 0, 1) := by decide +kernel
theorem dX9_body_51 : decode cX9_body 51 = .ok (.bipush 6, 2) := by decide +kernel
theorem dX9_body_53 : decode cX9_body 53 = .ok (.invokevirtual 228, 3) := by decide +kernel
theorem dX9_body_56 : decode cX9_body 56 = .ok (.ireturn, 1) := by decide +kernel
theorem dX9_body_57 : decode cX9_body 57 = .ok (.aload_n 0, 1) := by decide +kernel
theorem dX9_body_58 : decode cX9_body 58 = .ok (.iload_n 2, 1) := by decide +kernel
theorem dX9_body_59 : decode cX9_body 59 = .ok (.iconst 1, 1) := by decide +kernel
theorem dX9_body_60 : decode cX9_body 60 = .ok (.iadd, 1) := by decide +kernel
theorem dX9_body_61 : decode cX9_body 61 = .ok (.iconst 0, 1) := by decide +kernel
theorem dX9_body_62 : decode cX9_body 62 = .ok (.bipush 6, 2) := by decide +kernel
theorem dX9_body_64 : decode cX9_body 64 = .ok (.invokevirtual 228, 3) := by decide +kernel
theorem dX9_body_67 : decode cX9_body 67 = .ok (.istore_n 3, 1) := by decide +kernel
theorem dX9_body_68 : decode cX9_body 68 = .ok (.iload_n 3, 1) := by decide +kernel
theorem dX9_body_69 : decode cX9_body 69 = .ok (.ifCond .eq 7, 3) := by decide +kernel
theorem dX9_body_72 : decode cX9_body 72 = .ok (.iload_n 3, 1) := by decide +kernel
theorem dX9_body_73 : decode cX9_body 73 = .ok (.goto 19, 3) := by decide +kernel
theorem dX9_body_76 : decode cX9_body 76 = .ok (.aload_n 0, 1) := by decide +kernel
theorem dX9_body_77 : decode cX9_body 77 = .ok (.bipush 116, 2) := by decide +kernel
theorem dX9_body_79 : decode cX9_body 79 = .ok (.bipush 111, 2) := by decide +kernel
theorem dX9_body_81 : decode cX9_body 81 = .ok (.invokestatic 130, 3) := by decide +kernel
theorem dX9_body_84 : decode cX9_body 84 = .ok (.iload_n 2, 1) := by decide +kernel
theorem dX9_body_85 : decode cX9_body 85 = .ok (.iconst 2, 1) := by decide +kernel
theorem dX9_body_86 : decode cX9_body 86 = .ok (.iadd, 1) := by decide +kernel
theorem dX9_body_87 : decode cX9_body 87 = .ok (.bipush 6, 2) := by decide +kernel
theorem dX9_body_89 : decode cX9_body 89 = .ok (.invokevirtual 236, 3) := by decide +kernel
theorem dX9_body_92 : decode cX9_body 92 = .ok (.ireturn, 1) := by decide +kernel
theorem dX9_body_93 : decode cX9_body 93 = .ok (.aload_n 0, 1) := by decide +kernel
theorem dX9_body_94 : decode cX9_body 94 = .ok (.iload_n 2, 1) := by decide +kernel
theorem dX9_body_95 : decode cX9_body 95 = .ok (.iconst 1, 1) := by decide +kernel
theorem dX9_body_96 : decode cX9_body 96 = .ok (.iadd, 1) := by decide +kernel
theorem dX9_body_97 : decode cX9_body 97 = .ok (.iconst 0, 1) := by decide +kernel
theorem dX9_body_98 : decode cX9_body 98 = .ok (.bipush 6, 2) := by decide +kernel
theorem dX9_body_100 : decode cX9_body 100 = .ok (.invokevirtual 228, 3) := by decide +kernel
theorem dX9_body_103 : decode cX9_body 103 = .ok (.ireturn, 1) := by decide +kernel
theorem dX9_body_104 : decode cX9_body 104 = .ok (.aload_n 0, 1) := by decide +kernel
theorem dX9_body_105 : decode cX9_body 105 = .ok (.iload_n 2, 1) := by decide +kernel
theorem dX9_body_106 : decode cX9_body 106 = .ok (.iconst 1, 1) := by decide +kernel
theorem dX9_body_107 : decode cX9_body 107 = .ok (.iadd, 1) := by decide +kernel
theorem dX9_body_108 : decode cX9_body 108 = .ok (.iconst 0, 1) := by decide +kernel
theorem dX9_body_109 : decode cX9_body 109 = .ok (.bipush 19, 2) := by decide +kernel
theorem dX9_body_111 : decode cX9_body 111 = .ok (.invokevirtual 228, 3) := by decide +kernel
theorem dX9_body_114 : decode cX9_body 114 = .ok (.istore_n 3, 1) := by decide +kernel
theorem dX9_body_115 : decode cX9_body 115 = .ok (.iload_n 3, 1) := by decide +kernel
theorem dX9_body_116 : decode cX9_body 116 = .ok (.ifCond .eq 7, 3) := by decide +kernel
theorem dX9_body_119 : decode cX9_body 119 = .ok (.iload_n 3, 1) := by decide +kernel
theorem dX9_body_120 : decode cX9_body 120 = .ok (.goto 19, 3) := by decide +kernel
theorem dX9_body_123 : decode cX9_body 123 = .ok (.aload_n 0, 1) := by decide +kernel
theorem dX9_body_124 : decode cX9_body 124 = .ok (.bipush 111, 2) := by decide +kernel
theorem dX9_body_126 : decode cX9_body 126 = .ok (.bipush 102, 2) := by decide +kernel
theorem dX9_body_128 : decode cX9_body 128 = .ok (.invokestatic 130, 3) := by decide +kernel
theorem dX9_body_131 : decode cX9_body 131 = .ok (.iload_n 2, 1) := by decide +kernel
theorem dX9_body_132 : decode cX9_body 132 = .ok (.iconst 2, 1) := by decide +kernel
theorem dX9_body_133 : decode cX9_body 133 = .ok (.iadd, 1) := by decide +kernel
theorem dX9_body_134 : decode cX9_body 134 = .ok (.bipush 6, 2) := by decide +kernel
theorem dX9_body_136 : decode cX9_body 136 = .ok (.invokevirtual 236, 3) := by decide +kernel
theorem dX9_body_139 : decode cX9_body 139 = .ok (.ireturn, 1) := by decide +kernel
theorem dX9_body_140 : decode cX9_body 140 = .ok (.aload_n 0, 1) := by decide +kernel
theorem dX9_body_141 : decode cX9_body 141 = .ok (.iload_n 2, 1) := by decide +kernel
theorem dX9_body_142 : decode cX9_body 142 = .ok (.iconst 1, 1) := by decide +kernel
theorem dX9_body_143 : decode cX9_body 143 = .ok (.iadd, 1) := by decide +kernel
theorem dX9_body_144 : decode cX9_body 144 = .ok (.iconst 1, 1) := by decide +kernel
theorem dX9_body_145 : decode cX9_body 145 = .ok (.bipush 60, 2) := by decide +kernel
theorem dX9_body_147 : decode cX9_body 147 = .ok (.invokevirtual 228, 3) := by decide +kernel
theorem dX9_body_150 : decode cX9_body 150 = .ok (.ireturn, 1) := by decide +kernel
theorem dX9_body_151 : decode cX9_body 151 = .ok (.aload_n 0, 1) := by decide +kernel
theorem dX9_body_152 : decode cX9_body 152 = .ok (.iload_n 2, 1) := by decide +kernel
theorem dX9_body_153 : decode cX9_body 153 = .ok (.iload_n 1, 1) := by decide +kernel
theorem dX9_body_154 : decode cX9_body 154 = .ok (.iconst 2, 1) := by decide +kernel
theorem dX9_body_155 : decode cX9_body 155 = .ok (.if_icmp .ne 7, 3) := by decide +kernel
theorem dX9_body_158 : decode cX9_body 158 = .ok (.iconst 1, 1) := by decide +kernel
theorem dX9_body_159 : decode cX9_body 159 = .ok (.goto 4, 3) := by decide +kernel
theorem dX9_body_162 : decode cX9_body 162 = .ok (.iconst 0, 1) := by decide +kernel
theorem dX9_body_163 : decode cX9_body 163 = .ok (.invokevirtual 243, 3) := by decide +kernel
theorem dX9_body_166 : decode cX9_body 166 = .ok (.ireturn, 1) := by decide +kernel
def f_X9_body (F : Nat) (S : mS) (t : Nat) (a1 : Int32) (a2 : Int32) : Option (mS × Int32) := if a1 = (3 : Int32) then (bd (f_X9_houseClause F S t a2) fun q2 => some (q2.1, q2.2)) else (if a1 = (4 : Int32) then (bd (f_X9_figure F S t (a2 + (1 : Int32)) (0 : Int32) (6 : Int32)) fun q4 => some (q4.1, q4.2)) else (if a1 = (5 : Int32) then (bd (f_X9_figure F S t (a2 + (1 : Int32)) (0 : Int32) (6 : Int32)) fun q6 => if q6.2 = 0 then (bd (f_X9_worded F q6.1 t (f_X9_w2 q6.1 (116 : Int32) (111 : Int32)) (a2 + (2 : Int32)) (6 : Int32)) fun q7 => some (q7.1, q7.2)) else (some (q6.1, q6.2))) else (if a1 = (6 : Int32) then (bd (f_X9_figure F S t (a2 + (1 : Int32)) (0 : Int32) (6 : Int32)) fun q10 => some (q10.1, q10.2)) else (if a1 = (7 : Int32) then (bd (f_X9_figure F S t (a2 + (1 : Int32)) (0 : Int32) (19 : Int32)) fun q12 => if q12.2 = 0 then (bd (f_X9_worded F q12.1 t (f_X9_w2 q12.1 (111 : Int32) (102 : Int32)) (a2 + (2 : Int32)) (6 : Int32)) fun q13 => some (q13.1, q13.2)) else (some (q12.1, q12.2))) else (if a1 = (8 : Int32) then (bd (f_X9_figure F S t (a2 + (1 : Int32)) (1 : Int32) (60 : Int32)) fun q16 => some (q16.1, q16.2)) else (if a1 = (2 : Int32) then (bd (f_X9_lawClause F S t a2 (1 : Int32)) fun q18 => some (q18.1, q18.2)) else (bd (f_X9_lawClause F S t a2 (0 : Int32)) fun q17 => some (q17.1, q17.2))))))))
set_option maxHeartbeats 4000000 in
set_option maxRecDepth 100000 in
theorem c_X9_body {F : Nat} {S : mS} {t : Nat} {a1 : Int32} {a2 : Int32} {R : mS × Int32} (ht : kd0 t = 9) (h : f_X9_body F S t a1 a2 = some R) : mCt μX9_body 10 0 0 E0 S [.ref (t), .int (a1), .int (a2)] (mQe R.1 (some (.int R.2))) := by
  unfold f_X9_body at h
  refine mCt.of (by decide) (Nat.le_of_ble_eq_true rfl) ?_
  intro x
  refine mG.iload_n 1 dX9_body_0 rfl ?_
  by_cases c1 : a1 = (3 : Int32)
  · replace h := itp c1 h
    refine mG.tblIn (39) 40 dX9_body_1 (by rw [c1]; decide) (by rw [c1]; decide) (by rw [c1]; decide) (by decide) ?_
    refine mG.aload_n 0 dX9_body_40 rfl ?_
    refine mG.iload_n 2 dX9_body_41 rfl ?_
    obtain ⟨q2, hq2, h⟩ := bdp h
    refine mG.callV0 (as := [.int (a2)]) (st := []) (S2 := q2.1) (r := some (.int (q2.2))) dX9_body_42 mvX9_houseClause wk22_18 rfl ht rfl (by decide) (Nat.le_of_ble_eq_true rfl) (c_X9_houseClause ht hq2) ?_
    obtain rfl := Option.some.inj h
    exact mG.iret dX9_body_45 rfl ⟨rfl, rfl, rfl⟩
  replace h := itn c1 h
  by_cases c3 : a1 = (4 : Int32)
  · replace h := itp c3 h
    refine mG.tblIn (45) 46 dX9_body_1 (by rw [c3]; decide) (by rw [c3]; decide) (by rw [c3]; decide) (by decide) ?_
    refine mG.aload_n 0 dX9_body_46 rfl ?_
    refine mG.iload_n 2 dX9_body_47 rfl ?_
    refine mG.iconst (v := 1) dX9_body_48 rfl ?_
    refine mG.iadd dX9_body_49 ?_
    refine mG.iconst (v := 0) dX9_body_50 rfl ?_
    refine mG.bipush (v := 6) dX9_body_51 (by decide) ?_
    obtain ⟨q4, hq4, h⟩ := bdp h
    refine mG.callV0 (as := [.int (a2 + (1 : Int32)), .int 0, .int 6]) (st := []) (S2 := q4.1) (r := some (.int (q4.2))) dX9_body_53 mvX9_figure wk22_22 rfl ht rfl (by decide) (Nat.le_of_ble_eq_true rfl) (c_X9_figure ht hq4) ?_
    obtain rfl := Option.some.inj h
    exact mG.iret dX9_body_56 rfl ⟨rfl, rfl, rfl⟩
  replace h := itn c3 h
  by_cases c5 : a1 = (5 : Int32)
  · replace h := itp c5 h
    refine mG.tblIn (56) 57 dX9_body_1 (by rw [c5]; decide) (by rw [c5]; decide) (by rw [c5]; decide) (by decide) ?_
    refine mG.aload_n 0 dX9_body_57 rfl ?_
    refine mG.iload_n 2 dX9_body_58 rfl ?_
    refine mG.iconst (v := 1) dX9_body_59 rfl ?_
    refine mG.iadd dX9_body_60 ?_
    refine mG.iconst (v := 0) dX9_body_61 rfl ?_
    refine mG.bipush (v := 6) dX9_body_62 (by decide) ?_
    obtain ⟨q6, hq6, h⟩ := bdp h
    refine mG.callV0 (as := [.int (a2 + (1 : Int32)), .int 0, .int 6]) (st := []) (S2 := q6.1) (r := some (.int (q6.2))) dX9_body_64 mvX9_figure wk22_22 rfl ht rfl (by decide) (Nat.le_of_ble_eq_true rfl) (c_X9_figure ht hq6) ?_
    refine mG.istore_n (lv2 := [(3, .int (q6.2)), (0, .ref (t)), (1, .int (a1)), (2, .int (a2))]) dX9_body_67 rfl (by decide) rfl ?_
    refine mG.iload_n 0 dX9_body_68 rfl ?_
    refine mG.if_eq 76 dX9_body_69 (by decide) (fun c8 => ?_) (fun c8 => ?_)
    · replace h := itp c8 h
      refine mG.aload_n 1 dX9_body_76 rfl ?_
      refine mG.bipush (v := 116) dX9_body_77 (by decide) ?_
      refine mG.bipush (v := 111) dX9_body_79 (by decide) ?_
      refine mG.callS0 (as := [.int 116, .int 111]) (st := [.ref (t)]) (S2 := q6.1) (r := some (.long (f_X9_w2 q6.1 (116 : Int32) (111 : Int32)))) dX9_body_81 mbX9_w2 wk22_2 wk22_1 rfl rfl (by decide) (Nat.le_of_ble_eq_true rfl) (c_X9_w2  rfl) ?_
      refine mG.iload_n 3 dX9_body_84 rfl ?_
      refine mG.iconst (v := 2) dX9_body_85 rfl ?_
      refine mG.iadd dX9_body_86 ?_
      refine mG.bipush (v := 6) dX9_body_87 (by decide) ?_
      obtain ⟨q7, hq7, h⟩ := bdp h
      refine mG.callV0 (as := [.long (f_X9_w2 q6.1 (116 : Int32) (111 : Int32)), .int (a2 + (2 : Int32)), .int 6]) (st := []) (S2 := q7.1) (r := some (.int (q7.2))) dX9_body_89 mvX9_worded wk23_2 rfl ht rfl (by decide) (Nat.le_of_ble_eq_true rfl) (c_X9_worded ht hq7) ?_
      obtain rfl := Option.some.inj h
      exact mG.iret dX9_body_92 rfl ⟨rfl, rfl, rfl⟩
    · replace h := itn c8 h
      refine mG.iload_n 0 dX9_body_72 rfl ?_
      refine mG.goto 92 dX9_body_73 (by decide) ?_
      obtain rfl := Option.some.inj h
      exact mG.iret dX9_body_92 rfl ⟨rfl, rfl, rfl⟩
  replace h := itn c5 h
  by_cases c9 : a1 = (6 : Int32)
  · replace h := itp c9 h
    refine mG.tblIn (92) 93 dX9_body_1 (by rw [c9]; decide) (by rw [c9]; decide) (by rw [c9]; decide) (by decide) ?_
    refine mG.aload_n 0 dX9_body_93 rfl ?_
    refine mG.iload_n 2 dX9_body_94 rfl ?_
    refine mG.iconst (v := 1) dX9_body_95 rfl ?_
    refine mG.iadd dX9_body_96 ?_
    refine mG.iconst (v := 0) dX9_body_97 rfl ?_
    refine mG.bipush (v := 6) dX9_body_98 (by decide) ?_
    obtain ⟨q10, hq10, h⟩ := bdp h
    refine mG.callV0 (as := [.int (a2 + (1 : Int32)), .int 0, .int 6]) (st := []) (S2 := q10.1) (r := some (.int (q10.2))) dX9_body_100 mvX9_figure wk22_22 rfl ht rfl (by decide) (Nat.le_of_ble_eq_true rfl) (c_X9_figure ht hq10) ?_
    obtain rfl := Option.some.inj h
    exact mG.iret dX9_body_103 rfl ⟨rfl, rfl, rfl⟩
  replace h := itn c9 h
  by_cases c11 : a1 = (7 : Int32)
  · replace h := itp c11 h
    refine mG.tblIn (103) 104 dX9_body_1 (by rw [c11]; decide) (by rw [c11]; decide) (by rw [c11]; decide) (by decide) ?_
    refine mG.aload_n 0 dX9_body_104 rfl ?_
    refine mG.iload_n 2 dX9_body_105 rfl ?_
    refine mG.iconst (v := 1) dX9_body_106 rfl ?_
    refine mG.iadd dX9_body_107 ?_
    refine mG.iconst (v := 0) dX9_body_108 rfl ?_
    refine mG.bipush (v := 19) dX9_body_109 (by decide) ?_
    obtain ⟨q12, hq12, h⟩ := bdp h
    refine mG.callV0 (as := [.int (a2 + (1 : Int32)), .int 0, .int 19]) (st := []) (S2 := q12.1) (r := some (.int (q12.2))) dX9_body_111 mvX9_figure wk22_22 rfl ht rfl (by decide) (Nat.le_of_ble_eq_true rfl) (c_X9_figure ht hq12) ?_
    refine mG.istore_n (lv2 := [(3, .int (q12.2)), (0, .ref (t)), (1, .int (a1)), (2, .int (a2))]) dX9_body_114 rfl (by decide) rfl ?_
    refine mG.iload_n 0 dX9_body_115 rfl ?_
    refine mG.if_eq 123 dX9_body_116 (by decide) (fun c14 => ?_) (fun c14 => ?_)
    · replace h := itp c14 h
      refine mG.aload_n 1 dX9_body_123 rfl ?_
      refine mG.bipush (v := 111) dX9_body_124 (by decide) ?_
      refine mG.bipush (v := 102) dX9_body_126 (by decide) ?_
      refine mG.callS0 (as := [.int 111, .int 102]) (st := [.ref (t)]) (S2 := q12.1) (r := some (.long (f_X9_w2 q12.1 (111 : Int32) (102 : Int32)))) dX9_body_128 mbX9_w2 wk22_2 wk22_1 rfl rfl (by decide) (Nat.le_of_ble_eq_true rfl) (c_X9_w2  rfl) ?_
      refine mG.iload_n 3 dX9_body_131 rfl ?_
      refine mG.iconst (v := 2) dX9_body_132 rfl ?_
      refine mG.iadd dX9_body_133 ?_
      refine mG.bipush (v := 6) dX9_body_134 (by decide) ?_
      obtain ⟨q13, hq13, h⟩ := bdp h
      refine mG.callV0 (as := [.long (f_X9_w2 q12.1 (111 : Int32) (102 : Int32)), .int (a2 + (2 : Int32)), .int 6]) (st := []) (S2 := q13.1) (r := some (.int (q13.2))) dX9_body_136 mvX9_worded wk23_2 rfl ht rfl (by decide) (Nat.le_of_ble_eq_true rfl) (c_X9_worded ht hq13) ?_
      obtain rfl := Option.some.inj h
      exact mG.iret dX9_body_139 rfl ⟨rfl, rfl, rfl⟩
    · replace h := itn c14 h
      refine mG.iload_n 0 dX9_body_119 rfl ?_
      refine mG.goto 139 dX9_body_120 (by decide) ?_
      obtain rfl := Option.some.inj h
      exact mG.iret dX9_body_139 rfl ⟨rfl, rfl, rfl⟩
  replace h := itn c11 h
  by_cases c15 : a1 = (8 : Int32)
  · replace h := itp c15 h
    refine mG.tblIn (139) 140 dX9_body_1 (by rw [c15]; decide) (by rw [c15]; decide) (by rw [c15]; decide) (by decide) ?_
    refine mG.aload_n 0 dX9_body_140 rfl ?_
    refine mG.iload_n 2 dX9_body_141 rfl ?_
    refine mG.iconst (v := 1) dX9_body_142 rfl ?_
    refine mG.iadd dX9_body_143 ?_
    refine mG.iconst (v := 1) dX9_body_144 rfl ?_
    refine mG.bipush (v := 60) dX9_body_145 (by decide) ?_
    obtain ⟨q16, hq16, h⟩ := bdp h
    refine mG.callV0 (as := [.int (a2 + (1 : Int32)), .int 1, .int 60]) (st := []) (S2 := q16.1) (r := some (.int (q16.2))) dX9_body_147 mvX9_figure wk22_22 rfl ht rfl (by decide) (Nat.le_of_ble_eq_true rfl) (c_X9_figure ht hq16) ?_
    obtain rfl := Option.some.inj h
    exact mG.iret dX9_body_150 rfl ⟨rfl, rfl, rfl⟩
  replace h := itn c15 h
  refine mG.tblOut 151 dX9_body_1 (by have e0 : Int32.toInt a1 ≠ 3 := fun q => c1 (Int32.toInt_inj.mp (q.trans (by decide))); have e1 : Int32.toInt a1 ≠ 4 := fun q => c3 (Int32.toInt_inj.mp (q.trans (by decide))); have e2 : Int32.toInt a1 ≠ 5 := fun q => c5 (Int32.toInt_inj.mp (q.trans (by decide))); have e3 : Int32.toInt a1 ≠ 6 := fun q => c9 (Int32.toInt_inj.mp (q.trans (by decide))); have e4 : Int32.toInt a1 ≠ 7 := fun q => c11 (Int32.toInt_inj.mp (q.trans (by decide))); have e5 : Int32.toInt a1 ≠ 8 := fun q => c15 (Int32.toInt_inj.mp (q.trans (by decide))); omega) (by decide) ?_
  refine mG.aload_n 0 dX9_body_151 rfl ?_
  refine mG.iload_n 2 dX9_body_152 rfl ?_
  refine mG.iload_n 1 dX9_body_153 rfl ?_
  refine mG.iconst (v := 2) dX9_body_154 rfl ?_
  refine mG.icmp_ne 162 dX9_body_155 (by decide) (fun c19 => ?_) (fun c19 => ?_)
  · replace h := itn c19 h
    refine mG.iconst (v := 0) dX9_body_162 rfl ?_
    obtain ⟨q17, hq17, h⟩ := bdp h
    refine mG.callV0 (as := [.int (a2), .int 0]) (st := []) (S2 := q17.1) (r := some (.int (q17.2))) dX9_body_163 mvX9_lawClause wk23_14 rfl ht rfl (by decide) (Nat.le_of_ble_eq_true rfl) (c_X9_lawClause ht hq17) ?_
    obtain rfl := Option.some.inj h
    exact mG.iret dX9_body_166 rfl ⟨rfl, rfl, rfl⟩
  · replace h := itp c19 h
    refine mG.iconst (v := 1) dX9_body_158 rfl ?_
    refine mG.goto 163 dX9_body_159 (by decide) ?_
    obtain ⟨q18, hq18, h⟩ := bdp h
    refine mG.callV0 (as := [.int (a2), .int 1]) (st := []) (S2 := q18.1) (r := some (.int (q18.2))) dX9_body_163 mvX9_lawClause wk23_14 rfl ht rfl (by decide) (Nat.le_of_ble_eq_true rfl) (c_X9_lawClause ht hq18) ?_
    obtain rfl := Option.some.inj h
    exact mG.iret dX9_body_166 rfl ⟨rfl, rfl, rfl⟩
theorem dX9_sortOf_0 : decode cX9_sortOf 0 = .ok (.aload_n 0, 1) := by decide +kernel
theorem dX9_sortOf_1 : decode cX9_sortOf 1 = .ok (.bipush 101, 2) := by decide +kernel
theorem dX9_sortOf_3 : decode cX9_sortOf 3 = .ok (.bipush 97, 2) := by decide +kernel
theorem dX9_sortOf_5 : decode cX9_sortOf 5 = .ok (.bipush 114, 2) := by decide +kernel
theorem dX9_sortOf_7 : decode cX9_sortOf 7 = .ok (.bipush 110, 2) := by decide +kernel
theorem dX9_sortOf_9 : decode cX9_sortOf 9 = .ok (.bipush 115, 2) := by decide +kernel
theorem dX9_sortOf_11 : decode cX9_sortOf 11 = .ok (.invokestatic 142, 3) := by decide +kernel
theorem dX9_sortOf_14 : decode cX9_sortOf 14 = .ok (.invokevirtual 200, 3) := by decide +kernel
theorem dX9_sortOf_17 : decode cX9_sortOf 17 = .ok (.ifCond .eq 5, 3) := by decide +kernel
theorem dX9_sortOf_20 : decode cX9_sortOf 20 = .ok (.iconst 0, 1) := by decide +kernel
theorem dX9_sortOf_21 : decode cX9_sortOf 21 = .ok (.ireturn, 1) := by decide +kernel
theorem dX9_sortOf_22 : decode cX9_sortOf 22 = .ok (.aload_n 0, 1) := by decide +kernel
theorem dX9_sortOf_23 : decode cX9_sortOf 23 = .ok (.bipush 108, 2) := by decide +kernel
theorem dX9_sortOf_25 : decode cX9_sortOf 25 = .ok (.bipush 111, 2) := by decide +kernel
theorem dX9_sortOf_27 : decode cX9_sortOf 27 = .ok (.bipush 115, 2) := by decide +kernel
theorem dX9_sortOf_29 : decode cX9_sortOf 29 = .ok (.bipush 101, 2) := by decide +kernel
theorem dX9_sortOf_31 : decode cX9_sortOf 31 = .ok (.bipush 115, 2) := by decide +kernel
theorem dX9_sortOf_33 : decode cX9_sortOf 33 = .ok (.invokestatic 142, 3) := by decide +kernel
theorem dX9_sortOf_36 : decode cX9_sortOf 36 = .ok (.invokevirtual 200, 3) := by decide +kernel
theorem dX9_sortOf_39 : decode cX9_sortOf 39 = .ok (.ifCond .eq 5, 3) := by decide +kernel
theorem dX9_sortOf_42 : decode cX9_sortOf 42 = .ok (.iconst 1, 1) := by decide +kernel
theorem dX9_sortOf_43 : decode cX9_sortOf 43 = .ok (.ireturn, 1) := by decide +kernel
theorem dX9_sortOf_44 : decode cX9_sortOf 44 = .ok (.aload_n 0, 1) := by decide +kernel
theorem dX9_sortOf_45 : decode cX9_sortOf 45 = .ok (.bipush 108, 2) := by decide +kernel
theorem dX9_sortOf_47 : decode cX9_sortOf 47 = .ok (.bipush 101, 2) := by decide +kernel
theorem dX9_sortOf_49 : decode cX9_sortOf 49 = .ok (.bipush 116, 2) := by decide +kernel
theorem dX9_sortOf_51 : decode cX9_sortOf 51 = .ok (.bipush 115, 2) := by decide +kernel
theorem dX9_sortOf_53 : decode cX9_sortOf 53 = .ok (.invokestatic 138, 3) := by decide +kernel
theorem dX9_sortOf_56 : decode cX9_sortOf 56 = .ok (.invokevirtual 200, 3) := by decide +kernel
theorem dX9_sortOf_59 : decode cX9_sortOf 59 = .ok (.ifCond .eq 5, 3) := by decide +kernel
theorem dX9_sortOf_62 : decode cX9_sortOf 62 = .ok (.iconst 2, 1) := by decide +kernel
theorem dX9_sortOf_63 : decode cX9_sortOf 63 = .ok (.ireturn, 1) := by decide +kernel
theorem dX9_sortOf_64 : decode cX9_sortOf 64 = .ok (.aload_n 0, 1) := by decide +kernel
theorem dX9_sortOf_65 : decode cX9_sortOf 65 = .ok (.bipush 104, 2) := by decide +kernel
theorem dX9_sortOf_67 : decode cX9_sortOf 67 = .ok (.bipush 111, 2) := by decide +kernel
theorem dX9_sortOf_69 : decode cX9_sortOf 69 = .ok (.bipush 117, 2) := by decide +kernel
theorem dX9_sortOf_71 : decode cX9_sortOf 71 = .ok (.bipush 115, 2) := by decide +kernel
theorem dX9_sortOf_73 : decode cX9_sortOf 73 = .ok (.bipush 101, 2) := by decide +kernel
theorem dX9_sortOf_75 : decode cX9_sortOf 75 = .ok (.invokestatic 142, 3) := by decide +kernel
theorem dX9_sortOf_78 : decode cX9_sortOf 78 = .ok (.invokevirtual 200, 3) := by decide +kernel
theorem dX9_sortOf_81 : decode cX9_sortOf 81 = .ok (.ifCond .eq 5, 3) := by decide +kernel
theorem dX9_sortOf_84 : decode cX9_sortOf 84 = .ok (.iconst 3, 1) := by decide +kernel
theorem dX9_sortOf_85 : decode cX9_sortOf 85 = .ok (.ireturn, 1) := by decide +kernel
theorem dX9_sortOf_86 : decode cX9_sortOf 86 = .ok (.aload_n 0, 1) := by decide +kernel
theorem dX9_sortOf_87 : decode cX9_sortOf 87 = .ok (.bipush 107, 2) := by decide +kernel
theorem dX9_sortOf_89 : decode cX9_sortOf 89 = .ok (.bipush 110, 2) := by decide +kernel
theorem dX9_sortOf_91 : decode cX9_sortOf 91 = .ok (.bipush 111, 2) := by decide +kernel
theorem dX9_sortOf_93 : decode cX9_sortOf 93 = .ok (.bipush 99, 2) := by decide +kernel
theorem dX9_sortOf_95 : decode cX9_sortOf 95 = .ok (.bipush 107, 2) := by decide +kernel
theorem dX9_sortOf_97 : decode cX9_sortOf 97 = .ok (.invokestatic 142, 3) := by decide +kernel
theorem dX9_sortOf_100 : decode cX9_sortOf 100 = .ok (.invokevirtual 200, 3) := by decide +kernel
theorem dX9_sortOf_103 : decode cX9_sortOf 103 = .ok (.ifCond .eq 5, 3) := by decide +kernel
theorem dX9_sortOf_106 : decode cX9_sortOf 106 = .ok (.iconst 4, 1) := by decide +kernel
theorem dX9_sortOf_107 : decode cX9_sortOf 107 = .ok (.ireturn, 1) := by decide +kernel
theorem dX9_sortOf_108 : decode cX9_sortOf 108 = .ok (.aload_n 0, 1) := by decide +kernel
theorem dX9_sortOf_109 : decode cX9_sortOf 109 = .ok (.bipush 109, 2) := by decide +kernel
theorem dX9_sortOf_111 : decode cX9_sortOf 111 = .ok (.bipush 97, 2) := by decide +kernel
theorem dX9_sortOf_113 : decode cX9_sortOf 113 = .ok (.bipush 114, 2) := by decide +kernel
theorem dX9_sortOf_115 : decode cX9_sortOf 115 = .ok (.bipush 114, 2) := by decide +kernel
theorem dX9_sortOf_117 : decode cX9_sortOf 117 = .ok (.bipush 121, 2) := by decide +kernel
theorem dX9_sortOf_119 : decode cX9_sortOf 119 = .ok (.invokestatic 142, 3) := by decide +kernel
theorem dX9_sortOf_122 : decode cX9_sortOf 122 = .ok (.invokevirtual 200, 3) := by decide +kernel
theorem dX9_sortOf_125 : decode cX9_sortOf 125 = .ok (.ifCond .eq 5, 3) := by decide +kernel
theorem dX9_sortOf_128 : decode cX9_sortOf 128 = .ok (.iconst 5, 1) := by decide +kernel
theorem dX9_sortOf_129 : decode cX9_sortOf 129 = .ok (.ireturn, 1) := by decide +kernel
theorem dX9_sortOf_130 : decode cX9_sortOf 130 = .ok (.aload_n 0, 1) := by decide +kernel
theorem dX9_sortOf_131 : decode cX9_sortOf 131 = .ok (.bipush 104, 2) := by decide +kernel
theorem dX9_sortOf_133 : decode cX9_sortOf 133 = .ok (.bipush 97, 2) := by decide +kernel
theorem dX9_sortOf_135 : decode cX9_sortOf 135 = .ok (.bipush 116, 2) := by decide +kernel
theorem dX9_sortOf_137 : decode cX9_sortOf 137 = .ok (.invokestatic 134, 3) := by decide +kernel
theorem dX9_sortOf_140 : decode cX9_sortOf 140 = .ok (.invokevirtual 200, 3) := by decide +kernel
theorem dX9_sortOf_143 : decode cX9_sortOf 143 = .ok (.ifCond .eq 6, 3) := by decide +kernel
theorem dX9_sortOf_146 : decode cX9_sortOf 146 = .ok (.bipush 6, 2) := by decide +kernel
theorem dX9_sortOf_148 : decode cX9_sortOf 148 = .ok (.ireturn, 1) := by decide +kernel
theorem dX9_sortOf_149 : decode cX9_sortOf 149 = .ok (.aload_n 0, 1) := by decide +kernel
theorem dX9_sortOf_150 : decode cX9_sortOf 150 = .ok (.bipush 102, 2) := by decide +kernel
theorem dX9_sortOf_152 : decode cX9_sortOf 152 = .ok (.bipush 111, 2) := by decide +kernel
theorem dX9_sortOf_154 : decode cX9_sortOf 154 = .ok (.bipush 114, 2) := by decide +kernel
theorem dX9_sortOf_156 : decode cX9_sortOf 156 = .ok (.bipush 103, 2) := by decide +kernel
theorem dX9_sortOf_158 : decode cX9_sortOf 158 = .ok (.bipush 101, 2) := by decide +kernel
theorem dX9_sortOf_160 : decode cX9_sortOf 160 = .ok (.bipush 116, 2) := by decide +kernel
theorem dX9_sortOf_162 : decode cX9_sortOf 162 = .ok (.invokestatic 160, 3) := by decide +kernel
theorem dX9_sortOf_165 : decode cX9_sortOf 165 = .ok (.invokevirtual 200, 3) := by decide +kernel
theorem dX9_sortOf_168 : decode cX9_sortOf 168 = .ok (.ifCond .eq 8, 3) := by decide +kernel
theorem dX9_sortOf_171 : decode cX9_sortOf 171 = .ok (.bipush 7, 2) := by decide +kernel
theorem dX9_sortOf_173 : decode cX9_sortOf 173 = .ok (.goto 25, 3) := by decide +kernel
theorem dX9_sortOf_176 : decode cX9_sortOf 176 = .ok (.aload_n 0, 1) := by decide +kernel
theorem dX9_sortOf_177 : decode cX9_sortOf 177 = .ok (.bipush 100, 2) := by decide +kernel
theorem dX9_sortOf_179 : decode cX9_sortOf 179 = .ok (.bipush 97, 2) := by decide +kernel
theorem dX9_sortOf_181 : decode cX9_sortOf 181 = .ok (.bipush 121, 2) := by decide +kernel
theorem dX9_sortOf_183 : decode cX9_sortOf 183 = .ok (.invokestatic 134, 3) := by decide +kernel
theorem dX9_sortOf_186 : decode cX9_sortOf 186 = .ok (.invokevirtual 200, 3) := by decide +kernel
theorem dX9_sortOf_189 : decode cX9_sortOf 189 = .ok (.ifCond .eq 8, 3) := by decide +kernel
theorem dX9_sortOf_192 : decode cX9_sortOf 192 = .ok (.bipush 8, 2) := by decide +kernel
theorem dX9_sortOf_194 : decode cX9_sortOf 194 = .ok (.goto 4, 3) := by decide +kernel
theorem dX9_sortOf_197 : decode cX9_sortOf 197 = .ok (.iconst (-1), 1) := by decide +kernel
theorem dX9_sortOf_198 : decode cX9_sortOf 198 = .ok (.ireturn, 1) := by decide +kernel
def f_X9_sortOf (S0 : mS) (t : Nat) : Int32 := if (f_X9_isWord S0 t (f_X9_w5 S0 (101 : Int32) (97 : Int32) (114 : Int32) (110 : Int32) (115 : Int32))) = true then ((0 : Int32)) else (if (f_X9_isWord S0 t (f_X9_w5 S0 (108 : Int32) (111 : Int32) (115 : Int32) (101 : Int32) (115 : Int32))) = true then ((1 : Int32)) else (if (f_X9_isWord S0 t (f_X9_w4 S0 (108 : Int32) (101 : Int32) (116 : Int32) (115 : Int32))) = true then ((2 : Int32)) else (if (f_X9_isWord S0 t (f_X9_w5 S0 (104 : Int32) (111 : Int32) (117 : Int32) (115 : Int32) (101 : Int32))) = true then ((3 : Int32)) else (if (f_X9_isWord S0 t (f_X9_w5 S0 (107 : Int32) (110 : Int32) (111 : Int32) (99 : Int32) (107 : Int32))) = true then ((4 : Int32)) else (if (f_X9_isWord S0 t (f_X9_w5 S0 (109 : Int32) (97 : Int32) (114 : Int32) (114 : Int32) (121 : Int32))) = true then ((5 : Int32)) else (if (f_X9_isWord S0 t (f_X9_w3 S0 (104 : Int32) (97 : Int32) (116 : Int32))) = true then ((6 : Int32)) else (if (f_X9_isWord S0 t (f_X9_w6 S0 (102 : Int32) (111 : Int32) (114 : Int32) (103 : Int32) (101 : Int32) (116 : Int32))) = true then ((7 : Int32)) else (if (f_X9_isWord S0 t (f_X9_w3 S0 (100 : Int32) (97 : Int32) (121 : Int32))) = true then ((8 : Int32)) else ((-1 : Int32))))))))))
set_option maxHeartbeats 4000000 in
set_option maxRecDepth 100000 in
theorem c_X9_sortOf {S0 : mS} {t : Nat} {R : Int32} (ht : kd0 t = 9) (h : f_X9_sortOf S0 t = R) : mCt μX9_sortOf 6 0 0 E0 S0 [.ref (t)] (mQe S0 (some (.int R))) := by
  unfold f_X9_sortOf at h
  refine mCt.of (by decide) (Nat.le_of_ble_eq_true rfl) ?_
  intro x
  refine mG.aload_n 0 dX9_sortOf_0 rfl ?_
  refine mG.bipush (v := 101) dX9_sortOf_1 (by decide) ?_
  refine mG.bipush (v := 97) dX9_sortOf_3 (by decide) ?_
  refine mG.bipush (v := 114) dX9_sortOf_5 (by decide) ?_
  refine mG.bipush (v := 110) dX9_sortOf_7 (by decide) ?_
  refine mG.bipush (v := 115) dX9_sortOf_9 (by decide) ?_
  refine mG.callS0 (as := [.int 101, .int 97, .int 114, .int 110, .int 115]) (st := [.ref (t)]) (S2 := S0) (r := some (.long (f_X9_w5 S0 (101 : Int32) (97 : Int32) (114 : Int32) (110 : Int32) (115 : Int32)))) dX9_sortOf_11 mbX9_w5 wk21_17 wk21_16 rfl rfl (by decide) (Nat.le_of_ble_eq_true rfl) (c_X9_w5  rfl) ?_
  refine mG.callV0 (as := [.long (f_X9_w5 S0 (101 : Int32) (97 : Int32) (114 : Int32) (110 : Int32) (115 : Int32))]) (st := []) (S2 := S0) (r := some (.int (bI (f_X9_isWord S0 t (f_X9_w5 S0 (101 : Int32) (97 : Int32) (114 : Int32) (110 : Int32) (115 : Int32)))))) dX9_sortOf_14 mvX9_isWord wk22_4 rfl ht rfl (by decide) (Nat.le_of_ble_eq_true rfl) (c_X9_isWord ht rfl) ?_
  refine mG.ifz_eq (b := f_X9_isWord S0 t (f_X9_w5 S0 (101 : Int32) (97 : Int32) (114 : Int32) (110 : Int32) (115 : Int32))) 22 dX9_sortOf_17 (by decide) (fun c9 => ?_) (fun c9 => ?_)
  · replace h := itn c9 h
    refine mG.aload_n 0 dX9_sortOf_22 rfl ?_
    refine mG.bipush (v := 108) dX9_sortOf_23 (by decide) ?_
    refine mG.bipush (v := 111) dX9_sortOf_25 (by decide) ?_
    refine mG.bipush (v := 115) dX9_sortOf_27 (by decide) ?_
    refine mG.bipush (v := 101) dX9_sortOf_29 (by decide) ?_
    refine mG.bipush (v := 115) dX9_sortOf_31 (by decide) ?_
    refine mG.callS0 (as := [.int 108, .int 111, .int 115, .int 101, .int 115]) (st := [.ref (t)]) (S2 := S0) (r := some (.long (f_X9_w5 S0 (108 : Int32) (111 : Int32) (115 : Int32) (101 : Int32) (115 : Int32)))) dX9_sortOf_33 mbX9_w5 wk21_17 wk21_16 rfl rfl (by decide) (Nat.le_of_ble_eq_true rfl) (c_X9_w5  rfl) ?_
    refine mG.callV0 (as := [.long (f_X9_w5 S0 (108 : Int32) (111 : Int32) (115 : Int32) (101 : Int32) (115 : Int32))]) (st := []) (S2 := S0) (r := some (.int (bI (f_X9_isWord S0 t (f_X9_w5 S0 (108 : Int32) (111 : Int32) (115 : Int32) (101 : Int32) (115 : Int32)))))) dX9_sortOf_36 mvX9_isWord wk22_4 rfl ht rfl (by decide) (Nat.le_of_ble_eq_true rfl) (c_X9_isWord ht rfl) ?_
    refine mG.ifz_eq (b := f_X9_isWord S0 t (f_X9_w5 S0 (108 : Int32) (111 : Int32) (115 : Int32) (101 : Int32) (115 : Int32))) 44 dX9_sortOf_39 (by decide) (fun c8 => ?_) (fun c8 => ?_)
    · replace h := itn c8 h
      refine mG.aload_n 0 dX9_sortOf_44 rfl ?_
      refine mG.bipush (v := 108) dX9_sortOf_45 (by decide) ?_
      refine mG.bipush (v := 101) dX9_sortOf_47 (by decide) ?_
      refine mG.bipush (v := 116) dX9_sortOf_49 (by decide) ?_
      refine mG.bipush (v := 115) dX9_sortOf_51 (by decide) ?_
      refine mG.callS0 (as := [.int 108, .int 101, .int 116, .int 115]) (st := [.ref (t)]) (S2 := S0) (r := some (.long (f_X9_w4 S0 (108 : Int32) (101 : Int32) (116 : Int32) (115 : Int32)))) dX9_sortOf_53 mbX9_w4 wk21_20 wk21_19 rfl rfl (by decide) (Nat.le_of_ble_eq_true rfl) (c_X9_w4  rfl) ?_
      refine mG.callV0 (as := [.long (f_X9_w4 S0 (108 : Int32) (101 : Int32) (116 : Int32) (115 : Int32))]) (st := []) (S2 := S0) (r := some (.int (bI (f_X9_isWord S0 t (f_X9_w4 S0 (108 : Int32) (101 : Int32) (116 : Int32) (115 : Int32)))))) dX9_sortOf_56 mvX9_isWord wk22_4 rfl ht rfl (by decide) (Nat.le_of_ble_eq_true rfl) (c_X9_isWord ht rfl) ?_
      refine mG.ifz_eq (b := f_X9_isWord S0 t (f_X9_w4 S0 (108 : Int32) (101 : Int32) (116 : Int32) (115 : Int32))) 64 dX9_sortOf_59 (by decide) (fun c7 => ?_) (fun c7 => ?_)
      · replace h := itn c7 h
        refine mG.aload_n 0 dX9_sortOf_64 rfl ?_
        refine mG.bipush (v := 104) dX9_sortOf_65 (by decide) ?_
        refine mG.bipush (v := 111) dX9_sortOf_67 (by decide) ?_
        refine mG.bipush (v := 117) dX9_sortOf_69 (by decide) ?_
        refine mG.bipush (v := 115) dX9_sortOf_71 (by decide) ?_
        refine mG.bipush (v := 101) dX9_sortOf_73 (by decide) ?_
        refine mG.callS0 (as := [.int 104, .int 111, .int 117, .int 115, .int 101]) (st := [.ref (t)]) (S2 := S0) (r := some (.long (f_X9_w5 S0 (104 : Int32) (111 : Int32) (117 : Int32) (115 : Int32) (101 : Int32)))) dX9_sortOf_75 mbX9_w5 wk21_17 wk21_16 rfl rfl (by decide) (Nat.le_of_ble_eq_true rfl) (c_X9_w5  rfl) ?_
        refine mG.callV0 (as := [.long (f_X9_w5 S0 (104 : Int32) (111 : Int32) (117 : Int32) (115 : Int32) (101 : Int32))]) (st := []) (S2 := S0) (r := some (.int (bI (f_X9_isWord S0 t (f_X9_w5 S0 (104 : Int32) (111 : Int32) (117 : Int32) (115 : Int32) (101 : Int32)))))) dX9_sortOf_78 mvX9_isWord wk22_4 rfl ht rfl (by decide) (Nat.le_of_ble_eq_true rfl) (c_X9_isWord ht rfl) ?_
        refine mG.ifz_eq (b := f_X9_isWord S0 t (f_X9_w5 S0 (104 : Int32) (111 : Int32) (117 : Int32) (115 : Int32) (101 : Int32))) 86 dX9_sortOf_81 (by decide) (fun c6 => ?_) (fun c6 => ?_)
        · replace h := itn c6 h
          refine mG.aload_n 0 dX9_sortOf_86 rfl ?_
          refine mG.bipush (v := 107) dX9_sortOf_87 (by decide) ?_
          refine mG.bipush (v := 110) dX9_sortOf_89 (by decide) ?_
          refine mG.bipush (v := 111) dX9_sortOf_91 (by decide) ?_
          refine mG.bipush (v := 99) dX9_sortOf_93 (by decide) ?_
          refine mG.bipush (v := 107) dX9_sortOf_95 (by decide) ?_
          refine mG.callS0 (as := [.int 107, .int 110, .int 111, .int 99, .int 107]) (st := [.ref (t)]) (S2 := S0) (r := some (.long (f_X9_w5 S0 (107 : Int32) (110 : Int32) (111 : Int32) (99 : Int32) (107 : Int32)))) dX9_sortOf_97 mbX9_w5 wk21_17 wk21_16 rfl rfl (by decide) (Nat.le_of_ble_eq_true rfl) (c_X9_w5  rfl) ?_
          refine mG.callV0 (as := [.long (f_X9_w5 S0 (107 : Int32) (110 : Int32) (111 : Int32) (99 : Int32) (107 : Int32))]) (st := []) (S2 := S0) (r := some (.int (bI (f_X9_isWord S0 t (f_X9_w5 S0 (107 : Int32) (110 : Int32) (111 : Int32) (99 : Int32) (107 : Int32)))))) dX9_sortOf_100 mvX9_isWord wk22_4 rfl ht rfl (by decide) (Nat.le_of_ble_eq_true rfl) (c_X9_isWord ht rfl) ?_
          refine mG.ifz_eq (b := f_X9_isWord S0 t (f_X9_w5 S0 (107 : Int32) (110 : Int32) (111 : Int32) (99 : Int32) (107 : Int32))) 108 dX9_sortOf_103 (by decide) (fun c5 => ?_) (fun c5 => ?_)
          · replace h := itn c5 h
            refine mG.aload_n 0 dX9_sortOf_108 rfl ?_
            refine mG.bipush (v := 109) dX9_sortOf_109 (by decide) ?_
            refine mG.bipush (v := 97) dX9_sortOf_111 (by decide) ?_
            refine mG.bipush (v := 114) dX9_sortOf_113 (by decide) ?_
            refine mG.bipush (v := 114) dX9_sortOf_115 (by decide) ?_
            refine mG.bipush (v := 121) dX9_sortOf_117 (by decide) ?_
            refine mG.callS0 (as := [.int 109, .int 97, .int 114, .int 114, .int 121]) (st := [.ref (t)]) (S2 := S0) (r := some (.long (f_X9_w5 S0 (109 : Int32) (97 : Int32) (114 : Int32) (114 : Int32) (121 : Int32)))) dX9_sortOf_119 mbX9_w5 wk21_17 wk21_16 rfl rfl (by decide) (Nat.le_of_ble_eq_true rfl) (c_X9_w5  rfl) ?_
            refine mG.callV0 (as := [.long (f_X9_w5 S0 (109 : Int32) (97 : Int32) (114 : Int32) (114 : Int32) (121 : Int32))]) (st := []) (S2 := S0) (r := some (.int (bI (f_X9_isWord S0 t (f_X9_w5 S0 (109 : Int32) (97 : Int32) (114 : Int32) (114 : Int32) (121 : Int32)))))) dX9_sortOf_122 mvX9_isWord wk22_4 rfl ht rfl (by decide) (Nat.le_of_ble_eq_true rfl) (c_X9_isWord ht rfl) ?_
            refine mG.ifz_eq (b := f_X9_isWord S0 t (f_X9_w5 S0 (109 : Int32) (97 : Int32) (114 : Int32) (114 : Int32) (121 : Int32))) 130 dX9_sortOf_125 (by decide) (fun c4 => ?_) (fun c4 => ?_)
            · replace h := itn c4 h
              refine mG.aload_n 0 dX9_sortOf_130 rfl ?_
              refine mG.bipush (v := 104) dX9_sortOf_131 (by decide) ?_
              refine mG.bipush (v := 97) dX9_sortOf_133 (by decide) ?_
              refine mG.bipush (v := 116) dX9_sortOf_135 (by decide) ?_
              refine mG.callS0 (as := [.int 104, .int 97, .int 116]) (st := [.ref (t)]) (S2 := S0) (r := some (.long (f_X9_w3 S0 (104 : Int32) (97 : Int32) (116 : Int32)))) dX9_sortOf_137 mbX9_w3 wk21_23 wk21_22 rfl rfl (by decide) (Nat.le_of_ble_eq_true rfl) (c_X9_w3  rfl) ?_
              refine mG.callV0 (as := [.long (f_X9_w3 S0 (104 : Int32) (97 : Int32) (116 : Int32))]) (st := []) (S2 := S0) (r := some (.int (bI (f_X9_isWord S0 t (f_X9_w3 S0 (104 : Int32) (97 : Int32) (116 : Int32)))))) dX9_sortOf_140 mvX9_isWord wk22_4 rfl ht rfl (by decide) (Nat.le_of_ble_eq_true rfl) (c_X9_isWord ht rfl) ?_
              refine mG.ifz_eq (b := f_X9_isWord S0 t (f_X9_w3 S0 (104 : Int32) (97 : Int32) (116 : Int32))) 149 dX9_sortOf_143 (by decide) (fun c3 => ?_) (fun c3 => ?_)
              · replace h := itn c3 h
                refine mG.aload_n 0 dX9_sortOf_149 rfl ?_
                refine mG.bipush (v := 102) dX9_sortOf_150 (by decide) ?_
                refine mG.bipush (v := 111) dX9_sortOf_152 (by decide) ?_
                refine mG.bipush (v := 114) dX9_sortOf_154 (by decide) ?_
                refine mG.bipush (v := 103) dX9_sortOf_156 (by decide) ?_
                refine mG.bipush (v := 101) dX9_sortOf_158 (by decide) ?_
                refine mG.bipush (v := 116) dX9_sortOf_160 (by decide) ?_
                refine mG.callS0 (as := [.int 102, .int 111, .int 114, .int 103, .int 101, .int 116]) (st := [.ref (t)]) (S2 := S0) (r := some (.long (f_X9_w6 S0 (102 : Int32) (111 : Int32) (114 : Int32) (103 : Int32) (101 : Int32) (116 : Int32)))) dX9_sortOf_162 mbX9_w6 wk22_9 wk22_8 rfl rfl (by decide) (Nat.le_of_ble_eq_true rfl) (c_X9_w6  rfl) ?_
                refine mG.callV0 (as := [.long (f_X9_w6 S0 (102 : Int32) (111 : Int32) (114 : Int32) (103 : Int32) (101 : Int32) (116 : Int32))]) (st := []) (S2 := S0) (r := some (.int (bI (f_X9_isWord S0 t (f_X9_w6 S0 (102 : Int32) (111 : Int32) (114 : Int32) (103 : Int32) (101 : Int32) (116 : Int32)))))) dX9_sortOf_165 mvX9_isWord wk22_4 rfl ht rfl (by decide) (Nat.le_of_ble_eq_true rfl) (c_X9_isWord ht rfl) ?_
                refine mG.ifz_eq (b := f_X9_isWord S0 t (f_X9_w6 S0 (102 : Int32) (111 : Int32) (114 : Int32) (103 : Int32) (101 : Int32) (116 : Int32))) 176 dX9_sortOf_168 (by decide) (fun c2 => ?_) (fun c2 => ?_)
                · replace h := itn c2 h
                  refine mG.aload_n 0 dX9_sortOf_176 rfl ?_
                  refine mG.bipush (v := 100) dX9_sortOf_177 (by decide) ?_
                  refine mG.bipush (v := 97) dX9_sortOf_179 (by decide) ?_
                  refine mG.bipush (v := 121) dX9_sortOf_181 (by decide) ?_
                  refine mG.callS0 (as := [.int 100, .int 97, .int 121]) (st := [.ref (t)]) (S2 := S0) (r := some (.long (f_X9_w3 S0 (100 : Int32) (97 : Int32) (121 : Int32)))) dX9_sortOf_183 mbX9_w3 wk21_23 wk21_22 rfl rfl (by decide) (Nat.le_of_ble_eq_true rfl) (c_X9_w3  rfl) ?_
                  refine mG.callV0 (as := [.long (f_X9_w3 S0 (100 : Int32) (97 : Int32) (121 : Int32))]) (st := []) (S2 := S0) (r := some (.int (bI (f_X9_isWord S0 t (f_X9_w3 S0 (100 : Int32) (97 : Int32) (121 : Int32)))))) dX9_sortOf_186 mvX9_isWord wk22_4 rfl ht rfl (by decide) (Nat.le_of_ble_eq_true rfl) (c_X9_isWord ht rfl) ?_
                  refine mG.ifz_eq (b := f_X9_isWord S0 t (f_X9_w3 S0 (100 : Int32) (97 : Int32) (121 : Int32))) 197 dX9_sortOf_189 (by decide) (fun c1 => ?_) (fun c1 => ?_)
                  · replace h := itn c1 h
                    refine mG.iconst (v := (-1)) dX9_sortOf_197 rfl ?_
                    subst h
                    exact mG.iret dX9_sortOf_198 rfl ⟨rfl, rfl, rfl⟩
                  · replace h := itp c1 h
                    refine mG.bipush (v := 8) dX9_sortOf_192 (by decide) ?_
                    refine mG.goto 198 dX9_sortOf_194 (by decide) ?_
                    subst h
                    exact mG.iret dX9_sortOf_198 rfl ⟨rfl, rfl, rfl⟩
                · replace h := itp c2 h
                  refine mG.bipush (v := 7) dX9_sortOf_171 (by decide) ?_
                  refine mG.goto 198 dX9_sortOf_173 (by decide) ?_
                  subst h
                  exact mG.iret dX9_sortOf_198 rfl ⟨rfl, rfl, rfl⟩
              · replace h := itp c3 h
                refine mG.bipush (v := 6) dX9_sortOf_146 (by decide) ?_
                subst h
                exact mG.iret dX9_sortOf_148 rfl ⟨rfl, rfl, rfl⟩
            · replace h := itp c4 h
              refine mG.iconst (v := 5) dX9_sortOf_128 rfl ?_
              subst h
              exact mG.iret dX9_sortOf_129 rfl ⟨rfl, rfl, rfl⟩
          · replace h := itp c5 h
            refine mG.iconst (v := 4) dX9_sortOf_106 rfl ?_
            subst h
            exact mG.iret dX9_sortOf_107 rfl ⟨rfl, rfl, rfl⟩
        · replace h := itp c6 h
          refine mG.iconst (v := 3) dX9_sortOf_84 rfl ?_
          subst h
          exact mG.iret dX9_sortOf_85 rfl ⟨rfl, rfl, rfl⟩
      · replace h := itp c7 h
        refine mG.iconst (v := 2) dX9_sortOf_62 rfl ?_
        subst h
        exact mG.iret dX9_sortOf_63 rfl ⟨rfl, rfl, rfl⟩
    · replace h := itp c8 h
      refine mG.iconst (v := 1) dX9_sortOf_42 rfl ?_
      subst h
      exact mG.iret dX9_sortOf_43 rfl ⟨rfl, rfl, rfl⟩
  · replace h := itp c9 h
    refine mG.iconst (v := 0) dX9_sortOf_20 rfl ?_
    subst h
    exact mG.iret dX9_sortOf_21 rfl ⟨rfl, rfl, rfl⟩
theorem dX9_clause_0 : decode cX9_clause 0 = .ok (.aload_n 0, 1) := by decide +kernel
theorem dX9_clause_1 : decode cX9_clause 1 = .ok (.invokevirtual 247, 3) := by decide +kernel
theorem dX9_clause_4 : decode cX9_clause 4 = .ok (.istore_n 1, 1) := by decide +kernel
theorem dX9_clause_5 : decode cX9_clause 5 = .ok (.iload_n 1, 1) := by decide +kernel
theorem dX9_clause_6 : decode cX9_clause 6 = .ok (.ifCond .ge 5, 3) := by decide +kernel
theorem dX9_clause_9 : decode cX9_clause 9 = .ok (.iconst 1, 1) := by decide +kernel
theorem dX9_clause_10 : decode cX9_clause 10 = .ok (.ireturn, 1) := by decide +kernel
theorem dX9_clause_11 : decode cX9_clause 11 = .ok (.iload_n 1, 1) := by decide +kernel
theorem dX9_clause_12 : decode cX9_clause 12 = .ok (.iconst 2, 1) := by decide +kernel
theorem dX9_clause_13 : decode cX9_clause 13 = .ok (.if_icmp .gt 16, 3) := by decide +kernel
theorem dX9_clause_16 : decode cX9_clause 16 = .ok (.aload_n 0, 1) := by decide +kernel
theorem dX9_clause_17 : decode cX9_clause 17 = .ok (.getfield 250, 3) := by decide +kernel
theorem dX9_clause_20 : decode cX9_clause 20 = .ok (.iload_n 1, 1) := by decide +kernel
theorem dX9_clause_21 : decode cX9_clause 21 = .ok (.invokestatic 80, 3) := by decide +kernel
theorem dX9_clause_24 : decode cX9_clause 24 = .ok (.ifCond .eq 5, 3) := by decide +kernel
theorem dX9_clause_27 : decode cX9_clause 27 = .ok (.iconst 4, 1) := by decide +kernel
theorem dX9_clause_28 : decode cX9_clause 28 = .ok (.ireturn, 1) := by decide +kernel
theorem dX9_clause_29 : decode cX9_clause 29 = .ok (.aload_n 0, 1) := by decide +kernel
theorem dX9_clause_30 : decode cX9_clause 30 = .ok (.getfield 16, 3) := by decide +kernel
theorem dX9_clause_33 : decode cX9_clause 33 = .ok (.aload_n 0, 1) := by decide +kernel
theorem dX9_clause_34 : decode cX9_clause 34 = .ok (.getfield 146, 3) := by decide +kernel
theorem dX9_clause_37 : decode cX9_clause 37 = .ok (.iaload, 1) := by decide +kernel
theorem dX9_clause_38 : decode cX9_clause 38 = .ok (.istore_n 2, 1) := by decide +kernel
theorem dX9_clause_39 : decode cX9_clause 39 = .ok (.iload_n 2, 1) := by decide +kernel
theorem dX9_clause_40 : decode cX9_clause 40 = .ok (.bipush 24, 2) := by decide +kernel
theorem dX9_clause_42 : decode cX9_clause 42 = .ok (.if_icmp .ne 6, 3) := by decide +kernel
theorem dX9_clause_45 : decode cX9_clause 45 = .ok (.bipush 6, 2) := by decide +kernel
theorem dX9_clause_47 : decode cX9_clause 47 = .ok (.ireturn, 1) := by decide +kernel
theorem dX9_clause_48 : decode cX9_clause 48 = .ok (.iload_n 1, 1) := by decide +kernel
theorem dX9_clause_49 : decode cX9_clause 49 = .ok (.iconst 2, 1) := by decide +kernel
theorem dX9_clause_50 : decode cX9_clause 50 = .ok (.if_icmp .gt 15, 3) := by decide +kernel
theorem dX9_clause_53 : decode cX9_clause 53 = .ok (.aload_n 0, 1) := by decide +kernel
theorem dX9_clause_54 : decode cX9_clause 54 = .ok (.dup, 1) := by decide +kernel
theorem dX9_clause_55 : decode cX9_clause 55 = .ok (.getfield 250, 3) := by decide +kernel
theorem dX9_clause_58 : decode cX9_clause 58 = .ok (.iconst 1, 1) := by decide +kernel
theorem dX9_clause_59 : decode cX9_clause 59 = .ok (.iload_n 1, 1) := by decide +kernel
theorem dX9_clause_60 : decode cX9_clause 60 = .ok (.ishl, 1) := by decide +kernel
theorem dX9_clause_61 : decode cX9_clause 61 = .ok (.ior, 1) := by decide +kernel
theorem dX9_clause_62 : decode cX9_clause 62 = .ok (.putfield 250, 3) := by decide +kernel
theorem dX9_clause_65 : decode cX9_clause 65 = .ok (.aload_n 0, 1) := by decide +kernel
theorem dX9_clause_66 : decode cX9_clause 66 = .ok (.iload_n 1, 1) := by decide +kernel
theorem dX9_clause_67 : decode cX9_clause 67 = .ok (.putfield 191, 3) := by decide +kernel
theorem dX9_clause_70 : decode cX9_clause 70 = .ok (.aload_n 0, 1) := by decide +kernel
theorem dX9_clause_71 : decode cX9_clause 71 = .ok (.invokevirtual 184, 3) := by decide +kernel
theorem dX9_clause_74 : decode cX9_clause 74 = .ok (.aload_n 0, 1) := by decide +kernel
theorem dX9_clause_75 : decode cX9_clause 75 = .ok (.getfield 146, 3) := by decide +kernel
theorem dX9_clause_78 : decode cX9_clause 78 = .ok (.iconst 1, 1) := by decide +kernel
theorem dX9_clause_79 : decode cX9_clause 79 = .ok (.iadd, 1) := by decide +kernel
theorem dX9_clause_80 : decode cX9_clause 80 = .ok (.iconst 4, 1) := by decide +kernel
theorem dX9_clause_81 : decode cX9_clause 81 = .ok (.iload_n 2, 1) := by decide +kernel
theorem dX9_clause_82 : decode cX9_clause 82 = .ok (.imul, 1) := by decide +kernel
theorem dX9_clause_83 : decode cX9_clause 83 = .ok (.iadd, 1) := by decide +kernel
theorem dX9_clause_84 : decode cX9_clause 84 = .ok (.istore_n 3, 1) := by decide +kernel
theorem dX9_clause_85 : decode cX9_clause 85 = .ok (.aload_n 0, 1) := by decide +kernel
theorem dX9_clause_86 : decode cX9_clause 86 = .ok (.getfield 16, 3) := by decide +kernel
theorem dX9_clause_89 : decode cX9_clause 89 = .ok (.iload_n 3, 1) := by decide +kernel
theorem dX9_clause_90 : decode cX9_clause 90 = .ok (.iload_n 1, 1) := by decide +kernel
theorem dX9_clause_91 : decode cX9_clause 91 = .ok (.iastore, 1) := by decide +kernel
theorem dX9_clause_92 : decode cX9_clause 92 = .ok (.aload_n 0, 1) := by decide +kernel
theorem dX9_clause_93 : decode cX9_clause 93 = .ok (.iload_n 1, 1) := by decide +kernel
theorem dX9_clause_94 : decode cX9_clause 94 = .ok (.iload_n 3, 1) := by decide +kernel
theorem dX9_clause_95 : decode cX9_clause 95 = .ok (.invokevirtual 253, 3) := by decide +kernel
theorem dX9_clause_98 : decode cX9_clause 98 = .ok (.istore 4, 2) := by decide +kernel
theorem dX9_clause_100 : decode cX9_clause 100 = .ok (.iload 4, 2) := by decide +kernel
theorem dX9_clause_102 : decode cX9_clause 102 = .ok (.ifCond .eq 6, 3) := by decide +kernel
theorem dX9_clause_105 : decode cX9_clause 105 = .ok (.iload 4, 2) := by decide +kernel
theorem dX9_clause_107 : decode cX9_clause 107 = .ok (.ireturn, 1) := by decide +kernel
theorem dX9_clause_108 : decode cX9_clause 108 = .ok (.aload_n 0, 1) := by decide +kernel
theorem dX9_clause_109 : decode cX9_clause 109 = .ok (.getfield 16, 3) := by decide +kernel
theorem dX9_clause_112 : decode cX9_clause 112 = .ok (.aload_n 0, 1) := by decide +kernel
theorem dX9_clause_113 : decode cX9_clause 113 = .ok (.getfield 146, 3) := by decide +kernel
theorem dX9_clause_116 : decode cX9_clause 116 = .ok (.dup2, 1) := by decide +kernel
theorem dX9_clause_117 : decode cX9_clause 117 = .ok (.iaload, 1) := by decide +kernel
theorem dX9_clause_118 : decode cX9_clause 118 = .ok (.iconst 1, 1) := by decide +kernel
theorem dX9_clause_119 : decode cX9_clause 119 = .ok (.iadd, 1) := by decide +kernel
theorem dX9_clause_120 : decode cX9_clause 120 = .ok (.iastore, 1) := by decide +kernel
theorem dX9_clause_121 : decode cX9_clause 121 = .ok (.aload_n 0, 1) := by decide +kernel
theorem dX9_clause_122 : decode cX9_clause 122 = .ok (.getfield 108, 3) := by decide +kernel
theorem dX9_clause_125 : decode cX9_clause 125 = .ok (.bipush 59, 2) := by decide +kernel
theorem dX9_clause_127 : decode cX9_clause 127 = .ok (.if_icmp .eq 5, 3) := by decide +kernel
theorem dX9_clause_130 : decode cX9_clause 130 = .ok (.iconst 1, 1) := by decide +kernel
theorem dX9_clause_131 : decode cX9_clause 131 = .ok (.ireturn, 1) := by decide +kernel
theorem dX9_clause_132 : decode cX9_clause 132 = .ok (.aload_n 0, 1) := by decide +kernel
theorem dX9_clause_133 : decode cX9_clause 133 = .ok (.invokevirtual 184, 3) := by decide +kernel
theorem dX9_clause_136 : decode cX9_clause 136 = .ok (.iconst 0, 1) := by decide +kernel
theorem dX9_clause_137 : decode cX9_clause 137 = .ok (.ireturn, 1) := by decide +kernel
def lX9_clause_29 (F : Nat) (K65 : mS → Int32 → Int32 → Option (mS × Int32)) (t : Nat) (S : mS) (v1 : Int32) : Option (mS × Int32) := ck (inb (S.1 t 12) 2820) (if (S.1 (t + 3) (S.1 t 12).toNatClampNeg) = (24 : Int32) then (some (S, (6 : Int32))) else (if (2 : Int32) < v1 then (K65 S v1 (S.1 (t + 3) (S.1 t 12).toNatClampNeg)) else (stp (sI S t 20 ((S.1 t 20) ||| ((1 : Int32) <<< (v1 &&& 31)))) fun S2 => K65 S2 v1 (S.1 (t + 3) (S.1 t 12).toNatClampNeg))))
set_option maxHeartbeats 4000000 in
set_option maxRecDepth 100000 in
theorem gX9_clause_29 {x : mX} {F : Nat} {t : Nat} {K65 : mS → Int32 → Int32 → Option (mS × Int32)} {R : mS × Int32} (ht : kd0 t = 9) (hK65 : ∀ (S : mS) (v1 : Int32) (v2 : Int32) , K65 S v1 v2 = some R → mG x μX9_clause 11 0 0 (mQe R.1 (some (.int R.2))) 0 0 E0 S 65 [(0, .ref (t)), (1, .int (v1)), (2, .int (v2))] []) (S : mS) (v1 : Int32)  (h : lX9_clause_29 F K65 t S v1 = some R) : mG x μX9_clause 11 0 0 (mQe R.1 (some (.int R.2))) 0 0 E0 S 29 [(0, .ref (t)), (1, .int (v1))] [] := by
  unfold lX9_clause_29 at h
  refine mG.aload_n 0 dX9_clause_29 rfl ?_
  refine mG.get (v := .ref (t + 3)) dX9_clause_30 mfX9_16 ht (lr9_texts ht) ?_
  refine mG.aload_n 0 dX9_clause_33 rfl ?_
  refine mG.get (v := .int (S.1 t 12)) dX9_clause_34 mfX9_146 ht rfl ?_
  obtain ⟨b1, h⟩ := ckp h
  refine mG.iald dX9_clause_37 (lk9_texts ht) (ll9_texts ht) (inbp b1) ?_
  refine mG.istore_n (lv2 := [(2, .int (S.1 (t + 3) (S.1 t 12).toNatClampNeg)), (0, .ref (t)), (1, .int (v1))]) dX9_clause_38 rfl (by decide) rfl ?_
  refine mG.iload_n 0 dX9_clause_39 rfl ?_
  refine mG.bipush (v := 24) dX9_clause_40 (by decide) ?_
  refine mG.icmp_ne 48 dX9_clause_42 (by decide) (fun c4 => ?_) (fun c4 => ?_)
  · replace h := itn c4 h
    refine mG.iload_n 2 dX9_clause_48 rfl ?_
    refine mG.iconst (v := 2) dX9_clause_49 rfl ?_
    refine mG.icmp_gt 65 dX9_clause_50 (by decide) (fun c3 => ?_) (fun c3 => ?_)
    · replace h := itp c3 h
      refine mG.sub (lv2 := [(0, .ref (t)), (1, .int (v1)), (2, .int (S.1 (t + 3) (S.1 t 12).toNatClampNeg))]) [1, 2, 0] rfl ?_
      exact hK65 S v1 (S.1 (t + 3) (S.1 t 12).toNatClampNeg)  h
    · replace h := itn c3 h
      refine mG.aload_n 1 dX9_clause_53 rfl ?_
      refine mG.dup dX9_clause_54 rfl ?_
      refine mG.get (v := .int (S.1 t 20)) dX9_clause_55 mfX9_250 ht rfl ?_
      refine mG.iconst (v := 1) dX9_clause_58 rfl ?_
      refine mG.iload_n 2 dX9_clause_59 rfl ?_
      refine mG.ishl dX9_clause_60 ?_
      refine mG.ior dX9_clause_61 ?_
      obtain ⟨S2, hS2, h⟩ := stpp h
      refine mG.putI dX9_clause_62 mfX9_250 rfl (Or.inl rfl) ht hS2 ?_
      refine mG.sub (lv2 := [(0, .ref (t)), (1, .int (v1)), (2, .int (S.1 (t + 3) (S.1 t 12).toNatClampNeg))]) [1, 2, 0] rfl ?_
      exact hK65 S2 v1 (S.1 (t + 3) (S.1 t 12).toNatClampNeg)  h
  · replace h := itp c4 h
    refine mG.bipush (v := 6) dX9_clause_45 (by decide) ?_
    obtain rfl := Option.some.inj h
    exact mG.iret dX9_clause_47 rfl ⟨rfl, rfl, rfl⟩
def lX9_clause_65 (F : Nat)  (t : Nat) (S : mS) (v1 : Int32) (v2 : Int32) : Option (mS × Int32) := stp (sI S t 14 v1) fun S1 => bd (f_X9_nextToken F S1 t) fun q2 => ck (inb (((q2.1 t 12) + (1 : Int32)) + ((4 : Int32) * v2)) 2820) (stp (sI q2 (t + 3) (((q2.1 t 12) + (1 : Int32)) + ((4 : Int32) * v2)).toNatClampNeg v1) fun S4 => bd (f_X9_body F S4 t v1 (((q2.1 t 12) + (1 : Int32)) + ((4 : Int32) * v2))) fun q5 => if q5.2 = 0 then (ck (inb (q5.1.1 t 12) 2820) (ck (inb (q5.1.1 t 12) 2820) (stp (sI q5.1 (t + 3) (q5.1.1 t 12).toNatClampNeg ((q5.1.1 (t + 3) (q5.1.1 t 12).toNatClampNeg) + (1 : Int32))) fun S8 => if (S8.1 t 9) = (59 : Int32) then (bd (f_X9_nextToken F S8 t) fun q9 => some (q9, (0 : Int32))) else (some (S8, (1 : Int32)))))) else (some (q5.1, q5.2)))
set_option maxHeartbeats 4000000 in
set_option maxRecDepth 100000 in
theorem gX9_clause_65 {x : mX} {F : Nat} {t : Nat}  {R : mS × Int32} (ht : kd0 t = 9)  (S : mS) (v1 : Int32) (v2 : Int32)  (h : lX9_clause_65 F  t S v1 v2 = some R) : mG x μX9_clause 11 0 0 (mQe R.1 (some (.int R.2))) 0 0 E0 S 65 [(0, .ref (t)), (1, .int (v1)), (2, .int (v2))] [] := by
  unfold lX9_clause_65 at h
  refine mG.aload_n 0 dX9_clause_65 rfl ?_
  refine mG.iload_n 1 dX9_clause_66 rfl ?_
  obtain ⟨S1, hS1, h⟩ := stpp h
  refine mG.putI dX9_clause_67 mfX9_191 rfl (Or.inl rfl) ht hS1 ?_
  refine mG.aload_n 0 dX9_clause_70 rfl ?_
  obtain ⟨q2, hq2, h⟩ := bdp h
  refine mG.callV0 (as := []) (st := []) (S2 := q2) (r := none) dX9_clause_71 mvX9_nextToken wk20_10 rfl ht rfl (by decide) (Nat.le_of_ble_eq_true rfl) (c_X9_nextToken ht hq2) ?_
  refine mG.aload_n 0 dX9_clause_74 rfl ?_
  refine mG.get (v := .int (q2.1 t 12)) dX9_clause_75 mfX9_146 ht rfl ?_
  refine mG.iconst (v := 1) dX9_clause_78 rfl ?_
  refine mG.iadd dX9_clause_79 ?_
  refine mG.iconst (v := 4) dX9_clause_80 rfl ?_
  refine mG.iload_n 2 dX9_clause_81 rfl ?_
  refine mG.imul dX9_clause_82 ?_
  refine mG.iadd dX9_clause_83 ?_
  refine mG.istore_n (lv2 := [(3, .int (((q2.1 t 12) + (1 : Int32)) + ((4 : Int32) * v2))), (0, .ref (t)), (1, .int (v1)), (2, .int (v2))]) dX9_clause_84 rfl (by decide) rfl ?_
  refine mG.aload_n 1 dX9_clause_85 rfl ?_
  refine mG.get (v := .ref (t + 3)) dX9_clause_86 mfX9_16 ht (lr9_texts ht) ?_
  refine mG.iload_n 0 dX9_clause_89 rfl ?_
  refine mG.iload_n 2 dX9_clause_90 rfl ?_
  obtain ⟨b3, h⟩ := ckp h
  obtain ⟨S4, hS4, h⟩ := stpp h
  refine mG.iast dX9_clause_91 (lk9_texts ht) (ll9_texts ht) (inbp b3) hS4 ?_
  refine mG.aload_n 1 dX9_clause_92 rfl ?_
  refine mG.iload_n 2 dX9_clause_93 rfl ?_
  refine mG.iload_n 0 dX9_clause_94 rfl ?_
  obtain ⟨q5, hq5, h⟩ := bdp h
  refine mG.callV0 (as := [.int (v1), .int (((q2.1 t 12) + (1 : Int32)) + ((4 : Int32) * v2))]) (st := []) (S2 := q5.1) (r := some (.int (q5.2))) dX9_clause_95 mvX9_body wk22_14 rfl ht rfl (by decide) (Nat.le_of_ble_eq_true rfl) (c_X9_body ht hq5) ?_
  refine mG.istore (lv2 := [(4, .int (q5.2)), (3, .int (((q2.1 t 12) + (1 : Int32)) + ((4 : Int32) * v2))), (0, .ref (t)), (1, .int (v1)), (2, .int (v2))]) dX9_clause_98 (by decide) rfl ?_
  refine mG.iload 0 dX9_clause_100 rfl ?_
  refine mG.if_eq 108 dX9_clause_102 (by decide) (fun c11 => ?_) (fun c11 => ?_)
  · replace h := itp c11 h
    refine mG.aload_n 2 dX9_clause_108 rfl ?_
    refine mG.get (v := .ref (t + 3)) dX9_clause_109 mfX9_16 ht (lr9_texts ht) ?_
    refine mG.aload_n 2 dX9_clause_112 rfl ?_
    refine mG.get (v := .int (q5.1.1 t 12)) dX9_clause_113 mfX9_146 ht rfl ?_
    refine mG.dup2 dX9_clause_116 rfl rfl ?_
    obtain ⟨b6, h⟩ := ckp h
    refine mG.iald dX9_clause_117 (lk9_texts ht) (ll9_texts ht) (inbp b6) ?_
    refine mG.iconst (v := 1) dX9_clause_118 rfl ?_
    refine mG.iadd dX9_clause_119 ?_
    obtain ⟨b7, h⟩ := ckp h
    obtain ⟨S8, hS8, h⟩ := stpp h
    refine mG.iast dX9_clause_120 (lk9_texts ht) (ll9_texts ht) (inbp b7) hS8 ?_
    refine mG.aload_n 2 dX9_clause_121 rfl ?_
    refine mG.get (v := .int (S8.1 t 9)) dX9_clause_122 mfX9_108 ht rfl ?_
    refine mG.bipush (v := 59) dX9_clause_125 (by decide) ?_
    refine mG.icmp_eq 132 dX9_clause_127 (by decide) (fun c10 => ?_) (fun c10 => ?_)
    · replace h := itp c10 h
      refine mG.aload_n 2 dX9_clause_132 rfl ?_
      obtain ⟨q9, hq9, h⟩ := bdp h
      refine mG.callV0 (as := []) (st := []) (S2 := q9) (r := none) dX9_clause_133 mvX9_nextToken wk20_10 rfl ht rfl (by decide) (Nat.le_of_ble_eq_true rfl) (c_X9_nextToken ht hq9) ?_
      refine mG.iconst (v := 0) dX9_clause_136 rfl ?_
      obtain rfl := Option.some.inj h
      exact mG.iret dX9_clause_137 rfl ⟨rfl, rfl, rfl⟩
    · replace h := itn c10 h
      refine mG.iconst (v := 1) dX9_clause_130 rfl ?_
      obtain rfl := Option.some.inj h
      exact mG.iret dX9_clause_131 rfl ⟨rfl, rfl, rfl⟩
  · replace h := itn c11 h
    refine mG.iload 0 dX9_clause_105 rfl ?_
    obtain rfl := Option.some.inj h
    exact mG.iret dX9_clause_107 rfl ⟨rfl, rfl, rfl⟩
def f_X9_clause (F : Nat) (S : mS) (t : Nat) : Option (mS × Int32) := if 0 ≤ (f_X9_sortOf S t) then (if (2 : Int32) < (f_X9_sortOf S t) then (lX9_clause_29 F (fun (S : mS) (v1 : Int32) (v2 : Int32) => lX9_clause_65 F  t S v1 v2) t S (f_X9_sortOf S t)) else (if (f_X9_has S (S.1 t 20) (f_X9_sortOf S t)) = true then (some (S, (4 : Int32))) else (lX9_clause_29 F (fun (S : mS) (v1 : Int32) (v2 : Int32) => lX9_clause_65 F  t S v1 v2) t S (f_X9_sortOf S t)))) else (some (S, (1 : Int32)))
set_option maxHeartbeats 4000000 in
set_option maxRecDepth 100000 in
theorem c_X9_clause {F : Nat} {S : mS} {t : Nat} {R : mS × Int32} (ht : kd0 t = 9) (h : f_X9_clause F S t = some R) : mCt μX9_clause 11 0 0 E0 S [.ref (t)] (mQe R.1 (some (.int R.2))) := by
  unfold f_X9_clause at h
  refine mCt.of (by decide) (Nat.le_of_ble_eq_true rfl) ?_
  intro x
  refine mG.aload_n 0 dX9_clause_0 rfl ?_
  refine mG.callV0 (as := []) (st := []) (S2 := S) (r := some (.int (f_X9_sortOf S t))) dX9_clause_1 mvX9_sortOf wk21_12 rfl ht rfl (by decide) (Nat.le_of_ble_eq_true rfl) (c_X9_sortOf ht rfl) ?_
  refine mG.istore_n (lv2 := [(1, .int (f_X9_sortOf S t)), (0, .ref (t))]) dX9_clause_4 rfl (by decide) rfl ?_
  refine mG.iload_n 0 dX9_clause_5 rfl ?_
  refine mG.if_ge 11 dX9_clause_6 (by decide) (fun c3 => ?_) (fun c3 => ?_)
  · replace h := itp c3 h
    refine mG.iload_n 0 dX9_clause_11 rfl ?_
    refine mG.iconst (v := 2) dX9_clause_12 rfl ?_
    refine mG.icmp_gt 29 dX9_clause_13 (by decide) (fun c2 => ?_) (fun c2 => ?_)
    · replace h := itp c2 h
      refine mG.sub (lv2 := [(0, .ref (t)), (1, .int (f_X9_sortOf S t))]) [1, 0] rfl ?_
      exact gX9_clause_29 ht (fun S v1 v2 h => by exact gX9_clause_65 ht   S v1 v2  h)  S (f_X9_sortOf S t)  h
    · replace h := itn c2 h
      refine mG.aload_n 1 dX9_clause_16 rfl ?_
      refine mG.get (v := .int (S.1 t 20)) dX9_clause_17 mfX9_250 ht rfl ?_
      refine mG.iload_n 0 dX9_clause_20 rfl ?_
      refine mG.callS0 (as := [.int (S.1 t 20), .int (f_X9_sortOf S t)]) (st := []) (S2 := S) (r := some (.int (bI (f_X9_has S (S.1 t 20) (f_X9_sortOf S t))))) dX9_clause_21 mbX9_has wk22_12 wk22_11 rfl rfl (by decide) (Nat.le_of_ble_eq_true rfl) (c_X9_has  rfl) ?_
      refine mG.ifz_eq (b := f_X9_has S (S.1 t 20) (f_X9_sortOf S t)) 29 dX9_clause_24 (by decide) (fun c1 => ?_) (fun c1 => ?_)
      · replace h := itn c1 h
        refine mG.sub (lv2 := [(0, .ref (t)), (1, .int (f_X9_sortOf S t))]) [1, 0] rfl ?_
        exact gX9_clause_29 ht (fun S v1 v2 h => by exact gX9_clause_65 ht   S v1 v2  h)  S (f_X9_sortOf S t)  h
      · replace h := itp c1 h
        refine mG.iconst (v := 4) dX9_clause_27 rfl ?_
        obtain rfl := Option.some.inj h
        exact mG.iret dX9_clause_28 rfl ⟨rfl, rfl, rfl⟩
  · replace h := itn c3 h
    refine mG.iconst (v := 1) dX9_clause_9 rfl ?_
    obtain rfl := Option.some.inj h
    exact mG.iret dX9_clause_10 rfl ⟨rfl, rfl, rfl⟩
theorem dX9_readText_0 : decode cX9_readText 0 = .ok (.aload_n 0, 1) := by decide +kernel
theorem dX9_readText_1 : decode cX9_readText 1 = .ok (.sipush 705, 3) := by decide +kernel
theorem dX9_readText_4 : decode cX9_readText 4 = .ok (.aload_n 0, 1) := by decide +kernel
theorem dX9_readText_5 : decode cX9_readText 5 = .ok (.getfield 7, 3) := by decide +kernel
theorem dX9_readText_8 : decode cX9_readText 8 = .ok (.iconst 1, 1) := by decide +kernel
theorem dX9_readText_9 : decode cX9_readText 9 = .ok (.iaload, 1) := by decide +kernel
theorem dX9_readText_10 : decode cX9_readText 10 = .ok (.imul, 1) := by decide +kernel
theorem dX9_readText_11 : decode cX9_readText 11 = .ok (.putfield 146, 3) := by decide +kernel
theorem dX9_readText_14 : decode cX9_readText 14 = .ok (.aload_n 0, 1) := by decide +kernel
theorem dX9_readText_15 : decode cX9_readText 15 = .ok (.getfield 16, 3) := by decide +kernel
theorem dX9_readText_18 : decode cX9_readText 18 = .ok (.aload_n 0, 1) := by decide +kernel
theorem dX9_readText_19 : decode cX9_readText 19 = .ok (.getfield 146, 3) := by decide +kernel
theorem dX9_readText_22 : decode cX9_readText 22 = .ok (.iconst 0, 1) := by decide +kernel
theorem dX9_readText_23 : decode cX9_readText 23 = .ok (.iastore, 1) := by decide +kernel
theorem dX9_readText_24 : decode cX9_readText 24 = .ok (.aload_n 0, 1) := by decide +kernel
theorem dX9_readText_25 : decode cX9_readText 25 = .ok (.iconst 0, 1) := by decide +kernel
theorem dX9_readText_26 : decode cX9_readText 26 = .ok (.putfield 149, 3) := by decide +kernel
theorem dX9_readText_29 : decode cX9_readText 29 = .ok (.aload_n 0, 1) := by decide +kernel
theorem dX9_readText_30 : decode cX9_readText 30 = .ok (.iconst 0, 1) := by decide +kernel
theorem dX9_readText_31 : decode cX9_readText 31 = .ok (.putfield 250, 3) := by decide +kernel
theorem dX9_readText_34 : decode cX9_readText 34 = .ok (.aload_n 0, 1) := by decide +kernel
theorem dX9_readText_35 : decode cX9_readText 35 = .ok (.iconst 0, 1) := by decide +kernel
theorem dX9_readText_36 : decode cX9_readText 36 = .ok (.putfield 98, 3) := by decide +kernel
theorem dX9_readText_39 : decode cX9_readText 39 = .ok (.aload_n 0, 1) := by decide +kernel
theorem dX9_readText_40 : decode cX9_readText 40 = .ok (.invokevirtual 184, 3) := by decide +kernel
theorem dX9_readText_43 : decode cX9_readText 43 = .ok (.aload_n 0, 1) := by decide +kernel
theorem dX9_readText_44 : decode cX9_readText 44 = .ok (.getfield 108, 3) := by decide +kernel
theorem dX9_readText_47 : decode cX9_readText 47 = .ok (.ifCond .eq 17, 3) := by decide +kernel
theorem dX9_readText_50 : decode cX9_readText 50 = .ok (.aload_n 0, 1) := by decide +kernel
theorem dX9_readText_51 : decode cX9_readText 51 = .ok (.invokevirtual 256, 3) := by decide +kernel
theorem dX9_readText_54 : decode cX9_readText 54 = .ok (.istore_n 1, 1) := by decide +kernel
theorem dX9_readText_55 : decode cX9_readText 55 = .ok (.iload_n 1, 1) := by decide +kernel
theorem dX9_readText_56 : decode cX9_readText 56 = .ok (.ifCond .eq 5, 3) := by decide +kernel
theorem dX9_readText_59 : decode cX9_readText 59 = .ok (.iload_n 1, 1) := by decide +kernel
theorem dX9_readText_60 : decode cX9_readText 60 = .ok (.ireturn, 1) := by decide +kernel
theorem dX9_readText_61 : decode cX9_readText 61 = .ok (.goto (-18), 3) := by decide +kernel
theorem dX9_readText_64 : decode cX9_readText 64 = .ok (.iconst 0, 1) := by decide +kernel
theorem dX9_readText_65 : decode cX9_readText 65 = .ok (.ireturn, 1) := by decide +kernel
def lX9_readText_43 (F : Nat)  (t : Nat) : Nat → mS → Option (mS × Int32)
  | 0, _ => none
  | n + 1, S => if (S.1 t 9) = 0 then (some (S, (0 : Int32))) else (bd (f_X9_clause F S t) fun q1 => if q1.2 = 0 then (lX9_readText_43 F  t n q1.1 ) else (some (q1.1, q1.2)))
set_option maxHeartbeats 4000000 in
set_option maxRecDepth 100000 in
theorem gX9_readText_43 {x : mX} {F : Nat} {t : Nat}   {R : mS × Int32} (ht : kd0 t = 9)  : ∀ (n : Nat) (S : mS), lX9_readText_43 F  t n S  = some R → mG x μX9_readText 12 0 0 (mQe R.1 (some (.int R.2))) 0 0 E0 S 43 [(0, .ref (t))] [] := by
  intro n
  induction n with
  | zero =>
    intro S h
    cases h
  | succ n ih =>
    intro S h
    unfold lX9_readText_43 at h
    refine mG.aload_n 0 dX9_readText_43 rfl ?_
    refine mG.get (v := .int (S.1 t 9)) dX9_readText_44 mfX9_108 ht rfl ?_
    refine mG.if_eq 64 dX9_readText_47 (by decide) (fun c3 => ?_) (fun c3 => ?_)
    · replace h := itp c3 h
      refine mG.iconst (v := 0) dX9_readText_64 rfl ?_
      obtain rfl := Option.some.inj h
      exact mG.iret dX9_readText_65 rfl ⟨rfl, rfl, rfl⟩
    · replace h := itn c3 h
      refine mG.aload_n 0 dX9_readText_50 rfl ?_
      obtain ⟨q1, hq1, h⟩ := bdp h
      refine mG.callV0 (as := []) (st := []) (S2 := q1.1) (r := some (.int (q1.2))) dX9_readText_51 mvX9_clause wk21_7 rfl ht rfl (by decide) (Nat.le_of_ble_eq_true rfl) (c_X9_clause ht hq1) ?_
      refine mG.istore_n (lv2 := [(1, .int (q1.2)), (0, .ref (t))]) dX9_readText_54 rfl (by decide) rfl ?_
      refine mG.iload_n 0 dX9_readText_55 rfl ?_
      refine mG.if_eq 61 dX9_readText_56 (by decide) (fun c2 => ?_) (fun c2 => ?_)
      · replace h := itp c2 h
        refine mG.goto 43 dX9_readText_61 (by decide) ?_
        refine mG.sub (lv2 := [(0, .ref (t))]) [1] rfl ?_
        exact ih q1.1   h
      · replace h := itn c2 h
        refine mG.iload_n 0 dX9_readText_59 rfl ?_
        obtain rfl := Option.some.inj h
        exact mG.iret dX9_readText_60 rfl ⟨rfl, rfl, rfl⟩
def f_X9_readText (F : Nat) (S : mS) (t : Nat) : Option (mS × Int32) := ck (inb (1 : Int32) 2308) (stp (sI S t 12 ((705 : Int32) * (S.1 (t + 1) (1 : Int32).toNatClampNeg))) fun S2 => ck (inb (S2.1 t 12) 2820) (stp (sI S2 (t + 3) (S2.1 t 12).toNatClampNeg (0 : Int32)) fun S4 => stp (sI S4 t 13 (0 : Int32)) fun S5 => stp (sI S5 t 20 (0 : Int32)) fun S6 => stp (sI S6 t 7 (0 : Int32)) fun S7 => bd (f_X9_nextToken F S7 t) fun q8 => lX9_readText_43 F  t F q8 ))
set_option maxHeartbeats 4000000 in
set_option maxRecDepth 100000 in
theorem c_X9_readText {F : Nat} {S : mS} {t : Nat} {R : mS × Int32} (ht : kd0 t = 9) (h : f_X9_readText F S t = some R) : mCt μX9_readText 12 0 0 E0 S [.ref (t)] (mQe R.1 (some (.int R.2))) := by
  unfold f_X9_readText at h
  refine mCt.of (by decide) (Nat.le_of_ble_eq_true rfl) ?_
  intro x
  refine mG.aload_n 0 dX9_readText_0 rfl ?_
  refine mG.sipush (v := 705) dX9_readText_1 (by decide) ?_
  refine mG.aload_n 0 dX9_readText_4 rfl ?_
  refine mG.get (v := .ref (t + 1)) dX9_readText_5 mfX9_7 ht (lr9_a ht) ?_
  refine mG.iconst (v := 1) dX9_readText_8 rfl ?_
  obtain ⟨b1, h⟩ := ckp h
  refine mG.iald dX9_readText_9 (lk9_a ht) (ll9_a ht) (inbp b1) ?_
  refine mG.imul dX9_readText_10 ?_
  obtain ⟨S2, hS2, h⟩ := stpp h
  refine mG.putI dX9_readText_11 mfX9_146 rfl (Or.inl rfl) ht hS2 ?_
  refine mG.aload_n 0 dX9_readText_14 rfl ?_
  refine mG.get (v := .ref (t + 3)) dX9_readText_15 mfX9_16 ht (lr9_texts ht) ?_
  refine mG.aload_n 0 dX9_readText_18 rfl ?_
  refine mG.get (v := .int (S2.1 t 12)) dX9_readText_19 mfX9_146 ht rfl ?_
  refine mG.iconst (v := 0) dX9_readText_22 rfl ?_
  obtain ⟨b3, h⟩ := ckp h
  obtain ⟨S4, hS4, h⟩ := stpp h
  refine mG.iast dX9_readText_23 (lk9_texts ht) (ll9_texts ht) (inbp b3) hS4 ?_
  refine mG.aload_n 0 dX9_readText_24 rfl ?_
  refine mG.iconst (v := 0) dX9_readText_25 rfl ?_
  obtain ⟨S5, hS5, h⟩ := stpp h
  refine mG.putI dX9_readText_26 mfX9_149 rfl (Or.inl rfl) ht hS5 ?_
  refine mG.aload_n 0 dX9_readText_29 rfl ?_
  refine mG.iconst (v := 0) dX9_readText_30 rfl ?_
  obtain ⟨S6, hS6, h⟩ := stpp h
  refine mG.putI dX9_readText_31 mfX9_250 rfl (Or.inl rfl) ht hS6 ?_
  refine mG.aload_n 0 dX9_readText_34 rfl ?_
  refine mG.iconst (v := 0) dX9_readText_35 rfl ?_
  obtain ⟨S7, hS7, h⟩ := stpp h
  refine mG.putI dX9_readText_36 mfX9_98 rfl (Or.inl rfl) ht hS7 ?_
  refine mG.aload_n 0 dX9_readText_39 rfl ?_
  obtain ⟨q8, hq8, h⟩ := bdp h
  refine mG.callV0 (as := []) (st := []) (S2 := q8) (r := none) dX9_readText_40 mvX9_nextToken wk20_10 rfl ht rfl (by decide) (Nat.le_of_ble_eq_true rfl) (c_X9_nextToken ht hq8) ?_
  refine mG.sub (lv2 := [(0, .ref (t))]) [0] rfl ?_
  exact gX9_readText_43 ht  F q8   h
theorem dX9_text_0 : decode cX9_text 0 = .ok (.aload_n 0, 1) := by decide +kernel
theorem dX9_text_1 : decode cX9_text 1 = .ok (.getfield 7, 3) := by decide +kernel
theorem dX9_text_4 : decode cX9_text 4 = .ok (.iconst 1, 1) := by decide +kernel
theorem dX9_text_5 : decode cX9_text 5 = .ok (.iaload, 1) := by decide +kernel
theorem dX9_text_6 : decode cX9_text 6 = .ok (.iconst 4, 1) := by decide +kernel
theorem dX9_text_7 : decode cX9_text 7 = .ok (.if_icmp .ne 5, 3) := by decide +kernel
theorem dX9_text_10 : decode cX9_text 10 = .ok (.iconst (-1), 1) := by decide +kernel
theorem dX9_text_11 : decode cX9_text 11 = .ok (.ireturn, 1) := by decide +kernel
theorem dX9_text_12 : decode cX9_text 12 = .ok (.aload_n 0, 1) := by decide +kernel
theorem dX9_text_13 : decode cX9_text 13 = .ok (.aload_n 0, 1) := by decide +kernel
theorem dX9_text_14 : decode cX9_text 14 = .ok (.invokevirtual 259, 3) := by decide +kernel
theorem dX9_text_17 : decode cX9_text 17 = .ok (.putfield 22, 3) := by decide +kernel
theorem dX9_text_20 : decode cX9_text 20 = .ok (.aload_n 0, 1) := by decide +kernel
theorem dX9_text_21 : decode cX9_text 21 = .ok (.aload_n 0, 1) := by decide +kernel
theorem dX9_text_22 : decode cX9_text 22 = .ok (.getfield 22, 3) := by decide +kernel
theorem dX9_text_25 : decode cX9_text 25 = .ok (.ifCond .ne 7, 3) := by decide +kernel
theorem dX9_text_28 : decode cX9_text 28 = .ok (.iconst (-1), 1) := by decide +kernel
theorem dX9_text_29 : decode cX9_text 29 = .ok (.goto 7, 3) := by decide +kernel
theorem dX9_text_32 : decode cX9_text 32 = .ok (.aload_n 0, 1) := by decide +kernel
theorem dX9_text_33 : decode cX9_text 33 = .ok (.getfield 105, 3) := by decide +kernel
theorem dX9_text_36 : decode cX9_text 36 = .ok (.putfield 26, 3) := by decide +kernel
theorem dX9_text_39 : decode cX9_text 39 = .ok (.aload_n 0, 1) := by decide +kernel
theorem dX9_text_40 : decode cX9_text 40 = .ok (.iconst 0, 1) := by decide +kernel
theorem dX9_text_41 : decode cX9_text 41 = .ok (.putfield 92, 3) := by decide +kernel
theorem dX9_text_44 : decode cX9_text 44 = .ok (.aload_n 0, 1) := by decide +kernel
theorem dX9_text_45 : decode cX9_text 45 = .ok (.getfield 22, 3) := by decide +kernel
theorem dX9_text_48 : decode cX9_text 48 = .ok (.ifCond .eq 5, 3) := by decide +kernel
theorem dX9_text_51 : decode cX9_text 51 = .ok (.iconst (-1), 1) := by decide +kernel
theorem dX9_text_52 : decode cX9_text 52 = .ok (.ireturn, 1) := by decide +kernel
theorem dX9_text_53 : decode cX9_text 53 = .ok (.aload_n 0, 1) := by decide +kernel
theorem dX9_text_54 : decode cX9_text 54 = .ok (.getfield 7, 3) := by decide +kernel
theorem dX9_text_57 : decode cX9_text 57 = .ok (.iconst 1, 1) := by decide +kernel
theorem dX9_text_58 : decode cX9_text 58 = .ok (.dup2, 1) := by decide +kernel
theorem dX9_text_59 : decode cX9_text 59 = .ok (.iaload, 1) := by decide +kernel
theorem dX9_text_60 : decode cX9_text 60 = .ok (.iconst 1, 1) := by decide +kernel
theorem dX9_text_61 : decode cX9_text 61 = .ok (.iadd, 1) := by decide +kernel
theorem dX9_text_62 : decode cX9_text 62 = .ok (.iastore, 1) := by decide +kernel
theorem dX9_text_63 : decode cX9_text 63 = .ok (.aload_n 0, 1) := by decide +kernel
theorem dX9_text_64 : decode cX9_text 64 = .ok (.getfield 7, 3) := by decide +kernel
theorem dX9_text_67 : decode cX9_text 67 = .ok (.iconst 1, 1) := by decide +kernel
theorem dX9_text_68 : decode cX9_text 68 = .ok (.iaload, 1) := by decide +kernel
theorem dX9_text_69 : decode cX9_text 69 = .ok (.iconst 1, 1) := by decide +kernel
theorem dX9_text_70 : decode cX9_text 70 = .ok (.isub, 1) := by decide +kernel
theorem dX9_text_71 : decode cX9_text 71 = .ok (.ireturn, 1) := by decide +kernel
def lX9_text_36 (F : Nat)  (t : Nat) (S : mS) (s0 : Int32) : Option (mS × Int32) := stp (sI S t 6 s0) fun S1 => stp (sI S1 t 4 (0 : Int32)) fun S2 => if (S2.1 t 5) = 0 then (ck (inb (1 : Int32) 2308) (ck (inb (1 : Int32) 2308) (stp (sI S2 (t + 1) (1 : Int32).toNatClampNeg ((S2.1 (t + 1) (1 : Int32).toNatClampNeg) + (1 : Int32))) fun S5 => ck (inb (1 : Int32) 2308) (some (S5, (S5.1 (t + 1) (1 : Int32).toNatClampNeg) - (1 : Int32)))))) else (some (S2, (-1 : Int32)))
set_option maxHeartbeats 4000000 in
set_option maxRecDepth 100000 in
theorem gX9_text_36 {x : mX} {F : Nat} {t : Nat}  {R : mS × Int32} (ht : kd0 t = 9)  (S : mS) (s0 : Int32) (ks1 : kd0 (t) = 9) (h : lX9_text_36 F  t S s0 = some R) : mG x μX9_text 13 0 0 (mQe R.1 (some (.int R.2))) 0 0 E0 S 36 [(0, .ref (t))] [.int (s0), .ref (t)] := by
  unfold lX9_text_36 at h
  obtain ⟨S1, hS1, h⟩ := stpp h
  refine mG.putI dX9_text_36 mfX9_26 rfl (Or.inl rfl) ks1 hS1 ?_
  refine mG.aload_n 0 dX9_text_39 rfl ?_
  refine mG.iconst (v := 0) dX9_text_40 rfl ?_
  obtain ⟨S2, hS2, h⟩ := stpp h
  refine mG.putI dX9_text_41 mfX9_92 rfl (Or.inl rfl) ht hS2 ?_
  refine mG.aload_n 0 dX9_text_44 rfl ?_
  refine mG.get (v := .int (S2.1 t 5)) dX9_text_45 mfX9_22 ht rfl ?_
  refine mG.if_eq 53 dX9_text_48 (by decide) (fun c7 => ?_) (fun c7 => ?_)
  · replace h := itp c7 h
    refine mG.aload_n 0 dX9_text_53 rfl ?_
    refine mG.get (v := .ref (t + 1)) dX9_text_54 mfX9_7 ht (lr9_a ht) ?_
    refine mG.iconst (v := 1) dX9_text_57 rfl ?_
    refine mG.dup2 dX9_text_58 rfl rfl ?_
    obtain ⟨b3, h⟩ := ckp h
    refine mG.iald dX9_text_59 (lk9_a ht) (ll9_a ht) (inbp b3) ?_
    refine mG.iconst (v := 1) dX9_text_60 rfl ?_
    refine mG.iadd dX9_text_61 ?_
    obtain ⟨b4, h⟩ := ckp h
    obtain ⟨S5, hS5, h⟩ := stpp h
    refine mG.iast dX9_text_62 (lk9_a ht) (ll9_a ht) (inbp b4) hS5 ?_
    refine mG.aload_n 0 dX9_text_63 rfl ?_
    refine mG.get (v := .ref (t + 1)) dX9_text_64 mfX9_7 ht (lr9_a ht) ?_
    refine mG.iconst (v := 1) dX9_text_67 rfl ?_
    obtain ⟨b6, h⟩ := ckp h
    refine mG.iald dX9_text_68 (lk9_a ht) (ll9_a ht) (inbp b6) ?_
    refine mG.iconst (v := 1) dX9_text_69 rfl ?_
    refine mG.isub dX9_text_70 ?_
    obtain rfl := Option.some.inj h
    exact mG.iret dX9_text_71 rfl ⟨rfl, rfl, rfl⟩
  · replace h := itn c7 h
    refine mG.iconst (v := (-1)) dX9_text_51 rfl ?_
    obtain rfl := Option.some.inj h
    exact mG.iret dX9_text_52 rfl ⟨rfl, rfl, rfl⟩
def f_X9_text (F : Nat) (S : mS) (t : Nat) : Option (mS × Int32) := ck (inb (1 : Int32) 2308) (if (S.1 (t + 1) (1 : Int32).toNatClampNeg) = (4 : Int32) then (some (S, (-1 : Int32))) else (bd (f_X9_readText F S t) fun q2 => stp (sI q2.1 t 5 q2.2) fun S3 => if (S3.1 t 5) = 0 then (lX9_text_36 F  t S3 (-1 : Int32)) else (lX9_text_36 F  t S3 (S3.1 t 8))))
set_option maxHeartbeats 4000000 in
set_option maxRecDepth 100000 in
theorem c_X9_text {F : Nat} {S : mS} {t : Nat} {R : mS × Int32} (ht : kd0 t = 9) (h : f_X9_text F S t = some R) : mCt μX9_text 13 0 0 E0 S [.ref (t)] (mQe R.1 (some (.int R.2))) := by
  unfold f_X9_text at h
  refine mCt.of (by decide) (Nat.le_of_ble_eq_true rfl) ?_
  intro x
  refine mG.aload_n 0 dX9_text_0 rfl ?_
  refine mG.get (v := .ref (t + 1)) dX9_text_1 mfX9_7 ht (lr9_a ht) ?_
  refine mG.iconst (v := 1) dX9_text_4 rfl ?_
  obtain ⟨b1, h⟩ := ckp h
  refine mG.iald dX9_text_5 (lk9_a ht) (ll9_a ht) (inbp b1) ?_
  refine mG.iconst (v := 4) dX9_text_6 rfl ?_
  refine mG.icmp_ne 12 dX9_text_7 (by decide) (fun c5 => ?_) (fun c5 => ?_)
  · replace h := itn c5 h
    refine mG.aload_n 0 dX9_text_12 rfl ?_
    refine mG.aload_n 0 dX9_text_13 rfl ?_
    obtain ⟨q2, hq2, h⟩ := bdp h
    refine mG.callV0 (as := []) (st := [.ref (t)]) (S2 := q2.1) (r := some (.int (q2.2))) dX9_text_14 mvX9_readText wk20_1 rfl ht rfl (by decide) (Nat.le_of_ble_eq_true rfl) (c_X9_readText ht hq2) ?_
    obtain ⟨S3, hS3, h⟩ := stpp h
    refine mG.putI dX9_text_17 mfX9_22 rfl (Or.inl rfl) ht hS3 ?_
    refine mG.aload_n 0 dX9_text_20 rfl ?_
    refine mG.aload_n 0 dX9_text_21 rfl ?_
    refine mG.get (v := .int (S3.1 t 5)) dX9_text_22 mfX9_22 ht rfl ?_
    refine mG.if_ne 32 dX9_text_25 (by decide) (fun c4 => ?_) (fun c4 => ?_)
    · replace h := itn c4 h
      refine mG.aload_n 0 dX9_text_32 rfl ?_
      refine mG.get (v := .int (S3.1 t 8)) dX9_text_33 mfX9_105 ht rfl ?_
      refine mG.sub (lv2 := [(0, .ref (t))]) [0] rfl ?_
      exact gX9_text_36 ht   S3 (S3.1 t 8) ht h
    · replace h := itp c4 h
      refine mG.iconst (v := (-1)) dX9_text_28 rfl ?_
      refine mG.goto 36 dX9_text_29 (by decide) ?_
      refine mG.sub (lv2 := [(0, .ref (t))]) [0] rfl ?_
      exact gX9_text_36 ht   S3 (-1 : Int32) ht h
  · replace h := itp c5 h
    refine mG.iconst (v := (-1)) dX9_text_10 rfl ?_
    obtain rfl := Option.some.inj h
    exact mG.iret dX9_text_11 rfl ⟨rfl, rfl, rfl⟩
theorem dX9_fault_0 : decode cX9_fault 0 = .ok (.iload_n 1, 1) := by decide +kernel
theorem dX9_fault_1 : decode cX9_fault 1 = .ok (.ifCond .ne 10, 3) := by decide +kernel
theorem dX9_fault_4 : decode cX9_fault 4 = .ok (.aload_n 0, 1) := by decide +kernel
theorem dX9_fault_5 : decode cX9_fault 5 = .ok (.getfield 22, 3) := by decide +kernel
theorem dX9_fault_8 : decode cX9_fault 8 = .ok (.goto 16, 3) := by decide +kernel
theorem dX9_fault_11 : decode cX9_fault 11 = .ok (.iload_n 1, 1) := by decide +kernel
theorem dX9_fault_12 : decode cX9_fault 12 = .ok (.iconst 1, 1) := by decide +kernel
theorem dX9_fault_13 : decode cX9_fault 13 = .ok (.if_icmp .ne 10, 3) := by decide +kernel
theorem dX9_fault_16 : decode cX9_fault 16 = .ok (.aload_n 0, 1) := by decide +kernel
theorem dX9_fault_17 : decode cX9_fault 17 = .ok (.getfield 26, 3) := by decide +kernel
theorem dX9_fault_20 : decode cX9_fault 20 = .ok (.goto 4, 3) := by decide +kernel
theorem dX9_fault_23 : decode cX9_fault 23 = .ok (.iconst (-1), 1) := by decide +kernel
theorem dX9_fault_24 : decode cX9_fault 24 = .ok (.ireturn, 1) := by decide +kernel
def f_X9_fault (S0 : mS) (t : Nat) (a1 : Int32) : Int32 := if a1 = 0 then (S0.1 t 5) else (if a1 = (1 : Int32) then (S0.1 t 6) else ((-1 : Int32)))
set_option maxHeartbeats 4000000 in
set_option maxRecDepth 100000 in
theorem c_X9_fault {S0 : mS} {t : Nat} {a1 : Int32} {R : Int32} (ht : kd0 t = 9) (h : f_X9_fault S0 t a1 = R) : mCt μX9_fault 1 0 0 E0 S0 [.ref (t), .int (a1)] (mQe S0 (some (.int R))) := by
  unfold f_X9_fault at h
  refine mCt.of (by decide) (Nat.le_of_ble_eq_true rfl) ?_
  intro x
  refine mG.iload_n 1 dX9_fault_0 rfl ?_
  refine mG.if_ne 11 dX9_fault_1 (by decide) (fun c2 => ?_) (fun c2 => ?_)
  · replace h := itn c2 h
    refine mG.iload_n 1 dX9_fault_11 rfl ?_
    refine mG.iconst (v := 1) dX9_fault_12 rfl ?_
    refine mG.icmp_ne 23 dX9_fault_13 (by decide) (fun c1 => ?_) (fun c1 => ?_)
    · replace h := itn c1 h
      refine mG.iconst (v := (-1)) dX9_fault_23 rfl ?_
      subst h
      exact mG.iret dX9_fault_24 rfl ⟨rfl, rfl, rfl⟩
    · replace h := itp c1 h
      refine mG.aload_n 0 dX9_fault_16 rfl ?_
      refine mG.get (v := .int (S0.1 t 6)) dX9_fault_17 mfX9_26 ht rfl ?_
      refine mG.goto 24 dX9_fault_20 (by decide) ?_
      subst h
      exact mG.iret dX9_fault_24 rfl ⟨rfl, rfl, rfl⟩
  · replace h := itp c2 h
    refine mG.aload_n 0 dX9_fault_4 rfl ?_
    refine mG.get (v := .int (S0.1 t 5)) dX9_fault_5 mfX9_22 ht rfl ?_
    refine mG.goto 24 dX9_fault_8 (by decide) ?_
    subst h
    exact mG.iret dX9_fault_24 rfl ⟨rfl, rfl, rfl⟩
theorem dX9_by_0 : decode cX9_by 0 = .ok (.iload_n 1, 1) := by decide +kernel
theorem dX9_by_1 : decode cX9_by 1 = .ok (.iconst (-1), 1) := by decide +kernel
theorem dX9_by_2 : decode cX9_by 2 = .ok (.aload_n 0, 1) := by decide +kernel
theorem dX9_by_3 : decode cX9_by 3 = .ok (.getfield 7, 3) := by decide +kernel
theorem dX9_by_6 : decode cX9_by 6 = .ok (.iconst 1, 1) := by decide +kernel
theorem dX9_by_7 : decode cX9_by 7 = .ok (.iaload, 1) := by decide +kernel
theorem dX9_by_8 : decode cX9_by 8 = .ok (.iconst 1, 1) := by decide +kernel
theorem dX9_by_9 : decode cX9_by 9 = .ok (.isub, 1) := by decide +kernel
theorem dX9_by_10 : decode cX9_by 10 = .ok (.invokestatic 65, 3) := by decide +kernel
theorem dX9_by_13 : decode cX9_by 13 = .ok (.ifCond .ne 5, 3) := by decide +kernel
theorem dX9_by_16 : decode cX9_by 16 = .ok (.iconst 0, 1) := by decide +kernel
theorem dX9_by_17 : decode cX9_by 17 = .ok (.ireturn, 1) := by decide +kernel
theorem dX9_by_18 : decode cX9_by 18 = .ok (.aload_n 0, 1) := by decide +kernel
theorem dX9_by_19 : decode cX9_by 19 = .ok (.getfield 7, 3) := by decide +kernel
theorem dX9_by_22 : decode cX9_by 22 = .ok (.iconst 2, 1) := by decide +kernel
theorem dX9_by_23 : decode cX9_by 23 = .ok (.iload_n 1, 1) := by decide +kernel
theorem dX9_by_24 : decode cX9_by 24 = .ok (.iastore, 1) := by decide +kernel
theorem dX9_by_25 : decode cX9_by 25 = .ok (.iconst 1, 1) := by decide +kernel
theorem dX9_by_26 : decode cX9_by 26 = .ok (.ireturn, 1) := by decide +kernel
def f_X9_by (F : Nat) (S : mS) (t : Nat) (a1 : Int32) : Option (mS × Bool) := ck (inb (1 : Int32) 2308) (if (f_X9_isIn S a1 (-1 : Int32) ((S.1 (t + 1) (1 : Int32).toNatClampNeg) - (1 : Int32))) = true then (ck (inb (2 : Int32) 2308) (stp (sI S (t + 1) (2 : Int32).toNatClampNeg a1) fun S3 => some (S3, true))) else (some (S, false)))
set_option maxHeartbeats 4000000 in
set_option maxRecDepth 100000 in
theorem c_X9_by {F : Nat} {S : mS} {t : Nat} {a1 : Int32} {R : mS × Bool} (ht : kd0 t = 9) (h : f_X9_by F S t a1 = some R) : mCt μX9_by 2 0 0 E0 S [.ref (t), .int (a1)] (mQe R.1 (some (.int (bI R.2)))) := by
  unfold f_X9_by at h
  refine mCt.of (by decide) (Nat.le_of_ble_eq_true rfl) ?_
  intro x
  refine mG.iload_n 1 dX9_by_0 rfl ?_
  refine mG.iconst (v := (-1)) dX9_by_1 rfl ?_
  refine mG.aload_n 0 dX9_by_2 rfl ?_
  refine mG.get (v := .ref (t + 1)) dX9_by_3 mfX9_7 ht (lr9_a ht) ?_
  refine mG.iconst (v := 1) dX9_by_6 rfl ?_
  obtain ⟨b1, h⟩ := ckp h
  refine mG.iald dX9_by_7 (lk9_a ht) (ll9_a ht) (inbp b1) ?_
  refine mG.iconst (v := 1) dX9_by_8 rfl ?_
  refine mG.isub dX9_by_9 ?_
  refine mG.callS0 (as := [.int (a1), .int (-1), .int ((S.1 (t + 1) (1 : Int32).toNatClampNeg) - (1 : Int32))]) (st := []) (S2 := S) (r := some (.int (bI (f_X9_isIn S a1 (-1 : Int32) ((S.1 (t + 1) (1 : Int32).toNatClampNeg) - (1 : Int32)))))) dX9_by_10 mbX9_isIn wk7_13 wk7_12 rfl rfl (by decide) (Nat.le_of_ble_eq_true rfl) (c_X9_isIn  rfl) ?_
  refine mG.ifz_ne (b := f_X9_isIn S a1 (-1 : Int32) ((S.1 (t + 1) (1 : Int32).toNatClampNeg) - (1 : Int32))) 18 dX9_by_13 (by decide) (fun c4 => ?_) (fun c4 => ?_)
  · replace h := itp c4 h
    refine mG.aload_n 0 dX9_by_18 rfl ?_
    refine mG.get (v := .ref (t + 1)) dX9_by_19 mfX9_7 ht (lr9_a ht) ?_
    refine mG.iconst (v := 2) dX9_by_22 rfl ?_
    refine mG.iload_n 1 dX9_by_23 rfl ?_
    obtain ⟨b2, h⟩ := ckp h
    obtain ⟨S3, hS3, h⟩ := stpp h
    refine mG.iast dX9_by_24 (lk9_a ht) (ll9_a ht) (inbp b2) hS3 ?_
    refine mG.iconst (v := 1) dX9_by_25 rfl ?_
    obtain rfl := Option.some.inj h
    exact mG.zret (b := true) dX9_by_26 rfl rfl ⟨rfl, rfl, rfl⟩
  · replace h := itn c4 h
    refine mG.iconst (v := 0) dX9_by_16 rfl ?_
    obtain rfl := Option.some.inj h
    exact mG.zret (b := false) dX9_by_17 rfl rfl ⟨rfl, rfl, rfl⟩
theorem dX9_clip_0 : decode cX9_clip 0 = .ok (.lload_n 0, 1) := by decide +kernel
theorem dX9_clip_1 : decode cX9_clip 1 = .ok (.ldc2_w 262, 3) := by decide +kernel
theorem dX9_clip_4 : decode cX9_clip 4 = .ok (.lcmp, 1) := by decide +kernel
theorem dX9_clip_5 : decode cX9_clip 5 = .ok (.ifCond .le 9, 3) := by decide +kernel
theorem dX9_clip_8 : decode cX9_clip 8 = .ok (.ldc2_w 262, 3) := by decide +kernel
theorem dX9_clip_11 : decode cX9_clip 11 = .ok (.goto 18, 3) := by decide +kernel
theorem dX9_clip_14 : decode cX9_clip 14 = .ok (.lload_n 0, 1) := by decide +kernel
theorem dX9_clip_15 : decode cX9_clip 15 = .ok (.ldc2_w 264, 3) := by decide +kernel
theorem dX9_clip_18 : decode cX9_clip 18 = .ok (.lcmp, 1) := by decide +kernel
theorem dX9_clip_19 : decode cX9_clip 19 = .ok (.ifCond .ge 9, 3) := by decide +kernel
theorem dX9_clip_22 : decode cX9_clip 22 = .ok (.ldc2_w 264, 3) := by decide +kernel
theorem dX9_clip_25 : decode cX9_clip 25 = .ok (.goto 4, 3) := by decide +kernel
theorem dX9_clip_28 : decode cX9_clip 28 = .ok (.lload_n 0, 1) := by decide +kernel
theorem dX9_clip_29 : decode cX9_clip 29 = .ok (.lreturn, 1) := by decide +kernel
def f_X9_clip (S0 : mS) (a1 : Int64) : Int64 := if (1000000 : Int64) < a1 then ((1000000 : Int64)) else (if a1 < (-1000000 : Int64) then ((-1000000 : Int64)) else (a1))
set_option maxHeartbeats 4000000 in
set_option maxRecDepth 100000 in
theorem c_X9_clip {S0 : mS} {a1 : Int64} {R : Int64}  (h : f_X9_clip S0 a1 = R) : mCt μX9_clip 1 0 0 E0 S0 [.long (a1)] (mQe S0 (some (.long R))) := by
  unfold f_X9_clip at h
  refine mCt.of (by decide) (Nat.le_of_ble_eq_true rfl) ?_
  intro x
  refine mG.lload_n 0 dX9_clip_0 rfl ?_
  refine mG.ldc2 (v := 1000000) dX9_clip_1 wk35_14 ?_
  refine mG.lcmp dX9_clip_4 ?_
  refine mG.ifl_le 14 dX9_clip_5 (by decide) (fun c2 => ?_) (fun c2 => ?_)
  · replace h := itn c2 h
    refine mG.lload_n 0 dX9_clip_14 rfl ?_
    refine mG.ldc2 (v := (-1000000)) dX9_clip_15 wk35_15 ?_
    refine mG.lcmp dX9_clip_18 ?_
    refine mG.ifl_ge 28 dX9_clip_19 (by decide) (fun c1 => ?_) (fun c1 => ?_)
    · replace h := itn c1 h
      refine mG.lload_n 0 dX9_clip_28 rfl ?_
      subst h
      exact mG.lret dX9_clip_29 rfl ⟨rfl, rfl, rfl⟩
    · replace h := itp c1 h
      refine mG.ldc2 (v := (-1000000)) dX9_clip_22 wk35_15 ?_
      refine mG.goto 29 dX9_clip_25 (by decide) ?_
      subst h
      exact mG.lret dX9_clip_29 rfl ⟨rfl, rfl, rfl⟩
  · replace h := itp c2 h
    refine mG.ldc2 (v := 1000000) dX9_clip_8 wk35_14 ?_
    refine mG.goto 29 dX9_clip_11 (by decide) ?_
    subst h
    exact mG.lret dX9_clip_29 rfl ⟨rfl, rfl, rfl⟩
theorem dX9_two_0 : decode cX9_two 0 = .ok (.iload_n 0, 1) := by decide +kernel
theorem dX9_two_1 : decode cX9_two 1 = .ok (.tableswitch 48 3 5 #[27, 34, 41], 27) := by decide +kernel
theorem dX9_two_28 : decode cX9_two 28 = .ok (.lload_n 1, 1) := by decide +kernel
theorem dX9_two_29 : decode cX9_two 29 = .ok (.lload_n 3, 1) := by decide +kernel
theorem dX9_two_30 : decode cX9_two 30 = .ok (.ladd, 1) := by decide +kernel
theorem dX9_two_31 : decode cX9_two 31 = .ok (.invokestatic 266, 3) := by decide +kernel
theorem dX9_two_34 : decode cX9_two 34 = .ok (.lreturn, 1) := by decide +kernel
theorem dX9_two_35 : decode cX9_two 35 = .ok (.lload_n 1, 1) := by decide +kernel
theorem dX9_two_36 : decode cX9_two 36 = .ok (.lload_n 3, 1) := by decide +kernel
theorem dX9_two_37 : decode cX9_two 37 = .ok (.lsub, 1) := by decide +kernel
theorem dX9_two_38 : decode cX9_two 38 = .ok (.invokestatic 266, 3) := by decide +kernel
theorem dX9_two_41 : decode cX9_two 41 = .ok (.lreturn, 1) := by decide +kernel
theorem dX9_two_42 : decode cX9_two 42 = .ok (.lload_n 1, 1) := by decide +kernel
theorem dX9_two_43 : decode cX9_two 43 = .ok (.lload_n 3, 1) := by decide +kernel
theorem dX9_two_44 : decode cX9_two 44 = .ok (.lmul, 1) := by decide +kernel
theorem dX9_two_45 : decode cX9_two 45 = .ok (.invokestatic 266, 3) := by decide +kernel
theorem dX9_two_48 : decode cX9_two 48 = .ok (.lreturn, 1) := by decide +kernel
theorem dX9_two_49 : decode cX9_two 49 = .ok (.lload_n 3, 1) := by decide +kernel
theorem dX9_two_50 : decode cX9_two 50 = .ok (.lconst 0, 1) := by decide +kernel
theorem dX9_two_51 : decode cX9_two 51 = .ok (.lcmp, 1) := by decide +kernel
theorem dX9_two_52 : decode cX9_two 52 = .ok (.ifCond .ne 7, 3) := by decide +kernel
theorem dX9_two_55 : decode cX9_two 55 = .ok (.lconst 0, 1) := by decide +kernel
theorem dX9_two_56 : decode cX9_two 56 = .ok (.goto 9, 3) := by decide +kernel
theorem dX9_two_59 : decode cX9_two 59 = .ok (.lload_n 1, 1) := by decide +kernel
theorem dX9_two_60 : decode cX9_two 60 = .ok (.lload_n 3, 1) := by decide +kernel
theorem dX9_two_61 : decode cX9_two 61 = .ok (.ldiv, 1) := by decide +kernel
theorem dX9_two_62 : decode cX9_two 62 = .ok (.invokestatic 266, 3) := by decide +kernel
theorem dX9_two_65 : decode cX9_two 65 = .ok (.lreturn, 1) := by decide +kernel
def f_X9_two (F : Nat) (S0 : mS) (a1 : Int32) (a2 : Int64) (a3 : Int64) : Option Int64 := if a1 = (3 : Int32) then (some (f_X9_clip S0 (a2 + a3))) else (if a1 = (4 : Int32) then (some (f_X9_clip S0 (a2 - a3))) else (if a1 = (5 : Int32) then (some (f_X9_clip S0 (a2 * a3))) else (if a3 = (0 : Int64) then (some (0 : Int64)) else (ck (nzl a3) (some (f_X9_clip S0 (a2 / a3)))))))
set_option maxHeartbeats 4000000 in
set_option maxRecDepth 100000 in
theorem c_X9_two {F : Nat} {S0 : mS} {a1 : Int32} {a2 : Int64} {a3 : Int64} {R : Int64}  (h : f_X9_two F S0 a1 a2 a3 = some R) : mCt μX9_two 2 0 0 E0 S0 [.int (a1), .long (a2), .long (a3)] (mQe S0 (some (.long R))) := by
  unfold f_X9_two at h
  refine mCt.of (by decide) (Nat.le_of_ble_eq_true rfl) ?_
  intro x
  refine mG.iload_n 0 dX9_two_0 rfl ?_
  by_cases c1 : a1 = (3 : Int32)
  · replace h := itp c1 h
    refine mG.tblIn (27) 28 dX9_two_1 (by rw [c1]; decide) (by rw [c1]; decide) (by rw [c1]; decide) (by decide) ?_
    refine mG.lload_n 1 dX9_two_28 rfl ?_
    refine mG.lload_n 2 dX9_two_29 rfl ?_
    refine mG.ladd dX9_two_30 ?_
    refine mG.callS0 (as := [.long (a2 + a3)]) (st := []) (S2 := S0) (r := some (.long (f_X9_clip S0 (a2 + a3)))) dX9_two_31 mbX9_clip wk35_12 wk35_11 rfl rfl (by decide) (Nat.le_of_ble_eq_true rfl) (c_X9_clip  rfl) ?_
    obtain rfl := Option.some.inj h
    exact mG.lret dX9_two_34 rfl ⟨rfl, rfl, rfl⟩
  replace h := itn c1 h
  by_cases c2 : a1 = (4 : Int32)
  · replace h := itp c2 h
    refine mG.tblIn (34) 35 dX9_two_1 (by rw [c2]; decide) (by rw [c2]; decide) (by rw [c2]; decide) (by decide) ?_
    refine mG.lload_n 1 dX9_two_35 rfl ?_
    refine mG.lload_n 2 dX9_two_36 rfl ?_
    refine mG.lsub dX9_two_37 ?_
    refine mG.callS0 (as := [.long (a2 - a3)]) (st := []) (S2 := S0) (r := some (.long (f_X9_clip S0 (a2 - a3)))) dX9_two_38 mbX9_clip wk35_12 wk35_11 rfl rfl (by decide) (Nat.le_of_ble_eq_true rfl) (c_X9_clip  rfl) ?_
    obtain rfl := Option.some.inj h
    exact mG.lret dX9_two_41 rfl ⟨rfl, rfl, rfl⟩
  replace h := itn c2 h
  by_cases c3 : a1 = (5 : Int32)
  · replace h := itp c3 h
    refine mG.tblIn (41) 42 dX9_two_1 (by rw [c3]; decide) (by rw [c3]; decide) (by rw [c3]; decide) (by decide) ?_
    refine mG.lload_n 1 dX9_two_42 rfl ?_
    refine mG.lload_n 2 dX9_two_43 rfl ?_
    refine mG.lmul dX9_two_44 ?_
    refine mG.callS0 (as := [.long (a2 * a3)]) (st := []) (S2 := S0) (r := some (.long (f_X9_clip S0 (a2 * a3)))) dX9_two_45 mbX9_clip wk35_12 wk35_11 rfl rfl (by decide) (Nat.le_of_ble_eq_true rfl) (c_X9_clip  rfl) ?_
    obtain rfl := Option.some.inj h
    exact mG.lret dX9_two_48 rfl ⟨rfl, rfl, rfl⟩
  replace h := itn c3 h
  refine mG.tblOut 49 dX9_two_1 (by have e0 : Int32.toInt a1 ≠ 3 := fun q => c1 (Int32.toInt_inj.mp (q.trans (by decide))); have e1 : Int32.toInt a1 ≠ 4 := fun q => c2 (Int32.toInt_inj.mp (q.trans (by decide))); have e2 : Int32.toInt a1 ≠ 5 := fun q => c3 (Int32.toInt_inj.mp (q.trans (by decide))); omega) (by decide) ?_
  refine mG.lload_n 2 dX9_two_49 rfl ?_
  refine mG.lconst (v := 0) dX9_two_50 rfl ?_
  refine mG.lcmp dX9_two_51 ?_
  refine mG.ifl_ne 59 dX9_two_52 (by decide) (fun c5 => ?_) (fun c5 => ?_)
  · replace h := itn c5 h
    refine mG.lload_n 1 dX9_two_59 rfl ?_
    refine mG.lload_n 2 dX9_two_60 rfl ?_
    obtain ⟨b4, h⟩ := ckp h
    refine mG.ldiv dX9_two_61 (nzlp b4) ?_
    refine mG.callS0 (as := [.long (a2 / a3)]) (st := []) (S2 := S0) (r := some (.long (f_X9_clip S0 (a2 / a3)))) dX9_two_62 mbX9_clip wk35_12 wk35_11 rfl rfl (by decide) (Nat.le_of_ble_eq_true rfl) (c_X9_clip  rfl) ?_
    obtain rfl := Option.some.inj h
    exact mG.lret dX9_two_65 rfl ⟨rfl, rfl, rfl⟩
  · replace h := itp c5 h
    refine mG.lconst (v := 0) dX9_two_55 rfl ?_
    refine mG.goto 65 dX9_two_56 (by decide) ?_
    obtain rfl := Option.some.inj h
    exact mG.lret dX9_two_65 rfl ⟨rfl, rfl, rfl⟩
theorem dX9_isAsked_0 : decode cX9_isAsked 0 = .ok (.iload_n 0, 1) := by decide +kernel
theorem dX9_isAsked_1 : decode cX9_isAsked 1 = .ok (.bipush 10, 2) := by decide +kernel
theorem dX9_isAsked_3 : decode cX9_isAsked 3 = .ok (.if_icmp .ne 17, 3) := by decide +kernel
theorem dX9_isAsked_6 : decode cX9_isAsked 6 = .ok (.lload_n 1, 1) := by decide +kernel
theorem dX9_isAsked_7 : decode cX9_isAsked 7 = .ok (.lload_n 3, 1) := by decide +kernel
theorem dX9_isAsked_8 : decode cX9_isAsked 8 = .ok (.lcmp, 1) := by decide +kernel
theorem dX9_isAsked_9 : decode cX9_isAsked 9 = .ok (.ifCond .ge 7, 3) := by decide +kernel
theorem dX9_isAsked_12 : decode cX9_isAsked 12 = .ok (.iconst 1, 1) := by decide +kernel
theorem dX9_isAsked_13 : decode cX9_isAsked 13 = .ok (.goto 98, 3) := by decide +kernel
theorem dX9_isAsked_16 : decode cX9_isAsked 16 = .ok (.iconst 0, 1) := by decide +kernel
theorem dX9_isAsked_17 : decode cX9_isAsked 17 = .ok (.goto 94, 3) := by decide +kernel
theorem dX9_isAsked_20 : decode cX9_isAsked 20 = .ok (.iload_n 0, 1) := by decide +kernel
theorem dX9_isAsked_21 : decode cX9_isAsked 21 = .ok (.bipush 11, 2) := by decide +kernel
theorem dX9_isAsked_23 : decode cX9_isAsked 23 = .ok (.if_icmp .ne 17, 3) := by decide +kernel
theorem dX9_isAsked_26 : decode cX9_isAsked 26 = .ok (.lload_n 1, 1) := by decide +kernel
theorem dX9_isAsked_27 : decode cX9_isAsked 27 = .ok (.lload_n 3, 1) := by decide +kernel
theorem dX9_isAsked_28 : decode cX9_isAsked 28 = .ok (.lcmp, 1) := by decide +kernel
theorem dX9_isAsked_29 : decode cX9_isAsked 29 = .ok (.ifCond .gt 7, 3) := by decide +kernel
theorem dX9_isAsked_32 : decode cX9_isAsked 32 = .ok (.iconst 1, 1) := by decide +kernel
theorem dX9_isAsked_33 : decode cX9_isAsked 33 = .ok (.goto 78, 3) := by decide +kernel
theorem dX9_isAsked_36 : decode cX9_isAsked 36 = .ok (.iconst 0, 1) := by decide +kernel
theorem dX9_isAsked_37 : decode cX9_isAsked 37 = .ok (.goto 74, 3) := by decide +kernel
theorem dX9_isAsked_40 : decode cX9_isAsked 40 = .ok (.iload_n 0, 1) := by decide +kernel
theorem dX9_isAsked_41 : decode cX9_isAsked 41 = .ok (.bipush 12, 2) := by decide +kernel
theorem dX9_isAsked_43 : decode cX9_isAsked 43 = .ok (.if_icmp .ne 17, 3) := by decide +kernel
theorem dX9_isAsked_46 : decode cX9_isAsked 46 = .ok (.lload_n 1, 1) := by decide +kernel
theorem dX9_isAsked_47 : decode cX9_isAsked 47 = .ok (.lload_n 3, 1) := by decide +kernel
theorem dX9_isAsked_48 : decode cX9_isAsked 48 = .ok (.lcmp, 1) := by decide +kernel
theorem dX9_isAsked_49 : decode cX9_isAsked 49 = .ok (.ifCond .le 7, 3) := by decide +kernel
theorem dX9_isAsked_52 : decode cX9_isAsked 52 = .ok (.iconst 1, 1) := by decide +kernel
theorem dX9_isAsked_53 : decode cX9_isAsked 53 = .ok (.goto 58, 3) := by decide +kernel
theorem dX9_isAsked_56 : decode cX9_isAsked 56 = .ok (.iconst 0, 1) := by decide +kernel
theorem dX9_isAsked_57 : decode cX9_isAsked 57 = .ok (.goto 54, 3) := by decide +kernel
theorem dX9_isAsked_60 : decode cX9_isAsked 60 = .ok (.iload_n 0, 1) := by decide +kernel
theorem dX9_isAsked_61 : decode cX9_isAsked 61 = .ok (.bipush 13, 2) := by decide +kernel
theorem dX9_isAsked_63 : decode cX9_isAsked 63 = .ok (.if_icmp .ne 17, 3) := by decide +kernel
theorem dX9_isAsked_66 : decode cX9_isAsked 66 = .ok (.lload_n 1, 1) := by decide +kernel
theorem dX9_isAsked_67 : decode cX9_isAsked 67 = .ok (.lload_n 3, 1) := by decide +kernel
theorem dX9_isAsked_68 : decode cX9_isAsked 68 = .ok (.lcmp, 1) := by decide +kernel
theorem dX9_isAsked_69 : decode cX9_isAsked 69 = .ok (.ifCond .lt 7, 3) := by decide +kernel
theorem dX9_isAsked_72 : decode cX9_isAsked 72 = .ok (.iconst 1, 1) := by decide +kernel
theorem dX9_isAsked_73 : decode cX9_isAsked 73 = .ok (.goto 38, 3) := by decide +kernel
theorem dX9_isAsked_76 : decode cX9_isAsked 76 = .ok (.iconst 0, 1) := by decide +kernel
theorem dX9_isAsked_77 : decode cX9_isAsked 77 = .ok (.goto 34, 3) := by decide +kernel
theorem dX9_isAsked_80 : decode cX9_isAsked 80 = .ok (.iload_n 0, 1) := by decide +kernel
theorem dX9_isAsked_81 : decode cX9_isAsked 81 = .ok (.bipush 14, 2) := by decide +kernel
theorem dX9_isAsked_83 : decode cX9_isAsked 83 = .ok (.if_icmp .ne 17, 3) := by decide +kernel
theorem dX9_isAsked_86 : decode cX9_isAsked 86 = .ok (.lload_n 1, 1) := by decide +kernel
theorem dX9_isAsked_87 : decode cX9_isAsked 87 = .ok (.lload_n 3, 1) := by decide +kernel
theorem dX9_isAsked_88 : decode cX9_isAsked 88 = .ok (.lcmp, 1) := by decide +kernel
theorem dX9_isAsked_89 : decode cX9_isAsked 89 = .ok (.ifCond .ne 7, 3) := by decide +kernel
theorem dX9_isAsked_92 : decode cX9_isAsked 92 = .ok (.iconst 1, 1) := by decide +kernel
theorem dX9_isAsked_93 : decode cX9_isAsked 93 = .ok (.goto 18, 3) := by decide +kernel
theorem dX9_isAsked_96 : decode cX9_isAsked 96 = .ok (.iconst 0, 1) := by decide +kernel
theorem dX9_isAsked_97 : decode cX9_isAsked 97 = .ok (.goto 14, 3) := by decide +kernel
theorem dX9_isAsked_100 : decode cX9_isAsked 100 = .ok (.lload_n 1, 1) := by decide +kernel
theorem dX9_isAsked_101 : decode cX9_isAsked 101 = .ok (.lload_n 3, 1) := by decide +kernel
theorem dX9_isAsked_102 : decode cX9_isAsked 102 = .ok (.lcmp, 1) := by decide +kernel
theorem dX9_isAsked_103 : decode cX9_isAsked 103 = .ok (.ifCond .eq 7, 3) := by decide +kernel
theorem dX9_isAsked_106 : decode cX9_isAsked 106 = .ok (.iconst 1, 1) := by decide +kernel
theorem dX9_isAsked_107 : decode cX9_isAsked 107 = .ok (.goto 4, 3) := by decide +kernel
theorem dX9_isAsked_110 : decode cX9_isAsked 110 = .ok (.iconst 0, 1) := by decide +kernel
theorem dX9_isAsked_111 : decode cX9_isAsked 111 = .ok (.ireturn, 1) := by decide +kernel
def f_X9_isAsked (S0 : mS) (a1 : Int32) (a2 : Int64) (a3 : Int64) : Bool := if a1 = (10 : Int32) then (if a2 < a3 then (true) else (false)) else (if a1 = (11 : Int32) then (if a3 < a2 then (false) else (true)) else (if a1 = (12 : Int32) then (if a3 < a2 then (true) else (false)) else (if a1 = (13 : Int32) then (if a2 < a3 then (false) else (true)) else (if a1 = (14 : Int32) then (if a2 = a3 then (true) else (false)) else (if a2 = a3 then (false) else (true))))))
set_option maxHeartbeats 4000000 in
set_option maxRecDepth 100000 in
theorem c_X9_isAsked {S0 : mS} {a1 : Int32} {a2 : Int64} {a3 : Int64} {R : Bool}  (h : f_X9_isAsked S0 a1 a2 a3 = R) : mCt μX9_isAsked 1 0 0 E0 S0 [.int (a1), .long (a2), .long (a3)] (mQe S0 (some (.int (bI R)))) := by
  unfold f_X9_isAsked at h
  refine mCt.of (by decide) (Nat.le_of_ble_eq_true rfl) ?_
  intro x
  refine mG.iload_n 0 dX9_isAsked_0 rfl ?_
  refine mG.bipush (v := 10) dX9_isAsked_1 (by decide) ?_
  refine mG.icmp_ne 20 dX9_isAsked_3 (by decide) (fun c11 => ?_) (fun c11 => ?_)
  · replace h := itn c11 h
    refine mG.iload_n 0 dX9_isAsked_20 rfl ?_
    refine mG.bipush (v := 11) dX9_isAsked_21 (by decide) ?_
    refine mG.icmp_ne 40 dX9_isAsked_23 (by decide) (fun c9 => ?_) (fun c9 => ?_)
    · replace h := itn c9 h
      refine mG.iload_n 0 dX9_isAsked_40 rfl ?_
      refine mG.bipush (v := 12) dX9_isAsked_41 (by decide) ?_
      refine mG.icmp_ne 60 dX9_isAsked_43 (by decide) (fun c7 => ?_) (fun c7 => ?_)
      · replace h := itn c7 h
        refine mG.iload_n 0 dX9_isAsked_60 rfl ?_
        refine mG.bipush (v := 13) dX9_isAsked_61 (by decide) ?_
        refine mG.icmp_ne 80 dX9_isAsked_63 (by decide) (fun c5 => ?_) (fun c5 => ?_)
        · replace h := itn c5 h
          refine mG.iload_n 0 dX9_isAsked_80 rfl ?_
          refine mG.bipush (v := 14) dX9_isAsked_81 (by decide) ?_
          refine mG.icmp_ne 100 dX9_isAsked_83 (by decide) (fun c3 => ?_) (fun c3 => ?_)
          · replace h := itn c3 h
            refine mG.lload_n 1 dX9_isAsked_100 rfl ?_
            refine mG.lload_n 2 dX9_isAsked_101 rfl ?_
            refine mG.lcmp dX9_isAsked_102 ?_
            refine mG.ifl_eq 110 dX9_isAsked_103 (by decide) (fun c1 => ?_) (fun c1 => ?_)
            · replace h := itp c1 h
              refine mG.iconst (v := 0) dX9_isAsked_110 rfl ?_
              subst h
              exact mG.zret (b := false) dX9_isAsked_111 rfl rfl ⟨rfl, rfl, rfl⟩
            · replace h := itn c1 h
              refine mG.iconst (v := 1) dX9_isAsked_106 rfl ?_
              refine mG.goto 111 dX9_isAsked_107 (by decide) ?_
              subst h
              exact mG.zret (b := true) dX9_isAsked_111 rfl rfl ⟨rfl, rfl, rfl⟩
          · replace h := itp c3 h
            refine mG.lload_n 1 dX9_isAsked_86 rfl ?_
            refine mG.lload_n 2 dX9_isAsked_87 rfl ?_
            refine mG.lcmp dX9_isAsked_88 ?_
            refine mG.ifl_ne 96 dX9_isAsked_89 (by decide) (fun c2 => ?_) (fun c2 => ?_)
            · replace h := itn c2 h
              refine mG.iconst (v := 0) dX9_isAsked_96 rfl ?_
              refine mG.goto 111 dX9_isAsked_97 (by decide) ?_
              subst h
              exact mG.zret (b := false) dX9_isAsked_111 rfl rfl ⟨rfl, rfl, rfl⟩
            · replace h := itp c2 h
              refine mG.iconst (v := 1) dX9_isAsked_92 rfl ?_
              refine mG.goto 111 dX9_isAsked_93 (by decide) ?_
              subst h
              exact mG.zret (b := true) dX9_isAsked_111 rfl rfl ⟨rfl, rfl, rfl⟩
        · replace h := itp c5 h
          refine mG.lload_n 1 dX9_isAsked_66 rfl ?_
          refine mG.lload_n 2 dX9_isAsked_67 rfl ?_
          refine mG.lcmp dX9_isAsked_68 ?_
          refine mG.ifl_lt 76 dX9_isAsked_69 (by decide) (fun c4 => ?_) (fun c4 => ?_)
          · replace h := itp c4 h
            refine mG.iconst (v := 0) dX9_isAsked_76 rfl ?_
            refine mG.goto 111 dX9_isAsked_77 (by decide) ?_
            subst h
            exact mG.zret (b := false) dX9_isAsked_111 rfl rfl ⟨rfl, rfl, rfl⟩
          · replace h := itn c4 h
            refine mG.iconst (v := 1) dX9_isAsked_72 rfl ?_
            refine mG.goto 111 dX9_isAsked_73 (by decide) ?_
            subst h
            exact mG.zret (b := true) dX9_isAsked_111 rfl rfl ⟨rfl, rfl, rfl⟩
      · replace h := itp c7 h
        refine mG.lload_n 1 dX9_isAsked_46 rfl ?_
        refine mG.lload_n 2 dX9_isAsked_47 rfl ?_
        refine mG.lcmp dX9_isAsked_48 ?_
        refine mG.ifl_le 56 dX9_isAsked_49 (by decide) (fun c6 => ?_) (fun c6 => ?_)
        · replace h := itn c6 h
          refine mG.iconst (v := 0) dX9_isAsked_56 rfl ?_
          refine mG.goto 111 dX9_isAsked_57 (by decide) ?_
          subst h
          exact mG.zret (b := false) dX9_isAsked_111 rfl rfl ⟨rfl, rfl, rfl⟩
        · replace h := itp c6 h
          refine mG.iconst (v := 1) dX9_isAsked_52 rfl ?_
          refine mG.goto 111 dX9_isAsked_53 (by decide) ?_
          subst h
          exact mG.zret (b := true) dX9_isAsked_111 rfl rfl ⟨rfl, rfl, rfl⟩
    · replace h := itp c9 h
      refine mG.lload_n 1 dX9_isAsked_26 rfl ?_
      refine mG.lload_n 2 dX9_isAsked_27 rfl ?_
      refine mG.lcmp dX9_isAsked_28 ?_
      refine mG.ifl_gt 36 dX9_isAsked_29 (by decide) (fun c8 => ?_) (fun c8 => ?_)
      · replace h := itp c8 h
        refine mG.iconst (v := 0) dX9_isAsked_36 rfl ?_
        refine mG.goto 111 dX9_isAsked_37 (by decide) ?_
        subst h
        exact mG.zret (b := false) dX9_isAsked_111 rfl rfl ⟨rfl, rfl, rfl⟩
      · replace h := itn c8 h
        refine mG.iconst (v := 1) dX9_isAsked_32 rfl ?_
        refine mG.goto 111 dX9_isAsked_33 (by decide) ?_
        subst h
        exact mG.zret (b := true) dX9_isAsked_111 rfl rfl ⟨rfl, rfl, rfl⟩
  · replace h := itp c11 h
    refine mG.lload_n 1 dX9_isAsked_6 rfl ?_
    refine mG.lload_n 2 dX9_isAsked_7 rfl ?_
    refine mG.lcmp dX9_isAsked_8 ?_
    refine mG.ifl_ge 16 dX9_isAsked_9 (by decide) (fun c10 => ?_) (fun c10 => ?_)
    · replace h := itn c10 h
      refine mG.iconst (v := 0) dX9_isAsked_16 rfl ?_
      refine mG.goto 111 dX9_isAsked_17 (by decide) ?_
      subst h
      exact mG.zret (b := false) dX9_isAsked_111 rfl rfl ⟨rfl, rfl, rfl⟩
    · replace h := itp c10 h
      refine mG.iconst (v := 1) dX9_isAsked_12 rfl ?_
      refine mG.goto 111 dX9_isAsked_13 (by decide) ?_
      subst h
      exact mG.zret (b := true) dX9_isAsked_111 rfl rfl ⟨rfl, rfl, rfl⟩
theorem dX9_digit_0 : decode cX9_digit 0 = .ok (.lload_n 2, 1) := by decide +kernel
theorem dX9_digit_1 : decode cX9_digit 1 = .ok (.lconst 0, 1) := by decide +kernel
theorem dX9_digit_2 : decode cX9_digit 2 = .ok (.lcmp, 1) := by decide +kernel
theorem dX9_digit_3 : decode cX9_digit 3 = .ok (.ifCond .ge 8, 3) := by decide +kernel
theorem dX9_digit_6 : decode cX9_digit 6 = .ok (.lload_n 2, 1) := by decide +kernel
theorem dX9_digit_7 : decode cX9_digit 7 = .ok (.lneg, 1) := by decide +kernel
theorem dX9_digit_8 : decode cX9_digit 8 = .ok (.goto 4, 3) := by decide +kernel
theorem dX9_digit_11 : decode cX9_digit 11 = .ok (.lload_n 2, 1) := by decide +kernel
theorem dX9_digit_12 : decode cX9_digit 12 = .ok (.lstore 4, 2) := by decide +kernel
theorem dX9_digit_14 : decode cX9_digit 14 = .ok (.lconst 0, 1) := by decide +kernel
theorem dX9_digit_15 : decode cX9_digit 15 = .ok (.lstore 6, 2) := by decide +kernel
theorem dX9_digit_17 : decode cX9_digit 17 = .ok (.lload 6, 2) := by decide +kernel
theorem dX9_digit_19 : decode cX9_digit 19 = .ok (.lload_n 0, 1) := by decide +kernel
theorem dX9_digit_20 : decode cX9_digit 20 = .ok (.lcmp, 1) := by decide +kernel
theorem dX9_digit_21 : decode cX9_digit 21 = .ok (.ifCond .ge 29, 3) := by decide +kernel
theorem dX9_digit_24 : decode cX9_digit 24 = .ok (.lload 6, 2) := by decide +kernel
theorem dX9_digit_26 : decode cX9_digit 26 = .ok (.ldc2_w 270, 3) := by decide +kernel
theorem dX9_digit_29 : decode cX9_digit 29 = .ok (.lcmp, 1) := by decide +kernel
theorem dX9_digit_30 : decode cX9_digit 30 = .ok (.ifCond .ge 20, 3) := by decide +kernel
theorem dX9_digit_33 : decode cX9_digit 33 = .ok (.lload 4, 2) := by decide +kernel
theorem dX9_digit_35 : decode cX9_digit 35 = .ok (.ldc2_w 270, 3) := by decide +kernel
theorem dX9_digit_38 : decode cX9_digit 38 = .ok (.ldiv, 1) := by decide +kernel
theorem dX9_digit_39 : decode cX9_digit 39 = .ok (.lstore 4, 2) := by decide +kernel
theorem dX9_digit_41 : decode cX9_digit 41 = .ok (.lload 6, 2) := by decide +kernel
theorem dX9_digit_43 : decode cX9_digit 43 = .ok (.lconst 1, 1) := by decide +kernel
theorem dX9_digit_44 : decode cX9_digit 44 = .ok (.ladd, 1) := by decide +kernel
theorem dX9_digit_45 : decode cX9_digit 45 = .ok (.lstore 6, 2) := by decide +kernel
theorem dX9_digit_47 : decode cX9_digit 47 = .ok (.goto (-30), 3) := by decide +kernel
theorem dX9_digit_50 : decode cX9_digit 50 = .ok (.lload_n 0, 1) := by decide +kernel
theorem dX9_digit_51 : decode cX9_digit 51 = .ok (.lconst 0, 1) := by decide +kernel
theorem dX9_digit_52 : decode cX9_digit 52 = .ok (.lcmp, 1) := by decide +kernel
theorem dX9_digit_53 : decode cX9_digit 53 = .ok (.ifCond .lt 11, 3) := by decide +kernel
theorem dX9_digit_56 : decode cX9_digit 56 = .ok (.lload_n 0, 1) := by decide +kernel
theorem dX9_digit_57 : decode cX9_digit 57 = .ok (.ldc2_w 272, 3) := by decide +kernel
theorem dX9_digit_60 : decode cX9_digit 60 = .ok (.lcmp, 1) := by decide +kernel
theorem dX9_digit_61 : decode cX9_digit 61 = .ok (.ifCond .le 7, 3) := by decide +kernel
theorem dX9_digit_64 : decode cX9_digit 64 = .ok (.lconst 0, 1) := by decide +kernel
theorem dX9_digit_65 : decode cX9_digit 65 = .ok (.goto 9, 3) := by decide +kernel
theorem dX9_digit_68 : decode cX9_digit 68 = .ok (.lload 4, 2) := by decide +kernel
theorem dX9_digit_70 : decode cX9_digit 70 = .ok (.ldc2_w 270, 3) := by decide +kernel
theorem dX9_digit_73 : decode cX9_digit 73 = .ok (.lrem, 1) := by decide +kernel
theorem dX9_digit_74 : decode cX9_digit 74 = .ok (.lreturn, 1) := by decide +kernel
def lX9_digit_17 (F : Nat) (K50 : Int64 → Option Int64) (a1 : Int64) (a2 : Int64) : Nat → mS → Int64 → Int64 → Option Int64
  | 0, _, _, _ => none
  | n + 1, S0, v4, v6 => if v6 < a1 then (if v6 < (10 : Int64) then (lX9_digit_17 F K50 a1 a2 n S0 (v4 / (10 : Int64)) (v6 + (1 : Int64))) else (K50 v4)) else (K50 v4)
set_option maxHeartbeats 4000000 in
set_option maxRecDepth 100000 in
theorem gX9_digit_17 {x : mX} {F : Nat} {a1 : Int64} {a2 : Int64} {S0 : mS}  {K50 : Int64 → Option Int64} {R : Int64}  (hK50 : ∀ (v4 : Int64) , K50 v4 = some R → mG x μX9_digit 1 0 0 (mQe S0 (some (.long R))) 0 0 E0 S0 50 [(0, .long (a1)), (4, .long (v4))] []) : ∀ (n : Nat) (v4 : Int64) (v6 : Int64), lX9_digit_17 F K50 a1 a2 n S0 v4 v6 = some R → mG x μX9_digit 1 0 0 (mQe S0 (some (.long R))) 0 0 E0 S0 17 [(0, .long (a1)), (4, .long (v4)), (6, .long (v6))] [] := by
  intro n
  induction n with
  | zero =>
    intro v4 v6 h
    cases h
  | succ n ih =>
    intro v4 v6 h
    unfold lX9_digit_17 at h
    refine mG.lload 2 dX9_digit_17 rfl ?_
    refine mG.lload_n 0 dX9_digit_19 rfl ?_
    refine mG.lcmp dX9_digit_20 ?_
    refine mG.ifl_ge 50 dX9_digit_21 (by decide) (fun c2 => ?_) (fun c2 => ?_)
    · replace h := itn c2 h
      refine mG.sub (lv2 := [(0, .long (a1)), (4, .long (v4))]) [0, 1] rfl ?_
      exact hK50  v4  h
    · replace h := itp c2 h
      refine mG.lload 2 dX9_digit_24 rfl ?_
      refine mG.ldc2 (v := 10) dX9_digit_26 wk35_6 ?_
      refine mG.lcmp dX9_digit_29 ?_
      refine mG.ifl_ge 50 dX9_digit_30 (by decide) (fun c1 => ?_) (fun c1 => ?_)
      · replace h := itn c1 h
        refine mG.sub (lv2 := [(0, .long (a1)), (4, .long (v4))]) [0, 1] rfl ?_
        exact hK50  v4  h
      · replace h := itp c1 h
        refine mG.lload 1 dX9_digit_33 rfl ?_
        refine mG.ldc2 (v := 10) dX9_digit_35 wk35_6 ?_
        refine mG.ldiv dX9_digit_38 (by decide) ?_
        refine mG.lstore (lv2 := [(4, .long (v4 / (10 : Int64))), (0, .long (a1)), (6, .long (v6))]) dX9_digit_39 (by decide) rfl ?_
        refine mG.lload 2 dX9_digit_41 rfl ?_
        refine mG.lconst (v := 1) dX9_digit_43 rfl ?_
        refine mG.ladd dX9_digit_44 ?_
        refine mG.lstore (lv2 := [(6, .long (v6 + (1 : Int64))), (4, .long (v4 / (10 : Int64))), (0, .long (a1))]) dX9_digit_45 (by decide) rfl ?_
        refine mG.goto 17 dX9_digit_47 (by decide) ?_
        refine mG.sub (lv2 := [(0, .long (a1)), (4, .long (v4 / (10 : Int64))), (6, .long (v6 + (1 : Int64)))]) [2, 1, 0] rfl ?_
        exact ih  (v4 / (10 : Int64)) (v6 + (1 : Int64))  h
def lX9_digit_50 (F : Nat)  (a1 : Int64) (a2 : Int64) (S0 : mS) (v4 : Int64) : Option Int64 := if a1 < (0 : Int64) then (some (0 : Int64)) else (if (9 : Int64) < a1 then (some (0 : Int64)) else (some (v4 - v4 / (10 : Int64) * (10 : Int64))))
set_option maxHeartbeats 4000000 in
set_option maxRecDepth 100000 in
theorem gX9_digit_50 {x : mX} {F : Nat} {a1 : Int64} {a2 : Int64} {S0 : mS}  {R : Int64}   (v4 : Int64)  (h : lX9_digit_50 F  a1 a2 S0 v4 = some R) : mG x μX9_digit 1 0 0 (mQe S0 (some (.long R))) 0 0 E0 S0 50 [(0, .long (a1)), (4, .long (v4))] [] := by
  unfold lX9_digit_50 at h
  refine mG.lload_n 0 dX9_digit_50 rfl ?_
  refine mG.lconst (v := 0) dX9_digit_51 rfl ?_
  refine mG.lcmp dX9_digit_52 ?_
  refine mG.ifl_lt 64 dX9_digit_53 (by decide) (fun c2 => ?_) (fun c2 => ?_)
  · replace h := itp c2 h
    refine mG.lconst (v := 0) dX9_digit_64 rfl ?_
    refine mG.goto 74 dX9_digit_65 (by decide) ?_
    obtain rfl := Option.some.inj h
    exact mG.lret dX9_digit_74 rfl ⟨rfl, rfl, rfl⟩
  · replace h := itn c2 h
    refine mG.lload_n 0 dX9_digit_56 rfl ?_
    refine mG.ldc2 (v := 9) dX9_digit_57 wk35_7 ?_
    refine mG.lcmp dX9_digit_60 ?_
    refine mG.ifl_le 68 dX9_digit_61 (by decide) (fun c1 => ?_) (fun c1 => ?_)
    · replace h := itn c1 h
      refine mG.lload 1 dX9_digit_68 rfl ?_
      refine mG.ldc2 (v := 10) dX9_digit_70 wk35_6 ?_
      refine mG.lrem dX9_digit_73 (by decide) ?_
      obtain rfl := Option.some.inj h
      exact mG.lret dX9_digit_74 rfl ⟨rfl, rfl, rfl⟩
    · replace h := itp c1 h
      refine mG.lconst (v := 0) dX9_digit_64 rfl ?_
      refine mG.goto 74 dX9_digit_65 (by decide) ?_
      obtain rfl := Option.some.inj h
      exact mG.lret dX9_digit_74 rfl ⟨rfl, rfl, rfl⟩
def f_X9_digit (F : Nat) (S0 : mS) (a1 : Int64) (a2 : Int64) : Option Int64 := if a2 < (0 : Int64) then (lX9_digit_17 F (fun (v4 : Int64) => lX9_digit_50 F  a1 a2 S0 v4) a1 a2 F S0 (-a2) (0 : Int64)) else (lX9_digit_17 F (fun (v4 : Int64) => lX9_digit_50 F  a1 a2 S0 v4) a1 a2 F S0 a2 (0 : Int64))
set_option maxHeartbeats 4000000 in
set_option maxRecDepth 100000 in
theorem c_X9_digit {F : Nat} {S0 : mS} {a1 : Int64} {a2 : Int64} {R : Int64}  (h : f_X9_digit F S0 a1 a2 = some R) : mCt μX9_digit 1 0 0 E0 S0 [.long (a1), .long (a2)] (mQe S0 (some (.long R))) := by
  unfold f_X9_digit at h
  refine mCt.of (by decide) (Nat.le_of_ble_eq_true rfl) ?_
  intro x
  refine mG.lload_n 1 dX9_digit_0 rfl ?_
  refine mG.lconst (v := 0) dX9_digit_1 rfl ?_
  refine mG.lcmp dX9_digit_2 ?_
  refine mG.ifl_ge 11 dX9_digit_3 (by decide) (fun c1 => ?_) (fun c1 => ?_)
  · replace h := itn c1 h
    refine mG.lload_n 1 dX9_digit_11 rfl ?_
    refine mG.lstore (lv2 := [(4, .long (a2)), (0, .long (a1)), (2, .long (a2))]) dX9_digit_12 (by decide) rfl ?_
    refine mG.lconst (v := 0) dX9_digit_14 rfl ?_
    refine mG.lstore (lv2 := [(6, .long ((0 : Int64))), (4, .long (a2)), (0, .long (a1)), (2, .long (a2))]) dX9_digit_15 (by decide) rfl ?_
    refine mG.sub (lv2 := [(0, .long (a1)), (4, .long (a2)), (6, .long ((0 : Int64)))]) [2, 1, 0] rfl ?_
    exact gX9_digit_17  (fun v4 h => by exact gX9_digit_50     v4  h) F  a2 (0 : Int64)  h
  · replace h := itp c1 h
    refine mG.lload_n 1 dX9_digit_6 rfl ?_
    refine mG.lneg dX9_digit_7 ?_
    refine mG.goto 12 dX9_digit_8 (by decide) ?_
    refine mG.lstore (lv2 := [(4, .long (-a2)), (0, .long (a1)), (2, .long (a2))]) dX9_digit_12 (by decide) rfl ?_
    refine mG.lconst (v := 0) dX9_digit_14 rfl ?_
    refine mG.lstore (lv2 := [(6, .long ((0 : Int64))), (4, .long (-a2)), (0, .long (a1)), (2, .long (a2))]) dX9_digit_15 (by decide) rfl ?_
    refine mG.sub (lv2 := [(0, .long (a1)), (4, .long (-a2)), (6, .long ((0 : Int64)))]) [2, 1, 0] rfl ?_
    exact gX9_digit_17  (fun v4 h => by exact gX9_digit_50     v4  h) F  (-a2) (0 : Int64)  h
theorem dX9_isDividing_0 : decode cX9_isDividing 0 = .ok (.lload_n 0, 1) := by decide +kernel
theorem dX9_isDividing_1 : decode cX9_isDividing 1 = .ok (.lconst 0, 1) := by decide +kernel
theorem dX9_isDividing_2 : decode cX9_isDividing 2 = .ok (.lcmp, 1) := by decide +kernel
theorem dX9_isDividing_3 : decode cX9_isDividing 3 = .ok (.ifCond .ne 17, 3) := by decide +kernel
theorem dX9_isDividing_6 : decode cX9_isDividing 6 = .ok (.lload_n 2, 1) := by decide +kernel
theorem dX9_isDividing_7 : decode cX9_isDividing 7 = .ok (.lconst 0, 1) := by decide +kernel
theorem dX9_isDividing_8 : decode cX9_isDividing 8 = .ok (.lcmp, 1) := by decide +kernel
theorem dX9_isDividing_9 : decode cX9_isDividing 9 = .ok (.ifCond .ne 7, 3) := by decide +kernel
theorem dX9_isDividing_12 : decode cX9_isDividing 12 = .ok (.iconst 1, 1) := by decide +kernel
theorem dX9_isDividing_13 : decode cX9_isDividing 13 = .ok (.goto 20, 3) := by decide +kernel
theorem dX9_isDividing_16 : decode cX9_isDividing 16 = .ok (.iconst 0, 1) := by decide +kernel
theorem dX9_isDividing_17 : decode cX9_isDividing 17 = .ok (.goto 16, 3) := by decide +kernel
theorem dX9_isDividing_20 : decode cX9_isDividing 20 = .ok (.lload_n 2, 1) := by decide +kernel
theorem dX9_isDividing_21 : decode cX9_isDividing 21 = .ok (.lload_n 0, 1) := by decide +kernel
theorem dX9_isDividing_22 : decode cX9_isDividing 22 = .ok (.lrem, 1) := by decide +kernel
theorem dX9_isDividing_23 : decode cX9_isDividing 23 = .ok (.lconst 0, 1) := by decide +kernel
theorem dX9_isDividing_24 : decode cX9_isDividing 24 = .ok (.lcmp, 1) := by decide +kernel
theorem dX9_isDividing_25 : decode cX9_isDividing 25 = .ok (.ifCond .ne 7, 3) := by decide +kernel
theorem dX9_isDividing_28 : decode cX9_isDividing 28 = .ok (.iconst 1, 1) := by decide +kernel
theorem dX9_isDividing_29 : decode cX9_isDividing 29 = .ok (.goto 4, 3) := by decide +kernel
theorem dX9_isDividing_32 : decode cX9_isDividing 32 = .ok (.iconst 0, 1) := by decide +kernel
theorem dX9_isDividing_33 : decode cX9_isDividing 33 = .ok (.ireturn, 1) := by decide +kernel
def f_X9_isDividing (F : Nat) (S0 : mS) (a1 : Int64) (a2 : Int64) : Option Bool := if a1 = (0 : Int64) then (if a2 = (0 : Int64) then (some true) else (some false)) else (ck (nzl a1) (if (a2 - a2 / a1 * a1) = (0 : Int64) then (some true) else (some false)))
set_option maxHeartbeats 4000000 in
set_option maxRecDepth 100000 in
theorem c_X9_isDividing {F : Nat} {S0 : mS} {a1 : Int64} {a2 : Int64} {R : Bool}  (h : f_X9_isDividing F S0 a1 a2 = some R) : mCt μX9_isDividing 1 0 0 E0 S0 [.long (a1), .long (a2)] (mQe S0 (some (.int (bI R)))) := by
  unfold f_X9_isDividing at h
  refine mCt.of (by decide) (Nat.le_of_ble_eq_true rfl) ?_
  intro x
  refine mG.lload_n 0 dX9_isDividing_0 rfl ?_
  refine mG.lconst (v := 0) dX9_isDividing_1 rfl ?_
  refine mG.lcmp dX9_isDividing_2 ?_
  refine mG.ifl_ne 20 dX9_isDividing_3 (by decide) (fun c4 => ?_) (fun c4 => ?_)
  · replace h := itn c4 h
    refine mG.lload_n 1 dX9_isDividing_20 rfl ?_
    refine mG.lload_n 0 dX9_isDividing_21 rfl ?_
    obtain ⟨b2, h⟩ := ckp h
    refine mG.lrem dX9_isDividing_22 (nzlp b2) ?_
    refine mG.lconst (v := 0) dX9_isDividing_23 rfl ?_
    refine mG.lcmp dX9_isDividing_24 ?_
    refine mG.ifl_ne 32 dX9_isDividing_25 (by decide) (fun c1 => ?_) (fun c1 => ?_)
    · replace h := itn c1 h
      refine mG.iconst (v := 0) dX9_isDividing_32 rfl ?_
      obtain rfl := Option.some.inj h
      exact mG.zret (b := false) dX9_isDividing_33 rfl rfl ⟨rfl, rfl, rfl⟩
    · replace h := itp c1 h
      refine mG.iconst (v := 1) dX9_isDividing_28 rfl ?_
      refine mG.goto 33 dX9_isDividing_29 (by decide) ?_
      obtain rfl := Option.some.inj h
      exact mG.zret (b := true) dX9_isDividing_33 rfl rfl ⟨rfl, rfl, rfl⟩
  · replace h := itp c4 h
    refine mG.lload_n 1 dX9_isDividing_6 rfl ?_
    refine mG.lconst (v := 0) dX9_isDividing_7 rfl ?_
    refine mG.lcmp dX9_isDividing_8 ?_
    refine mG.ifl_ne 16 dX9_isDividing_9 (by decide) (fun c3 => ?_) (fun c3 => ?_)
    · replace h := itn c3 h
      refine mG.iconst (v := 0) dX9_isDividing_16 rfl ?_
      refine mG.goto 33 dX9_isDividing_17 (by decide) ?_
      obtain rfl := Option.some.inj h
      exact mG.zret (b := false) dX9_isDividing_33 rfl rfl ⟨rfl, rfl, rfl⟩
    · replace h := itp c3 h
      refine mG.iconst (v := 1) dX9_isDividing_12 rfl ?_
      refine mG.goto 33 dX9_isDividing_13 (by decide) ?_
      obtain rfl := Option.some.inj h
      exact mG.zret (b := true) dX9_isDividing_33 rfl rfl ⟨rfl, rfl, rfl⟩
theorem dX9_joined_0 : decode cX9_joined 0 = .ok (.iload_n 0, 1) := by decide +kernel
theorem dX9_joined_1 : decode cX9_joined 1 = .ok (.bipush 21, 2) := by decide +kernel
theorem dX9_joined_3 : decode cX9_joined 3 = .ok (.if_icmp .ne 19, 3) := by decide +kernel
theorem dX9_joined_6 : decode cX9_joined 6 = .ok (.iload_n 1, 1) := by decide +kernel
theorem dX9_joined_7 : decode cX9_joined 7 = .ok (.ifCond .eq 11, 3) := by decide +kernel
theorem dX9_joined_10 : decode cX9_joined 10 = .ok (.iload_n 2, 1) := by decide +kernel
theorem dX9_joined_11 : decode cX9_joined 11 = .ok (.ifCond .eq 7, 3) := by decide +kernel
theorem dX9_joined_14 : decode cX9_joined 14 = .ok (.iconst 1, 1) := by decide +kernel
theorem dX9_joined_15 : decode cX9_joined 15 = .ok (.goto 20, 3) := by decide +kernel
theorem dX9_joined_18 : decode cX9_joined 18 = .ok (.iconst 0, 1) := by decide +kernel
theorem dX9_joined_19 : decode cX9_joined 19 = .ok (.goto 16, 3) := by decide +kernel
theorem dX9_joined_22 : decode cX9_joined 22 = .ok (.iload_n 1, 1) := by decide +kernel
theorem dX9_joined_23 : decode cX9_joined 23 = .ok (.ifCond .ne 7, 3) := by decide +kernel
theorem dX9_joined_26 : decode cX9_joined 26 = .ok (.iload_n 2, 1) := by decide +kernel
theorem dX9_joined_27 : decode cX9_joined 27 = .ok (.ifCond .eq 7, 3) := by decide +kernel
theorem dX9_joined_30 : decode cX9_joined 30 = .ok (.iconst 1, 1) := by decide +kernel
theorem dX9_joined_31 : decode cX9_joined 31 = .ok (.goto 4, 3) := by decide +kernel
theorem dX9_joined_34 : decode cX9_joined 34 = .ok (.iconst 0, 1) := by decide +kernel
theorem dX9_joined_35 : decode cX9_joined 35 = .ok (.ireturn, 1) := by decide +kernel
def f_X9_joined (S0 : mS) (a1 : Int32) (a2 : Int32) (a3 : Int32) : Bool := if a1 = (21 : Int32) then (if a2 = 0 then (false) else (if a3 = 0 then (false) else (true))) else (if a2 = 0 then (if a3 = 0 then (false) else (true)) else (true))
set_option maxHeartbeats 4000000 in
set_option maxRecDepth 100000 in
theorem c_X9_joined {S0 : mS} {a1 : Int32} {a2 : Int32} {a3 : Int32} {R : Bool}  (h : f_X9_joined S0 a1 a2 a3 = R) : mCt μX9_joined 1 0 0 E0 S0 [.int (a1), .int (a2), .int (a3)] (mQe S0 (some (.int (bI R)))) := by
  unfold f_X9_joined at h
  refine mCt.of (by decide) (Nat.le_of_ble_eq_true rfl) ?_
  intro x
  refine mG.iload_n 0 dX9_joined_0 rfl ?_
  refine mG.bipush (v := 21) dX9_joined_1 (by decide) ?_
  refine mG.icmp_ne 22 dX9_joined_3 (by decide) (fun c5 => ?_) (fun c5 => ?_)
  · replace h := itn c5 h
    refine mG.iload_n 1 dX9_joined_22 rfl ?_
    refine mG.if_ne 30 dX9_joined_23 (by decide) (fun c2 => ?_) (fun c2 => ?_)
    · replace h := itn c2 h
      refine mG.iconst (v := 1) dX9_joined_30 rfl ?_
      refine mG.goto 35 dX9_joined_31 (by decide) ?_
      subst h
      exact mG.zret (b := true) dX9_joined_35 rfl rfl ⟨rfl, rfl, rfl⟩
    · replace h := itp c2 h
      refine mG.iload_n 2 dX9_joined_26 rfl ?_
      refine mG.if_eq 34 dX9_joined_27 (by decide) (fun c1 => ?_) (fun c1 => ?_)
      · replace h := itp c1 h
        refine mG.iconst (v := 0) dX9_joined_34 rfl ?_
        subst h
        exact mG.zret (b := false) dX9_joined_35 rfl rfl ⟨rfl, rfl, rfl⟩
      · replace h := itn c1 h
        refine mG.iconst (v := 1) dX9_joined_30 rfl ?_
        refine mG.goto 35 dX9_joined_31 (by decide) ?_
        subst h
        exact mG.zret (b := true) dX9_joined_35 rfl rfl ⟨rfl, rfl, rfl⟩
  · replace h := itp c5 h
    refine mG.iload_n 1 dX9_joined_6 rfl ?_
    refine mG.if_eq 18 dX9_joined_7 (by decide) (fun c4 => ?_) (fun c4 => ?_)
    · replace h := itp c4 h
      refine mG.iconst (v := 0) dX9_joined_18 rfl ?_
      refine mG.goto 35 dX9_joined_19 (by decide) ?_
      subst h
      exact mG.zret (b := false) dX9_joined_35 rfl rfl ⟨rfl, rfl, rfl⟩
    · replace h := itn c4 h
      refine mG.iload_n 2 dX9_joined_10 rfl ?_
      refine mG.if_eq 18 dX9_joined_11 (by decide) (fun c3 => ?_) (fun c3 => ?_)
      · replace h := itp c3 h
        refine mG.iconst (v := 0) dX9_joined_18 rfl ?_
        refine mG.goto 35 dX9_joined_19 (by decide) ?_
        subst h
        exact mG.zret (b := false) dX9_joined_35 rfl rfl ⟨rfl, rfl, rfl⟩
      · replace h := itn c3 h
        refine mG.iconst (v := 1) dX9_joined_14 rfl ?_
        refine mG.goto 35 dX9_joined_15 (by decide) ?_
        subst h
        exact mG.zret (b := true) dX9_joined_35 rfl rfl ⟨rfl, rfl, rfl⟩
theorem dX9_work_0 : decode cX9_work 0 = .ok (.sipush 705, 3) := by decide +kernel
theorem dX9_work_3 : decode cX9_work 3 = .ok (.aload_n 0, 1) := by decide +kernel
theorem dX9_work_4 : decode cX9_work 4 = .ok (.getfield 7, 3) := by decide +kernel
theorem dX9_work_7 : decode cX9_work 7 = .ok (.iconst 2, 1) := by decide +kernel
theorem dX9_work_8 : decode cX9_work 8 = .ok (.iaload, 1) := by decide +kernel
theorem dX9_work_9 : decode cX9_work 9 = .ok (.imul, 1) := by decide +kernel
theorem dX9_work_10 : decode cX9_work 10 = .ok (.iconst 1, 1) := by decide +kernel
theorem dX9_work_11 : decode cX9_work 11 = .ok (.iadd, 1) := by decide +kernel
theorem dX9_work_12 : decode cX9_work 12 = .ok (.iconst 4, 1) := by decide +kernel
theorem dX9_work_13 : decode cX9_work 13 = .ok (.iload_n 1, 1) := by decide +kernel
theorem dX9_work_14 : decode cX9_work 14 = .ok (.imul, 1) := by decide +kernel
theorem dX9_work_15 : decode cX9_work 15 = .ok (.iadd, 1) := by decide +kernel
theorem dX9_work_16 : decode cX9_work 16 = .ok (.istore_n 2, 1) := by decide +kernel
theorem dX9_work_17 : decode cX9_work 17 = .ok (.sipush 705, 3) := by decide +kernel
theorem dX9_work_20 : decode cX9_work 20 = .ok (.aload_n 0, 1) := by decide +kernel
theorem dX9_work_21 : decode cX9_work 21 = .ok (.getfield 7, 3) := by decide +kernel
theorem dX9_work_24 : decode cX9_work 24 = .ok (.iconst 2, 1) := by decide +kernel
theorem dX9_work_25 : decode cX9_work 25 = .ok (.iaload, 1) := by decide +kernel
theorem dX9_work_26 : decode cX9_work 26 = .ok (.imul, 1) := by decide +kernel
theorem dX9_work_27 : decode cX9_work 27 = .ok (.bipush 97, 2) := by decide +kernel
theorem dX9_work_29 : decode cX9_work 29 = .ok (.iadd, 1) := by decide +kernel
theorem dX9_work_30 : decode cX9_work 30 = .ok (.istore_n 3, 1) := by decide +kernel
theorem dX9_work_31 : decode cX9_work 31 = .ok (.iconst 0, 1) := by decide +kernel
theorem dX9_work_32 : decode cX9_work 32 = .ok (.istore 4, 2) := by decide +kernel
theorem dX9_work_34 : decode cX9_work 34 = .ok (.iconst 0, 1) := by decide +kernel
theorem dX9_work_35 : decode cX9_work 35 = .ok (.istore 5, 2) := by decide +kernel
theorem dX9_work_37 : decode cX9_work 37 = .ok (.aload_n 0, 1) := by decide +kernel
theorem dX9_work_38 : decode cX9_work 38 = .ok (.getfield 16, 3) := by decide +kernel
theorem dX9_work_41 : decode cX9_work 41 = .ok (.iload_n 2, 1) := by decide +kernel
theorem dX9_work_42 : decode cX9_work 42 = .ok (.iconst 1, 1) := by decide +kernel
theorem dX9_work_43 : decode cX9_work 43 = .ok (.iadd, 1) := by decide +kernel
theorem dX9_work_44 : decode cX9_work 44 = .ok (.iaload, 1) := by decide +kernel
theorem dX9_work_45 : decode cX9_work 45 = .ok (.istore 6, 2) := by decide +kernel
theorem dX9_work_47 : decode cX9_work 47 = .ok (.iload 6, 2) := by decide +kernel
theorem dX9_work_49 : decode cX9_work 49 = .ok (.aload_n 0, 1) := by decide +kernel
theorem dX9_work_50 : decode cX9_work 50 = .ok (.getfield 16, 3) := by decide +kernel
theorem dX9_work_53 : decode cX9_work 53 = .ok (.iload_n 2, 1) := by decide +kernel
theorem dX9_work_54 : decode cX9_work 54 = .ok (.iconst 2, 1) := by decide +kernel
theorem dX9_work_55 : decode cX9_work 55 = .ok (.iadd, 1) := by decide +kernel
theorem dX9_work_56 : decode cX9_work 56 = .ok (.iaload, 1) := by decide +kernel
theorem dX9_work_57 : decode cX9_work 57 = .ok (.if_icmp .ge 317, 3) := by decide +kernel
theorem dX9_work_60 : decode cX9_work 60 = .ok (.aload_n 0, 1) := by decide +kernel
theorem dX9_work_61 : decode cX9_work 61 = .ok (.getfield 16, 3) := by decide +kernel
theorem dX9_work_64 : decode cX9_work 64 = .ok (.iload_n 3, 1) := by decide +kernel
theorem dX9_work_65 : decode cX9_work 65 = .ok (.iconst 2, 1) := by decide +kernel
theorem dX9_work_66 : decode cX9_work 66 = .ok (.iload 6, 2) := by decide +kernel
theorem dX9_work_68 : decode cX9_work 68 = .ok (.imul, 1) := by decide +kernel
theorem dX9_work_69 : decode cX9_work 69 = .ok (.iadd, 1) := by decide +kernel
theorem dX9_work_70 : decode cX9_work 70 = .ok (.iaload, 1) := by decide +kernel
theorem dX9_work_71 : decode cX9_work 71 = .ok (.istore 7, 2) := by decide +kernel
theorem dX9_work_73 : decode cX9_work 73 = .ok (.aload_n 0, 1) := by decide +kernel
theorem dX9_work_74 : decode cX9_work 74 = .ok (.getfield 16, 3) := by decide +kernel
theorem dX9_work_77 : decode cX9_work 77 = .ok (.iload_n 3, 1) := by decide +kernel
theorem dX9_work_78 : decode cX9_work 78 = .ok (.iconst 2, 1) := by decide +kernel
theorem dX9_work_79 : decode cX9_work 79 = .ok (.iload 6, 2) := by decide +kernel
theorem dX9_work_81 : decode cX9_work 81 = .ok (.imul, 1) := by decide +kernel
theorem dX9_work_82 : decode cX9_work 82 = .ok (.iadd, 1) := by decide +kernel
theorem dX9_work_83 : decode cX9_work 83 = .ok (.iconst 1, 1) := by decide +kernel
theorem dX9_work_84 : decode cX9_work 84 = .ok (.iadd, 1) := by decide +kernel
theorem dX9_work_85 : decode cX9_work 85 = .ok (.iaload, 1) := by decide +kernel
theorem dX9_work_86 : decode cX9_work 86 = .ok (.istore 8, 2) := by decide +kernel
theorem dX9_work_88 : decode cX9_work 88 = .ok (.iload 7, 2) := by decide +kernel
theorem dX9_work_90 : decode cX9_work 90 = .ok (.iconst 1, 1) := by decide +kernel
theorem dX9_work_91 : decode cX9_work 91 = .ok (.if_icmp .gt 35, 3) := by decide +kernel
theorem dX9_work_94 : decode cX9_work 94 = .ok (.aload_n 0, 1) := by decide +kernel
theorem dX9_work_95 : decode cX9_work 95 = .ok (.getfield 35, 3) := by decide +kernel
theorem dX9_work_98 : decode cX9_work 98 = .ok (.iload 4, 2) := by decide +kernel
theorem dX9_work_100 : decode cX9_work 100 = .ok (.iload 7, 2) := by decide +kernel
theorem dX9_work_102 : decode cX9_work 102 = .ok (.ifCond .ne 9, 3) := by decide +kernel
theorem dX9_work_105 : decode cX9_work 105 = .ok (.iload 8, 2) := by decide +kernel
theorem dX9_work_107 : decode cX9_work 107 = .ok (.i2l, 1) := by decide +kernel
theorem dX9_work_108 : decode cX9_work 108 = .ok (.goto 11, 3) := by decide +kernel
theorem dX9_work_111 : decode cX9_work 111 = .ok (.aload_n 0, 1) := by decide +kernel
theorem dX9_work_112 : decode cX9_work 112 = .ok (.getfield 32, 3) := by decide +kernel
theorem dX9_work_115 : decode cX9_work 115 = .ok (.iload 8, 2) := by decide +kernel
theorem dX9_work_117 : decode cX9_work 117 = .ok (.iaload, 1) := by decide +kernel
theorem dX9_work_118 : decode cX9_work 118 = .ok (.i2l, 1) := by decide +kernel
theorem dX9_work_119 : decode cX9_work 119 = .ok (.lastore, 1) := by decide +kernel
theorem dX9_work_120 : decode cX9_work 120 = .ok (.iinc 4 1, 3) := by decide +kernel
theorem dX9_work_123 : decode cX9_work 123 = .ok (.goto 245, 3) := by decide +kernel
theorem dX9_work_126 : decode cX9_work 126 = .ok (.iload 7, 2) := by decide +kernel
theorem dX9_work_128 : decode cX9_work 128 = .ok (.iconst 2, 1) := by decide +kernel
theorem dX9_work_129 : decode cX9_work 129 = .ok (.if_icmp .ne 25, 3) := by decide +kernel
theorem dX9_work_132 : decode cX9_work 132 = .ok (.aload_n 0, 1) := by decide +kernel
theorem dX9_work_133 : decode cX9_work 133 = .ok (.getfield 35, 3) := by decide +kernel
theorem dX9_work_136 : decode cX9_work 136 = .ok (.iload 4, 2) := by decide +kernel
theorem dX9_work_138 : decode cX9_work 138 = .ok (.iconst 1, 1) := by decide +kernel
theorem dX9_work_139 : decode cX9_work 139 = .ok (.isub, 1) := by decide +kernel
theorem dX9_work_140 : decode cX9_work 140 = .ok (.aload_n 0, 1) := by decide +kernel
theorem dX9_work_141 : decode cX9_work 141 = .ok (.getfield 35, 3) := by decide +kernel
theorem dX9_work_144 : decode cX9_work 144 = .ok (.iload 4, 2) := by decide +kernel
theorem dX9_work_146 : decode cX9_work 146 = .ok (.iconst 1, 1) := by decide +kernel
theorem dX9_work_147 : decode cX9_work 147 = .ok (.isub, 1) := by decide +kernel
theorem dX9_work_148 : decode cX9_work 148 = .ok (.laload, 1) := by decide +kernel
theorem dX9_work_149 : decode cX9_work 149 = .ok (.lneg, 1) := by decide +kernel
theorem dX9_work_150 : decode cX9_work 150 = .ok (.lastore, 1) := by decide +kernel
theorem dX9_work_151 : decode cX9_work 151 = .ok (.goto 217, 3) := by decide +kernel
theorem dX9_work_154 : decode cX9_work 154 = .ok (.iload 7, 2) := by decide +kernel
theorem dX9_work_156 : decode cX9_work 156 = .ok (.bipush 10, 2) := by decide +kernel
theorem dX9_work_158 : decode cX9_work 158 = .ok (.if_icmp .ge 68, 3) := by decide +kernel
theorem dX9_work_161 : decode cX9_work 161 = .ok (.iinc 4 (-1), 3) := by decide +kernel
theorem dX9_work_164 : decode cX9_work 164 = .ok (.aload_n 0, 1) := by decide +kernel
theorem dX9_work_165 : decode cX9_work 165 = .ok (.getfield 35, 3) := by decide +kernel
theorem dX9_work_168 : decode cX9_work 168 = .ok (.iload 4, 2) := by decide +kernel
theorem dX9_work_170 : decode cX9_work 170 = .ok (.iconst 1, 1) := by decide +kernel
theorem dX9_work_171 : decode cX9_work 171 = .ok (.isub, 1) := by decide +kernel
theorem dX9_work_172 : decode cX9_work 172 = .ok (.iload 7, 2) := by decide +kernel
theorem dX9_work_174 : decode cX9_work 174 = .ok (.bipush 7, 2) := by decide +kernel
theorem dX9_work_176 : decode cX9_work 176 = .ok (.if_icmp .ne 25, 3) := by decide +kernel
theorem dX9_work_179 : decode cX9_work 179 = .ok (.aload_n 0, 1) := by decide +kernel
theorem dX9_work_180 : decode cX9_work 180 = .ok (.getfield 35, 3) := by decide +kernel
theorem dX9_work_183 : decode cX9_work 183 = .ok (.iload 4, 2) := by decide +kernel
theorem dX9_work_185 : decode cX9_work 185 = .ok (.iconst 1, 1) := by decide +kernel
theorem dX9_work_186 : decode cX9_work 186 = .ok (.isub, 1) := by decide +kernel
theorem dX9_work_187 : decode cX9_work 187 = .ok (.laload, 1) := by decide +kernel
theorem dX9_work_188 : decode cX9_work 188 = .ok (.aload_n 0, 1) := by decide +kernel
theorem dX9_work_189 : decode cX9_work 189 = .ok (.getfield 35, 3) := by decide +kernel
theorem dX9_work_192 : decode cX9_work 192 = .ok (.iload 4, 2) := by decide +kernel
theorem dX9_work_194 : decode cX9_work 194 = .ok (.laload, 1) := by decide +kernel
theorem dX9_work_195 : decode cX9_work 195 = .ok (.invokestatic 274, 3) := by decide +kernel
theorem dX9_work_198 : decode cX9_work 198 = .ok (.goto 24, 3) := by decide +kernel
theorem dX9_work_201 : decode cX9_work 201 = .ok (.iload 7, 2) := by decide +kernel
theorem dX9_work_203 : decode cX9_work 203 = .ok (.aload_n 0, 1) := by decide +kernel
theorem dX9_work_204 : decode cX9_work 204 = .ok (.getfield 35, 3) := by decide +kernel
theorem dX9_work_207 : decode cX9_work 207 = .ok (.iload 4, 2) := by decide +kernel
theorem dX9_work_209 : decode cX9_work 209 = .ok (.iconst 1, 1) := by decide +kernel
theorem dX9_work_210 : decode cX9_work 210 = .ok (.isub, 1) := by decide +kernel
theorem dX9_work_211 : decode cX9_work 211 = .ok (.laload, 1) := by decide +kernel
theorem dX9_work_212 : decode cX9_work 212 = .ok (.aload_n 0, 1) := by decide +kernel
theorem dX9_work_213 : decode cX9_work 213 = .ok (.getfield 35, 3) := by decide +kernel
theorem dX9_work_216 : decode cX9_work 216 = .ok (.iload 4, 2) := by decide +kernel
theorem dX9_work_218 : decode cX9_work 218 = .ok (.laload, 1) := by decide +kernel
theorem dX9_work_219 : decode cX9_work 219 = .ok (.invokestatic 278, 3) := by decide +kernel
theorem dX9_work_222 : decode cX9_work 222 = .ok (.lastore, 1) := by decide +kernel
theorem dX9_work_223 : decode cX9_work 223 = .ok (.goto 145, 3) := by decide +kernel
theorem dX9_work_226 : decode cX9_work 226 = .ok (.iload 7, 2) := by decide +kernel
theorem dX9_work_228 : decode cX9_work 228 = .ok (.bipush 20, 2) := by decide +kernel
theorem dX9_work_230 : decode cX9_work 230 = .ok (.if_icmp .ge 69, 3) := by decide +kernel
theorem dX9_work_233 : decode cX9_work 233 = .ok (.iinc 4 (-2), 3) := by decide +kernel
theorem dX9_work_236 : decode cX9_work 236 = .ok (.aload_n 0, 1) := by decide +kernel
theorem dX9_work_237 : decode cX9_work 237 = .ok (.getfield 39, 3) := by decide +kernel
theorem dX9_work_240 : decode cX9_work 240 = .ok (.iload 5, 2) := by decide +kernel
theorem dX9_work_242 : decode cX9_work 242 = .ok (.iload 7, 2) := by decide +kernel
theorem dX9_work_244 : decode cX9_work 244 = .ok (.bipush 16, 2) := by decide +kernel
theorem dX9_work_246 : decode cX9_work 246 = .ok (.if_icmp .ne 25, 3) := by decide +kernel
theorem dX9_work_249 : decode cX9_work 249 = .ok (.aload_n 0, 1) := by decide +kernel
theorem dX9_work_250 : decode cX9_work 250 = .ok (.getfield 35, 3) := by decide +kernel
theorem dX9_work_253 : decode cX9_work 253 = .ok (.iload 4, 2) := by decide +kernel
theorem dX9_work_255 : decode cX9_work 255 = .ok (.laload, 1) := by decide +kernel
theorem dX9_work_256 : decode cX9_work 256 = .ok (.aload_n 0, 1) := by decide +kernel
theorem dX9_work_257 : decode cX9_work 257 = .ok (.getfield 35, 3) := by decide +kernel
theorem dX9_work_260 : decode cX9_work 260 = .ok (.iload 4, 2) := by decide +kernel
theorem dX9_work_262 : decode cX9_work 262 = .ok (.iconst 1, 1) := by decide +kernel
theorem dX9_work_263 : decode cX9_work 263 = .ok (.iadd, 1) := by decide +kernel
theorem dX9_work_264 : decode cX9_work 264 = .ok (.laload, 1) := by decide +kernel
theorem dX9_work_265 : decode cX9_work 265 = .ok (.invokestatic 282, 3) := by decide +kernel
theorem dX9_work_268 : decode cX9_work 268 = .ok (.goto 24, 3) := by decide +kernel
theorem dX9_work_271 : decode cX9_work 271 = .ok (.iload 7, 2) := by decide +kernel
theorem dX9_work_273 : decode cX9_work 273 = .ok (.aload_n 0, 1) := by decide +kernel
theorem dX9_work_274 : decode cX9_work 274 = .ok (.getfield 35, 3) := by decide +kernel
theorem dX9_work_277 : decode cX9_work 277 = .ok (.iload 4, 2) := by decide +kernel
theorem dX9_work_279 : decode cX9_work 279 = .ok (.laload, 1) := by decide +kernel
theorem dX9_work_280 : decode cX9_work 280 = .ok (.aload_n 0, 1) := by decide +kernel
theorem dX9_work_281 : decode cX9_work 281 = .ok (.getfield 35, 3) := by decide +kernel
theorem dX9_work_284 : decode cX9_work 284 = .ok (.iload 4, 2) := by decide +kernel
theorem dX9_work_286 : decode cX9_work 286 = .ok (.iconst 1, 1) := by decide +kernel
theorem dX9_work_287 : decode cX9_work 287 = .ok (.iadd, 1) := by decide +kernel
theorem dX9_work_288 : decode cX9_work 288 = .ok (.laload, 1) := by decide +kernel
theorem dX9_work_289 : decode cX9_work 289 = .ok (.invokestatic 285, 3) := by decide +kernel
theorem dX9_work_292 : decode cX9_work 292 = .ok (.bastore, 1) := by decide +kernel
theorem dX9_work_293 : decode cX9_work 293 = .ok (.iinc 5 1, 3) := by decide +kernel
theorem dX9_work_296 : decode cX9_work 296 = .ok (.goto 72, 3) := by decide +kernel
theorem dX9_work_299 : decode cX9_work 299 = .ok (.iload 7, 2) := by decide +kernel
theorem dX9_work_301 : decode cX9_work 301 = .ok (.bipush 20, 2) := by decide +kernel
theorem dX9_work_303 : decode cX9_work 303 = .ok (.if_icmp .ne 32, 3) := by decide +kernel
theorem dX9_work_306 : decode cX9_work 306 = .ok (.aload_n 0, 1) := by decide +kernel
theorem dX9_work_307 : decode cX9_work 307 = .ok (.getfield 39, 3) := by decide +kernel
theorem dX9_work_310 : decode cX9_work 310 = .ok (.iload 5, 2) := by decide +kernel
theorem dX9_work_312 : decode cX9_work 312 = .ok (.iconst 1, 1) := by decide +kernel
theorem dX9_work_313 : decode cX9_work 313 = .ok (.isub, 1) := by decide +kernel
theorem dX9_work_314 : decode cX9_work 314 = .ok (.aload_n 0, 1) := by decide +kernel
theorem dX9_work_315 : decode cX9_work 315 = .ok (.getfield 39, 3) := by decide +kernel
theorem dX9_work_318 : decode cX9_work 318 = .ok (.iload 5, 2) := by decide +kernel
theorem dX9_work_320 : decode cX9_work 320 = .ok (.iconst 1, 1) := by decide +kernel
theorem dX9_work_321 : decode cX9_work 321 = .ok (.isub, 1) := by decide +kernel
theorem dX9_work_322 : decode cX9_work 322 = .ok (.baload, 1) := by decide +kernel
theorem dX9_work_323 : decode cX9_work 323 = .ok (.ifCond .ne 7, 3) := by decide +kernel
theorem dX9_work_326 : decode cX9_work 326 = .ok (.iconst 1, 1) := by decide +kernel
theorem dX9_work_327 : decode cX9_work 327 = .ok (.goto 4, 3) := by decide +kernel
theorem dX9_work_330 : decode cX9_work 330 = .ok (.iconst 0, 1) := by decide +kernel
theorem dX9_work_331 : decode cX9_work 331 = .ok (.bastore, 1) := by decide +kernel
theorem dX9_work_332 : decode cX9_work 332 = .ok (.goto 36, 3) := by decide +kernel
theorem dX9_work_335 : decode cX9_work 335 = .ok (.iinc 5 (-1), 3) := by decide +kernel
theorem dX9_work_338 : decode cX9_work 338 = .ok (.aload_n 0, 1) := by decide +kernel
theorem dX9_work_339 : decode cX9_work 339 = .ok (.getfield 39, 3) := by decide +kernel
theorem dX9_work_342 : decode cX9_work 342 = .ok (.iload 5, 2) := by decide +kernel
theorem dX9_work_344 : decode cX9_work 344 = .ok (.iconst 1, 1) := by decide +kernel
theorem dX9_work_345 : decode cX9_work 345 = .ok (.isub, 1) := by decide +kernel
theorem dX9_work_346 : decode cX9_work 346 = .ok (.iload 7, 2) := by decide +kernel
theorem dX9_work_348 : decode cX9_work 348 = .ok (.aload_n 0, 1) := by decide +kernel
theorem dX9_work_349 : decode cX9_work 349 = .ok (.getfield 39, 3) := by decide +kernel
theorem dX9_work_352 : decode cX9_work 352 = .ok (.iload 5, 2) := by decide +kernel
theorem dX9_work_354 : decode cX9_work 354 = .ok (.iconst 1, 1) := by decide +kernel
theorem dX9_work_355 : decode cX9_work 355 = .ok (.isub, 1) := by decide +kernel
theorem dX9_work_356 : decode cX9_work 356 = .ok (.baload, 1) := by decide +kernel
theorem dX9_work_357 : decode cX9_work 357 = .ok (.aload_n 0, 1) := by decide +kernel
theorem dX9_work_358 : decode cX9_work 358 = .ok (.getfield 39, 3) := by decide +kernel
theorem dX9_work_361 : decode cX9_work 361 = .ok (.iload 5, 2) := by decide +kernel
theorem dX9_work_363 : decode cX9_work 363 = .ok (.baload, 1) := by decide +kernel
theorem dX9_work_364 : decode cX9_work 364 = .ok (.invokestatic 289, 3) := by decide +kernel
theorem dX9_work_367 : decode cX9_work 367 = .ok (.bastore, 1) := by decide +kernel
theorem dX9_work_368 : decode cX9_work 368 = .ok (.iinc 6 1, 3) := by decide +kernel
theorem dX9_work_371 : decode cX9_work 371 = .ok (.goto (-324), 3) := by decide +kernel
theorem dX9_work_374 : decode cX9_work 374 = .ok (.return_, 1) := by decide +kernel
def lX9_work_47 (F : Nat)  (t : Nat) (a1 : Int32) : Nat → mS → Int32 → Int32 → Int32 → Int32 → Int32 → Option mS
  | 0, _, _, _, _, _, _ => none
  | n + 1, S, v2, v3, v4, v5, v6 => ck (inb (v2 + (2 : Int32)) 2820) (if (S.1 (t + 3) (v2 + (2 : Int32)).toNatClampNeg) ≤ v6 then (some S) else (ck (inb (v3 + ((2 : Int32) * v6)) 2820) (ck (inb ((v3 + ((2 : Int32) * v6)) + (1 : Int32)) 2820) (if (1 : Int32) < (S.1 (t + 3) (v3 + ((2 : Int32) * v6)).toNatClampNeg) then (if (S.1 (t + 3) (v3 + ((2 : Int32) * v6)).toNatClampNeg) = (2 : Int32) then (ck (inb (v4 - (1 : Int32)) 330) (ck (inb (v4 - (1 : Int32)) 330) (stp (sJ S (t + 7) (v4 - (1 : Int32)).toNatClampNeg (-(S.2 (t + 7) (v4 - (1 : Int32)).toNatClampNeg))) fun S40 => lX9_work_47 F  t a1 n S40 v2 v3 v4 v5 (v6 + 1)))) else (if (10 : Int32) ≤ (S.1 (t + 3) (v3 + ((2 : Int32) * v6)).toNatClampNeg) then (if (20 : Int32) ≤ (S.1 (t + 3) (v3 + ((2 : Int32) * v6)).toNatClampNeg) then (if (S.1 (t + 3) (v3 + ((2 : Int32) * v6)).toNatClampNeg) = (20 : Int32) then (ck (inb (v5 - (1 : Int32)) 330) (if (S.1 (t + 8) (v5 - (1 : Int32)).toNatClampNeg) = 0 then (ck (inb (v5 - (1 : Int32)) 330) (stp (sI S (t + 8) (v5 - (1 : Int32)).toNatClampNeg (1 : Int32)) fun S12 => lX9_work_47 F  t a1 n S12 v2 v3 v4 v5 (v6 + 1))) else (ck (inb (v5 - (1 : Int32)) 330) (stp (sI S (t + 8) (v5 - (1 : Int32)).toNatClampNeg (0 : Int32)) fun S10 => lX9_work_47 F  t a1 n S10 v2 v3 v4 v5 (v6 + 1))))) else (ck (inb ((v5 + (-1)) - (1 : Int32)) 330) (ck (inb (v5 + (-1)) 330) (ck (inb ((v5 + (-1)) - (1 : Int32)) 330) (stp (sI S (t + 8) ((v5 + (-1)) - (1 : Int32)).toNatClampNeg (bI (f_X9_joined S (S.1 (t + 3) (v3 + ((2 : Int32) * v6)).toNatClampNeg) (S.1 (t + 8) ((v5 + (-1)) - (1 : Int32)).toNatClampNeg) (S.1 (t + 8) (v5 + (-1)).toNatClampNeg)))) fun S7 => lX9_work_47 F  t a1 n S7 v2 v3 v4 (v5 + (-1)) (v6 + 1)))))) else (if (S.1 (t + 3) (v3 + ((2 : Int32) * v6)).toNatClampNeg) = (16 : Int32) then (ck (inb (v4 + (-2)) 330) (ck (inb ((v4 + (-2)) + (1 : Int32)) 330) (bd (f_X9_isDividing F S (S.2 (t + 7) (v4 + (-2)).toNatClampNeg) (S.2 (t + 7) ((v4 + (-2)) + (1 : Int32)).toNatClampNeg)) fun q21 => ck (inb v5 330) (stp (sI S (t + 8) v5.toNatClampNeg (bI (q21))) fun S23 => lX9_work_47 F  t a1 n S23 v2 v3 (v4 + (-2)) (v5 + 1) (v6 + 1))))) else (ck (inb (v4 + (-2)) 330) (ck (inb ((v4 + (-2)) + (1 : Int32)) 330) (ck (inb v5 330) (stp (sI S (t + 8) v5.toNatClampNeg (bI (f_X9_isAsked S (S.1 (t + 3) (v3 + ((2 : Int32) * v6)).toNatClampNeg) (S.2 (t + 7) (v4 + (-2)).toNatClampNeg) (S.2 (t + 7) ((v4 + (-2)) + (1 : Int32)).toNatClampNeg)))) fun S18 => lX9_work_47 F  t a1 n S18 v2 v3 (v4 + (-2)) (v5 + 1) (v6 + 1))))))) else (if (S.1 (t + 3) (v3 + ((2 : Int32) * v6)).toNatClampNeg) = (7 : Int32) then (ck (inb ((v4 + (-1)) - (1 : Int32)) 330) (ck (inb (v4 + (-1)) 330) (bd (f_X9_digit F S (S.2 (t + 7) ((v4 + (-1)) - (1 : Int32)).toNatClampNeg) (S.2 (t + 7) (v4 + (-1)).toNatClampNeg)) fun q33 => ck (inb ((v4 + (-1)) - (1 : Int32)) 330) (stp (sJ S (t + 7) ((v4 + (-1)) - (1 : Int32)).toNatClampNeg q33) fun S35 => lX9_work_47 F  t a1 n S35 v2 v3 (v4 + (-1)) v5 (v6 + 1))))) else (ck (inb ((v4 + (-1)) - (1 : Int32)) 330) (ck (inb (v4 + (-1)) 330) (bd (f_X9_two F S (S.1 (t + 3) (v3 + ((2 : Int32) * v6)).toNatClampNeg) (S.2 (t + 7) ((v4 + (-1)) - (1 : Int32)).toNatClampNeg) (S.2 (t + 7) (v4 + (-1)).toNatClampNeg)) fun q28 => ck (inb ((v4 + (-1)) - (1 : Int32)) 330) (stp (sJ S (t + 7) ((v4 + (-1)) - (1 : Int32)).toNatClampNeg q28) fun S30 => lX9_work_47 F  t a1 n S30 v2 v3 (v4 + (-1)) v5 (v6 + 1)))))))) else (if (S.1 (t + 3) (v3 + ((2 : Int32) * v6)).toNatClampNeg) = 0 then (ck (inb v4 330) (stp (sJ S (t + 7) v4.toNatClampNeg (Int32.toInt64 (S.1 (t + 3) ((v3 + ((2 : Int32) * v6)) + (1 : Int32)).toNatClampNeg))) fun S46 => lX9_work_47 F  t a1 n S46 v2 v3 (v4 + 1) v5 (v6 + 1))) else (ck (inb (S.1 (t + 3) ((v3 + ((2 : Int32) * v6)) + (1 : Int32)).toNatClampNeg) 8) (ck (inb v4 330) (stp (sJ S (t + 7) v4.toNatClampNeg (Int32.toInt64 (S.1 (t + 6) (S.1 (t + 3) ((v3 + ((2 : Int32) * v6)) + (1 : Int32)).toNatClampNeg).toNatClampNeg))) fun S44 => lX9_work_47 F  t a1 n S44 v2 v3 (v4 + 1) v5 (v6 + 1)))))))))
set_option maxHeartbeats 4000000 in
set_option maxRecDepth 100000 in
theorem gX9_work_47 {x : mX} {F : Nat} {t : Nat} {a1 : Int32}   {R : mS} (ht : kd0 t = 9)  : ∀ (n : Nat) (S : mS) (v2 : Int32) (v3 : Int32) (v4 : Int32) (v5 : Int32) (v6 : Int32), lX9_work_47 F  t a1 n S v2 v3 v4 v5 v6 = some R → mG x μX9_work 3 0 0 (mQe R none) 0 0 E0 S 47 [(0, .ref (t)), (2, .int (v2)), (3, .int (v3)), (4, .int (v4)), (5, .int (v5)), (6, .int (v6))] [] := by
  intro n
  induction n with
  | zero =>
    intro S v2 v3 v4 v5 v6 h
    cases h
  | succ n ih =>
    intro S v2 v3 v4 v5 v6 h
    unfold lX9_work_47 at h
    refine mG.iload 5 dX9_work_47 rfl ?_
    refine mG.aload_n 0 dX9_work_49 rfl ?_
    refine mG.get (v := .ref (t + 3)) dX9_work_50 mfX9_16 ht (lr9_texts ht) ?_
    refine mG.iload_n 1 dX9_work_53 rfl ?_
    refine mG.iconst (v := 2) dX9_work_54 rfl ?_
    refine mG.iadd dX9_work_55 ?_
    obtain ⟨b1, h⟩ := ckp h
    refine mG.iald dX9_work_56 (lk9_texts ht) (ll9_texts ht) (inbp b1) ?_
    refine mG.icmp_ge 374 dX9_work_57 (by decide) (fun c49 => ?_) (fun c49 => ?_)
    · replace h := itp c49 h
      obtain rfl := Option.some.inj h
      exact mG.vret dX9_work_374 rfl ⟨rfl, rfl, rfl⟩
    · replace h := itn c49 h
      refine mG.aload_n 0 dX9_work_60 rfl ?_
      refine mG.get (v := .ref (t + 3)) dX9_work_61 mfX9_16 ht (lr9_texts ht) ?_
      refine mG.iload_n 2 dX9_work_64 rfl ?_
      refine mG.iconst (v := 2) dX9_work_65 rfl ?_
      refine mG.iload 5 dX9_work_66 rfl ?_
      refine mG.imul dX9_work_68 ?_
      refine mG.iadd dX9_work_69 ?_
      obtain ⟨b2, h⟩ := ckp h
      refine mG.iald dX9_work_70 (lk9_texts ht) (ll9_texts ht) (inbp b2) ?_
      refine mG.istore (lv2 := [(7, .int (S.1 (t + 3) (v3 + ((2 : Int32) * v6)).toNatClampNeg)), (0, .ref (t)), (2, .int (v2)), (3, .int (v3)), (4, .int (v4)), (5, .int (v5)), (6, .int (v6))]) dX9_work_71 (by decide) rfl ?_
      refine mG.aload_n 1 dX9_work_73 rfl ?_
      refine mG.get (v := .ref (t + 3)) dX9_work_74 mfX9_16 ht (lr9_texts ht) ?_
      refine mG.iload_n 3 dX9_work_77 rfl ?_
      refine mG.iconst (v := 2) dX9_work_78 rfl ?_
      refine mG.iload 6 dX9_work_79 rfl ?_
      refine mG.imul dX9_work_81 ?_
      refine mG.iadd dX9_work_82 ?_
      refine mG.iconst (v := 1) dX9_work_83 rfl ?_
      refine mG.iadd dX9_work_84 ?_
      obtain ⟨b3, h⟩ := ckp h
      refine mG.iald dX9_work_85 (lk9_texts ht) (ll9_texts ht) (inbp b3) ?_
      refine mG.istore (lv2 := [(8, .int (S.1 (t + 3) ((v3 + ((2 : Int32) * v6)) + (1 : Int32)).toNatClampNeg)), (7, .int (S.1 (t + 3) (v3 + ((2 : Int32) * v6)).toNatClampNeg)), (0, .ref (t)), (2, .int (v2)), (3, .int (v3)), (4, .int (v4)), (5, .int (v5)), (6, .int (v6))]) dX9_work_86 (by decide) rfl ?_
      refine mG.iload 1 dX9_work_88 rfl ?_
      refine mG.iconst (v := 1) dX9_work_90 rfl ?_
      refine mG.icmp_gt 126 dX9_work_91 (by decide) (fun c48 => ?_) (fun c48 => ?_)
      · replace h := itp c48 h
        refine mG.iload 1 dX9_work_126 rfl ?_
        refine mG.iconst (v := 2) dX9_work_128 rfl ?_
        refine mG.icmp_ne 154 dX9_work_129 (by decide) (fun c41 => ?_) (fun c41 => ?_)
        · replace h := itn c41 h
          refine mG.iload 1 dX9_work_154 rfl ?_
          refine mG.bipush (v := 10) dX9_work_156 (by decide) ?_
          refine mG.icmp_ge 226 dX9_work_158 (by decide) (fun c37 => ?_) (fun c37 => ?_)
          · replace h := itp c37 h
            refine mG.iload 1 dX9_work_226 rfl ?_
            refine mG.bipush (v := 20) dX9_work_228 (by decide) ?_
            refine mG.icmp_ge 299 dX9_work_230 (by decide) (fun c25 => ?_) (fun c25 => ?_)
            · replace h := itp c25 h
              refine mG.iload 1 dX9_work_299 rfl ?_
              refine mG.bipush (v := 20) dX9_work_301 (by decide) ?_
              refine mG.icmp_ne 335 dX9_work_303 (by decide) (fun c14 => ?_) (fun c14 => ?_)
              · replace h := itn c14 h
                refine mG.iinc 6 (u := v5 + (-1)) (lv2 := [(5, .int (v5 + (-1))), (8, .int (S.1 (t + 3) ((v3 + ((2 : Int32) * v6)) + (1 : Int32)).toNatClampNeg)), (7, .int (S.1 (t + 3) (v3 + ((2 : Int32) * v6)).toNatClampNeg)), (0, .ref (t)), (2, .int (v2)), (3, .int (v3)), (4, .int (v4)), (6, .int (v6))]) dX9_work_335 rfl rfl (by decide) rfl ?_
                refine mG.aload_n 3 dX9_work_338 rfl ?_
                refine mG.get (v := .ref (t + 8)) dX9_work_339 mfX9_39 ht (lr9_truth ht) ?_
                refine mG.iload 0 dX9_work_342 rfl ?_
                refine mG.iconst (v := 1) dX9_work_344 rfl ?_
                refine mG.isub dX9_work_345 ?_
                refine mG.iload 2 dX9_work_346 rfl ?_
                refine mG.aload_n 3 dX9_work_348 rfl ?_
                refine mG.get (v := .ref (t + 8)) dX9_work_349 mfX9_39 ht (lr9_truth ht) ?_
                refine mG.iload 0 dX9_work_352 rfl ?_
                refine mG.iconst (v := 1) dX9_work_354 rfl ?_
                refine mG.isub dX9_work_355 ?_
                obtain ⟨b4, h⟩ := ckp h
                refine mG.zald dX9_work_356 (lk9_truth ht) (ll9_truth ht) (inbp b4) ?_
                refine mG.aload_n 3 dX9_work_357 rfl ?_
                refine mG.get (v := .ref (t + 8)) dX9_work_358 mfX9_39 ht (lr9_truth ht) ?_
                refine mG.iload 0 dX9_work_361 rfl ?_
                obtain ⟨b5, h⟩ := ckp h
                refine mG.zald dX9_work_363 (lk9_truth ht) (ll9_truth ht) (inbp b5) ?_
                refine mG.callS0 (as := [.int (S.1 (t + 3) (v3 + ((2 : Int32) * v6)).toNatClampNeg), .int (S.1 (t + 8) ((v5 + (-1)) - (1 : Int32)).toNatClampNeg), .int (S.1 (t + 8) (v5 + (-1)).toNatClampNeg)]) (st := [.int ((v5 + (-1)) - (1 : Int32)), .ref (t + 8)]) (S2 := S) (r := some (.int (bI (f_X9_joined S (S.1 (t + 3) (v3 + ((2 : Int32) * v6)).toNatClampNeg) (S.1 (t + 8) ((v5 + (-1)) - (1 : Int32)).toNatClampNeg) (S.1 (t + 8) (v5 + (-1)).toNatClampNeg))))) dX9_work_364 mbX9_joined wk35_23 wk35_22 rfl rfl (by decide) (Nat.le_of_ble_eq_true rfl) (c_X9_joined  rfl) ?_
                obtain ⟨b6, h⟩ := ckp h
                obtain ⟨S7, hS7, h⟩ := stpp h
                refine mG.zast dX9_work_367 (lk9_truth ht) (ll9_truth ht) (inbp b6) (bI01 _) hS7 ?_
                refine mG.iinc 7 (u := v6 + 1) (lv2 := [(6, .int (v6 + 1)), (5, .int (v5 + (-1))), (8, .int (S.1 (t + 3) ((v3 + ((2 : Int32) * v6)) + (1 : Int32)).toNatClampNeg)), (7, .int (S.1 (t + 3) (v3 + ((2 : Int32) * v6)).toNatClampNeg)), (0, .ref (t)), (2, .int (v2)), (3, .int (v3)), (4, .int (v4))]) dX9_work_368 rfl rfl (by decide) rfl ?_
                refine mG.goto 47 dX9_work_371 (by decide) ?_
                refine mG.sub (lv2 := [(0, .ref (t)), (2, .int (v2)), (3, .int (v3)), (4, .int (v4)), (5, .int (v5 + (-1))), (6, .int (v6 + 1))]) [4, 5, 6, 7, 1, 0] rfl ?_
                exact ih S7 v2 v3 v4 (v5 + (-1)) (v6 + 1)  h
              · replace h := itp c14 h
                refine mG.aload_n 2 dX9_work_306 rfl ?_
                refine mG.get (v := .ref (t + 8)) dX9_work_307 mfX9_39 ht (lr9_truth ht) ?_
                refine mG.iload 6 dX9_work_310 rfl ?_
                refine mG.iconst (v := 1) dX9_work_312 rfl ?_
                refine mG.isub dX9_work_313 ?_
                refine mG.aload_n 2 dX9_work_314 rfl ?_
                refine mG.get (v := .ref (t + 8)) dX9_work_315 mfX9_39 ht (lr9_truth ht) ?_
                refine mG.iload 6 dX9_work_318 rfl ?_
                refine mG.iconst (v := 1) dX9_work_320 rfl ?_
                refine mG.isub dX9_work_321 ?_
                obtain ⟨b8, h⟩ := ckp h
                refine mG.zald dX9_work_322 (lk9_truth ht) (ll9_truth ht) (inbp b8) ?_
                refine mG.if_ne 330 dX9_work_323 (by decide) (fun c13 => ?_) (fun c13 => ?_)
                · replace h := itn c13 h
                  refine mG.iconst (v := 0) dX9_work_330 rfl ?_
                  obtain ⟨b9, h⟩ := ckp h
                  obtain ⟨S10, hS10, h⟩ := stpp h
                  refine mG.zast dX9_work_331 (lk9_truth ht) (ll9_truth ht) (inbp b9) (Or.inl rfl) hS10 ?_
                  refine mG.goto 368 dX9_work_332 (by decide) ?_
                  refine mG.iinc 7 (u := v6 + 1) (lv2 := [(6, .int (v6 + 1)), (8, .int (S.1 (t + 3) ((v3 + ((2 : Int32) * v6)) + (1 : Int32)).toNatClampNeg)), (7, .int (S.1 (t + 3) (v3 + ((2 : Int32) * v6)).toNatClampNeg)), (0, .ref (t)), (2, .int (v2)), (3, .int (v3)), (4, .int (v4)), (5, .int (v5))]) dX9_work_368 rfl rfl (by decide) rfl ?_
                  refine mG.goto 47 dX9_work_371 (by decide) ?_
                  refine mG.sub (lv2 := [(0, .ref (t)), (2, .int (v2)), (3, .int (v3)), (4, .int (v4)), (5, .int (v5)), (6, .int (v6 + 1))]) [3, 4, 5, 6, 7, 0] rfl ?_
                  exact ih S10 v2 v3 v4 v5 (v6 + 1)  h
                · replace h := itp c13 h
                  refine mG.iconst (v := 1) dX9_work_326 rfl ?_
                  refine mG.goto 331 dX9_work_327 (by decide) ?_
                  obtain ⟨b11, h⟩ := ckp h
                  obtain ⟨S12, hS12, h⟩ := stpp h
                  refine mG.zast dX9_work_331 (lk9_truth ht) (ll9_truth ht) (inbp b11) (Or.inr rfl) hS12 ?_
                  refine mG.goto 368 dX9_work_332 (by decide) ?_
                  refine mG.iinc 7 (u := v6 + 1) (lv2 := [(6, .int (v6 + 1)), (8, .int (S.1 (t + 3) ((v3 + ((2 : Int32) * v6)) + (1 : Int32)).toNatClampNeg)), (7, .int (S.1 (t + 3) (v3 + ((2 : Int32) * v6)).toNatClampNeg)), (0, .ref (t)), (2, .int (v2)), (3, .int (v3)), (4, .int (v4)), (5, .int (v5))]) dX9_work_368 rfl rfl (by decide) rfl ?_
                  refine mG.goto 47 dX9_work_371 (by decide) ?_
                  refine mG.sub (lv2 := [(0, .ref (t)), (2, .int (v2)), (3, .int (v3)), (4, .int (v4)), (5, .int (v5)), (6, .int (v6 + 1))]) [3, 4, 5, 6, 7, 0] rfl ?_
                  exact ih S12 v2 v3 v4 v5 (v6 + 1)  h
            · replace h := itn c25 h
              refine mG.iinc 5 (u := v4 + (-2)) (lv2 := [(4, .int (v4 + (-2))), (8, .int (S.1 (t + 3) ((v3 + ((2 : Int32) * v6)) + (1 : Int32)).toNatClampNeg)), (7, .int (S.1 (t + 3) (v3 + ((2 : Int32) * v6)).toNatClampNeg)), (0, .ref (t)), (2, .int (v2)), (3, .int (v3)), (5, .int (v5)), (6, .int (v6))]) dX9_work_233 rfl rfl (by decide) rfl ?_
              refine mG.aload_n 3 dX9_work_236 rfl ?_
              refine mG.get (v := .ref (t + 8)) dX9_work_237 mfX9_39 ht (lr9_truth ht) ?_
              refine mG.iload 6 dX9_work_240 rfl ?_
              refine mG.iload 2 dX9_work_242 rfl ?_
              refine mG.bipush (v := 16) dX9_work_244 (by decide) ?_
              refine mG.icmp_ne 271 dX9_work_246 (by decide) (fun c24 => ?_) (fun c24 => ?_)
              · replace h := itn c24 h
                refine mG.iload 2 dX9_work_271 rfl ?_
                refine mG.aload_n 3 dX9_work_273 rfl ?_
                refine mG.get (v := .ref (t + 7)) dX9_work_274 mfX9_35 ht (lr9_values ht) ?_
                refine mG.iload 0 dX9_work_277 rfl ?_
                obtain ⟨b15, h⟩ := ckp h
                refine mG.lald dX9_work_279 (lk9_values ht) (ll9_values ht) (inbp b15) ?_
                refine mG.aload_n 3 dX9_work_280 rfl ?_
                refine mG.get (v := .ref (t + 7)) dX9_work_281 mfX9_35 ht (lr9_values ht) ?_
                refine mG.iload 0 dX9_work_284 rfl ?_
                refine mG.iconst (v := 1) dX9_work_286 rfl ?_
                refine mG.iadd dX9_work_287 ?_
                obtain ⟨b16, h⟩ := ckp h
                refine mG.lald dX9_work_288 (lk9_values ht) (ll9_values ht) (inbp b16) ?_
                refine mG.callS0 (as := [.int (S.1 (t + 3) (v3 + ((2 : Int32) * v6)).toNatClampNeg), .long (S.2 (t + 7) (v4 + (-2)).toNatClampNeg), .long (S.2 (t + 7) ((v4 + (-2)) + (1 : Int32)).toNatClampNeg)]) (st := [.int (v5), .ref (t + 8)]) (S2 := S) (r := some (.int (bI (f_X9_isAsked S (S.1 (t + 3) (v3 + ((2 : Int32) * v6)).toNatClampNeg) (S.2 (t + 7) (v4 + (-2)).toNatClampNeg) (S.2 (t + 7) ((v4 + (-2)) + (1 : Int32)).toNatClampNeg))))) dX9_work_289 mbX9_isAsked wk35_20 wk35_19 rfl rfl (by decide) (Nat.le_of_ble_eq_true rfl) (c_X9_isAsked  rfl) ?_
                obtain ⟨b17, h⟩ := ckp h
                obtain ⟨S18, hS18, h⟩ := stpp h
                refine mG.zast dX9_work_292 (lk9_truth ht) (ll9_truth ht) (inbp b17) (bI01 _) hS18 ?_
                refine mG.iinc 6 (u := v5 + 1) (lv2 := [(5, .int (v5 + 1)), (4, .int (v4 + (-2))), (8, .int (S.1 (t + 3) ((v3 + ((2 : Int32) * v6)) + (1 : Int32)).toNatClampNeg)), (7, .int (S.1 (t + 3) (v3 + ((2 : Int32) * v6)).toNatClampNeg)), (0, .ref (t)), (2, .int (v2)), (3, .int (v3)), (6, .int (v6))]) dX9_work_293 rfl rfl (by decide) rfl ?_
                refine mG.goto 368 dX9_work_296 (by decide) ?_
                refine mG.iinc 7 (u := v6 + 1) (lv2 := [(6, .int (v6 + 1)), (5, .int (v5 + 1)), (4, .int (v4 + (-2))), (8, .int (S.1 (t + 3) ((v3 + ((2 : Int32) * v6)) + (1 : Int32)).toNatClampNeg)), (7, .int (S.1 (t + 3) (v3 + ((2 : Int32) * v6)).toNatClampNeg)), (0, .ref (t)), (2, .int (v2)), (3, .int (v3))]) dX9_work_368 rfl rfl (by decide) rfl ?_
                refine mG.goto 47 dX9_work_371 (by decide) ?_
                refine mG.sub (lv2 := [(0, .ref (t)), (2, .int (v2)), (3, .int (v3)), (4, .int (v4 + (-2))), (5, .int (v5 + 1)), (6, .int (v6 + 1))]) [5, 6, 7, 2, 1, 0] rfl ?_
                exact ih S18 v2 v3 (v4 + (-2)) (v5 + 1) (v6 + 1)  h
              · replace h := itp c24 h
                refine mG.aload_n 3 dX9_work_249 rfl ?_
                refine mG.get (v := .ref (t + 7)) dX9_work_250 mfX9_35 ht (lr9_values ht) ?_
                refine mG.iload 0 dX9_work_253 rfl ?_
                obtain ⟨b19, h⟩ := ckp h
                refine mG.lald dX9_work_255 (lk9_values ht) (ll9_values ht) (inbp b19) ?_
                refine mG.aload_n 3 dX9_work_256 rfl ?_
                refine mG.get (v := .ref (t + 7)) dX9_work_257 mfX9_35 ht (lr9_values ht) ?_
                refine mG.iload 0 dX9_work_260 rfl ?_
                refine mG.iconst (v := 1) dX9_work_262 rfl ?_
                refine mG.iadd dX9_work_263 ?_
                obtain ⟨b20, h⟩ := ckp h
                refine mG.lald dX9_work_264 (lk9_values ht) (ll9_values ht) (inbp b20) ?_
                obtain ⟨q21, hq21, h⟩ := bdp h
                refine mG.callS0 (as := [.long (S.2 (t + 7) (v4 + (-2)).toNatClampNeg), .long (S.2 (t + 7) ((v4 + (-2)) + (1 : Int32)).toNatClampNeg)]) (st := [.int (v5), .ref (t + 8)]) (S2 := S) (r := some (.int (bI (q21)))) dX9_work_265 mbX9_isDividing wk35_17 wk35_16 rfl rfl (by decide) (Nat.le_of_ble_eq_true rfl) (c_X9_isDividing  hq21) ?_
                refine mG.goto 292 dX9_work_268 (by decide) ?_
                obtain ⟨b22, h⟩ := ckp h
                obtain ⟨S23, hS23, h⟩ := stpp h
                refine mG.zast dX9_work_292 (lk9_truth ht) (ll9_truth ht) (inbp b22) (bI01 _) hS23 ?_
                refine mG.iinc 6 (u := v5 + 1) (lv2 := [(5, .int (v5 + 1)), (4, .int (v4 + (-2))), (8, .int (S.1 (t + 3) ((v3 + ((2 : Int32) * v6)) + (1 : Int32)).toNatClampNeg)), (7, .int (S.1 (t + 3) (v3 + ((2 : Int32) * v6)).toNatClampNeg)), (0, .ref (t)), (2, .int (v2)), (3, .int (v3)), (6, .int (v6))]) dX9_work_293 rfl rfl (by decide) rfl ?_
                refine mG.goto 368 dX9_work_296 (by decide) ?_
                refine mG.iinc 7 (u := v6 + 1) (lv2 := [(6, .int (v6 + 1)), (5, .int (v5 + 1)), (4, .int (v4 + (-2))), (8, .int (S.1 (t + 3) ((v3 + ((2 : Int32) * v6)) + (1 : Int32)).toNatClampNeg)), (7, .int (S.1 (t + 3) (v3 + ((2 : Int32) * v6)).toNatClampNeg)), (0, .ref (t)), (2, .int (v2)), (3, .int (v3))]) dX9_work_368 rfl rfl (by decide) rfl ?_
                refine mG.goto 47 dX9_work_371 (by decide) ?_
                refine mG.sub (lv2 := [(0, .ref (t)), (2, .int (v2)), (3, .int (v3)), (4, .int (v4 + (-2))), (5, .int (v5 + 1)), (6, .int (v6 + 1))]) [5, 6, 7, 2, 1, 0] rfl ?_
                exact ih S23 v2 v3 (v4 + (-2)) (v5 + 1) (v6 + 1)  h
          · replace h := itn c37 h
            refine mG.iinc 5 (u := v4 + (-1)) (lv2 := [(4, .int (v4 + (-1))), (8, .int (S.1 (t + 3) ((v3 + ((2 : Int32) * v6)) + (1 : Int32)).toNatClampNeg)), (7, .int (S.1 (t + 3) (v3 + ((2 : Int32) * v6)).toNatClampNeg)), (0, .ref (t)), (2, .int (v2)), (3, .int (v3)), (5, .int (v5)), (6, .int (v6))]) dX9_work_161 rfl rfl (by decide) rfl ?_
            refine mG.aload_n 3 dX9_work_164 rfl ?_
            refine mG.get (v := .ref (t + 7)) dX9_work_165 mfX9_35 ht (lr9_values ht) ?_
            refine mG.iload 0 dX9_work_168 rfl ?_
            refine mG.iconst (v := 1) dX9_work_170 rfl ?_
            refine mG.isub dX9_work_171 ?_
            refine mG.iload 2 dX9_work_172 rfl ?_
            refine mG.bipush (v := 7) dX9_work_174 (by decide) ?_
            refine mG.icmp_ne 201 dX9_work_176 (by decide) (fun c36 => ?_) (fun c36 => ?_)
            · replace h := itn c36 h
              refine mG.iload 2 dX9_work_201 rfl ?_
              refine mG.aload_n 3 dX9_work_203 rfl ?_
              refine mG.get (v := .ref (t + 7)) dX9_work_204 mfX9_35 ht (lr9_values ht) ?_
              refine mG.iload 0 dX9_work_207 rfl ?_
              refine mG.iconst (v := 1) dX9_work_209 rfl ?_
              refine mG.isub dX9_work_210 ?_
              obtain ⟨b26, h⟩ := ckp h
              refine mG.lald dX9_work_211 (lk9_values ht) (ll9_values ht) (inbp b26) ?_
              refine mG.aload_n 3 dX9_work_212 rfl ?_
              refine mG.get (v := .ref (t + 7)) dX9_work_213 mfX9_35 ht (lr9_values ht) ?_
              refine mG.iload 0 dX9_work_216 rfl ?_
              obtain ⟨b27, h⟩ := ckp h
              refine mG.lald dX9_work_218 (lk9_values ht) (ll9_values ht) (inbp b27) ?_
              obtain ⟨q28, hq28, h⟩ := bdp h
              refine mG.callS0 (as := [.int (S.1 (t + 3) (v3 + ((2 : Int32) * v6)).toNatClampNeg), .long (S.2 (t + 7) ((v4 + (-1)) - (1 : Int32)).toNatClampNeg), .long (S.2 (t + 7) (v4 + (-1)).toNatClampNeg)]) (st := [.int ((v4 + (-1)) - (1 : Int32)), .ref (t + 7)]) (S2 := S) (r := some (.long (q28))) dX9_work_219 mbX9_two wk35_9 wk35_8 rfl rfl (by decide) (Nat.le_of_ble_eq_true rfl) (c_X9_two  hq28) ?_
              obtain ⟨b29, h⟩ := ckp h
              obtain ⟨S30, hS30, h⟩ := stpp h
              refine mG.last dX9_work_222 (lk9_values ht) (ll9_values ht) (inbp b29) hS30 ?_
              refine mG.goto 368 dX9_work_223 (by decide) ?_
              refine mG.iinc 7 (u := v6 + 1) (lv2 := [(6, .int (v6 + 1)), (4, .int (v4 + (-1))), (8, .int (S.1 (t + 3) ((v3 + ((2 : Int32) * v6)) + (1 : Int32)).toNatClampNeg)), (7, .int (S.1 (t + 3) (v3 + ((2 : Int32) * v6)).toNatClampNeg)), (0, .ref (t)), (2, .int (v2)), (3, .int (v3)), (5, .int (v5))]) dX9_work_368 rfl rfl (by decide) rfl ?_
              refine mG.goto 47 dX9_work_371 (by decide) ?_
              refine mG.sub (lv2 := [(0, .ref (t)), (2, .int (v2)), (3, .int (v3)), (4, .int (v4 + (-1))), (5, .int (v5)), (6, .int (v6 + 1))]) [4, 5, 6, 1, 7, 0] rfl ?_
              exact ih S30 v2 v3 (v4 + (-1)) v5 (v6 + 1)  h
            · replace h := itp c36 h
              refine mG.aload_n 3 dX9_work_179 rfl ?_
              refine mG.get (v := .ref (t + 7)) dX9_work_180 mfX9_35 ht (lr9_values ht) ?_
              refine mG.iload 0 dX9_work_183 rfl ?_
              refine mG.iconst (v := 1) dX9_work_185 rfl ?_
              refine mG.isub dX9_work_186 ?_
              obtain ⟨b31, h⟩ := ckp h
              refine mG.lald dX9_work_187 (lk9_values ht) (ll9_values ht) (inbp b31) ?_
              refine mG.aload_n 3 dX9_work_188 rfl ?_
              refine mG.get (v := .ref (t + 7)) dX9_work_189 mfX9_35 ht (lr9_values ht) ?_
              refine mG.iload 0 dX9_work_192 rfl ?_
              obtain ⟨b32, h⟩ := ckp h
              refine mG.lald dX9_work_194 (lk9_values ht) (ll9_values ht) (inbp b32) ?_
              obtain ⟨q33, hq33, h⟩ := bdp h
              refine mG.callS0 (as := [.long (S.2 (t + 7) ((v4 + (-1)) - (1 : Int32)).toNatClampNeg), .long (S.2 (t + 7) (v4 + (-1)).toNatClampNeg)]) (st := [.int ((v4 + (-1)) - (1 : Int32)), .ref (t + 7)]) (S2 := S) (r := some (.long (q33))) dX9_work_195 mbX9_digit wk35_4 wk35_3 rfl rfl (by decide) (Nat.le_of_ble_eq_true rfl) (c_X9_digit  hq33) ?_
              refine mG.goto 222 dX9_work_198 (by decide) ?_
              obtain ⟨b34, h⟩ := ckp h
              obtain ⟨S35, hS35, h⟩ := stpp h
              refine mG.last dX9_work_222 (lk9_values ht) (ll9_values ht) (inbp b34) hS35 ?_
              refine mG.goto 368 dX9_work_223 (by decide) ?_
              refine mG.iinc 7 (u := v6 + 1) (lv2 := [(6, .int (v6 + 1)), (4, .int (v4 + (-1))), (8, .int (S.1 (t + 3) ((v3 + ((2 : Int32) * v6)) + (1 : Int32)).toNatClampNeg)), (7, .int (S.1 (t + 3) (v3 + ((2 : Int32) * v6)).toNatClampNeg)), (0, .ref (t)), (2, .int (v2)), (3, .int (v3)), (5, .int (v5))]) dX9_work_368 rfl rfl (by decide) rfl ?_
              refine mG.goto 47 dX9_work_371 (by decide) ?_
              refine mG.sub (lv2 := [(0, .ref (t)), (2, .int (v2)), (3, .int (v3)), (4, .int (v4 + (-1))), (5, .int (v5)), (6, .int (v6 + 1))]) [4, 5, 6, 1, 7, 0] rfl ?_
              exact ih S35 v2 v3 (v4 + (-1)) v5 (v6 + 1)  h
        · replace h := itp c41 h
          refine mG.aload_n 2 dX9_work_132 rfl ?_
          refine mG.get (v := .ref (t + 7)) dX9_work_133 mfX9_35 ht (lr9_values ht) ?_
          refine mG.iload 5 dX9_work_136 rfl ?_
          refine mG.iconst (v := 1) dX9_work_138 rfl ?_
          refine mG.isub dX9_work_139 ?_
          refine mG.aload_n 2 dX9_work_140 rfl ?_
          refine mG.get (v := .ref (t + 7)) dX9_work_141 mfX9_35 ht (lr9_values ht) ?_
          refine mG.iload 5 dX9_work_144 rfl ?_
          refine mG.iconst (v := 1) dX9_work_146 rfl ?_
          refine mG.isub dX9_work_147 ?_
          obtain ⟨b38, h⟩ := ckp h
          refine mG.lald dX9_work_148 (lk9_values ht) (ll9_values ht) (inbp b38) ?_
          refine mG.lneg dX9_work_149 ?_
          obtain ⟨b39, h⟩ := ckp h
          obtain ⟨S40, hS40, h⟩ := stpp h
          refine mG.last dX9_work_150 (lk9_values ht) (ll9_values ht) (inbp b39) hS40 ?_
          refine mG.goto 368 dX9_work_151 (by decide) ?_
          refine mG.iinc 7 (u := v6 + 1) (lv2 := [(6, .int (v6 + 1)), (8, .int (S.1 (t + 3) ((v3 + ((2 : Int32) * v6)) + (1 : Int32)).toNatClampNeg)), (7, .int (S.1 (t + 3) (v3 + ((2 : Int32) * v6)).toNatClampNeg)), (0, .ref (t)), (2, .int (v2)), (3, .int (v3)), (4, .int (v4)), (5, .int (v5))]) dX9_work_368 rfl rfl (by decide) rfl ?_
          refine mG.goto 47 dX9_work_371 (by decide) ?_
          refine mG.sub (lv2 := [(0, .ref (t)), (2, .int (v2)), (3, .int (v3)), (4, .int (v4)), (5, .int (v5)), (6, .int (v6 + 1))]) [3, 4, 5, 6, 7, 0] rfl ?_
          exact ih S40 v2 v3 v4 v5 (v6 + 1)  h
      · replace h := itn c48 h
        refine mG.aload_n 2 dX9_work_94 rfl ?_
        refine mG.get (v := .ref (t + 7)) dX9_work_95 mfX9_35 ht (lr9_values ht) ?_
        refine mG.iload 5 dX9_work_98 rfl ?_
        refine mG.iload 1 dX9_work_100 rfl ?_
        refine mG.if_ne 111 dX9_work_102 (by decide) (fun c47 => ?_) (fun c47 => ?_)
        · replace h := itn c47 h
          refine mG.aload_n 2 dX9_work_111 rfl ?_
          refine mG.get (v := .ref (t + 6)) dX9_work_112 mfX9_32 ht (lr9_named ht) ?_
          refine mG.iload 0 dX9_work_115 rfl ?_
          obtain ⟨b42, h⟩ := ckp h
          refine mG.iald dX9_work_117 (lk9_named ht) (ll9_named ht) (inbp b42) ?_
          refine mG.i2l dX9_work_118 ?_
          obtain ⟨b43, h⟩ := ckp h
          obtain ⟨S44, hS44, h⟩ := stpp h
          refine mG.last dX9_work_119 (lk9_values ht) (ll9_values ht) (inbp b43) hS44 ?_
          refine mG.iinc 5 (u := v4 + 1) (lv2 := [(4, .int (v4 + 1)), (8, .int (S.1 (t + 3) ((v3 + ((2 : Int32) * v6)) + (1 : Int32)).toNatClampNeg)), (7, .int (S.1 (t + 3) (v3 + ((2 : Int32) * v6)).toNatClampNeg)), (0, .ref (t)), (2, .int (v2)), (3, .int (v3)), (5, .int (v5)), (6, .int (v6))]) dX9_work_120 rfl rfl (by decide) rfl ?_
          refine mG.goto 368 dX9_work_123 (by decide) ?_
          refine mG.iinc 7 (u := v6 + 1) (lv2 := [(6, .int (v6 + 1)), (4, .int (v4 + 1)), (8, .int (S.1 (t + 3) ((v3 + ((2 : Int32) * v6)) + (1 : Int32)).toNatClampNeg)), (7, .int (S.1 (t + 3) (v3 + ((2 : Int32) * v6)).toNatClampNeg)), (0, .ref (t)), (2, .int (v2)), (3, .int (v3)), (5, .int (v5))]) dX9_work_368 rfl rfl (by decide) rfl ?_
          refine mG.goto 47 dX9_work_371 (by decide) ?_
          refine mG.sub (lv2 := [(0, .ref (t)), (2, .int (v2)), (3, .int (v3)), (4, .int (v4 + 1)), (5, .int (v5)), (6, .int (v6 + 1))]) [4, 5, 6, 1, 7, 0] rfl ?_
          exact ih S44 v2 v3 (v4 + 1) v5 (v6 + 1)  h
        · replace h := itp c47 h
          refine mG.iload 0 dX9_work_105 rfl ?_
          refine mG.i2l dX9_work_107 ?_
          refine mG.goto 119 dX9_work_108 (by decide) ?_
          obtain ⟨b45, h⟩ := ckp h
          obtain ⟨S46, hS46, h⟩ := stpp h
          refine mG.last dX9_work_119 (lk9_values ht) (ll9_values ht) (inbp b45) hS46 ?_
          refine mG.iinc 5 (u := v4 + 1) (lv2 := [(4, .int (v4 + 1)), (8, .int (S.1 (t + 3) ((v3 + ((2 : Int32) * v6)) + (1 : Int32)).toNatClampNeg)), (7, .int (S.1 (t + 3) (v3 + ((2 : Int32) * v6)).toNatClampNeg)), (0, .ref (t)), (2, .int (v2)), (3, .int (v3)), (5, .int (v5)), (6, .int (v6))]) dX9_work_120 rfl rfl (by decide) rfl ?_
          refine mG.goto 368 dX9_work_123 (by decide) ?_
          refine mG.iinc 7 (u := v6 + 1) (lv2 := [(6, .int (v6 + 1)), (4, .int (v4 + 1)), (8, .int (S.1 (t + 3) ((v3 + ((2 : Int32) * v6)) + (1 : Int32)).toNatClampNeg)), (7, .int (S.1 (t + 3) (v3 + ((2 : Int32) * v6)).toNatClampNeg)), (0, .ref (t)), (2, .int (v2)), (3, .int (v3)), (5, .int (v5))]) dX9_work_368 rfl rfl (by decide) rfl ?_
          refine mG.goto 47 dX9_work_371 (by decide) ?_
          refine mG.sub (lv2 := [(0, .ref (t)), (2, .int (v2)), (3, .int (v3)), (4, .int (v4 + 1)), (5, .int (v5)), (6, .int (v6 + 1))]) [4, 5, 6, 1, 7, 0] rfl ?_
          exact ih S46 v2 v3 (v4 + 1) v5 (v6 + 1)  h
def f_X9_work (F : Nat) (S : mS) (t : Nat) (a1 : Int32) : Option mS := ck (inb (2 : Int32) 2308) (ck (inb (2 : Int32) 2308) (ck (inb (((((705 : Int32) * (S.1 (t + 1) (2 : Int32).toNatClampNeg)) + (1 : Int32)) + ((4 : Int32) * a1)) + (1 : Int32)) 2820) (lX9_work_47 F  t a1 F S ((((705 : Int32) * (S.1 (t + 1) (2 : Int32).toNatClampNeg)) + (1 : Int32)) + ((4 : Int32) * a1)) (((705 : Int32) * (S.1 (t + 1) (2 : Int32).toNatClampNeg)) + (97 : Int32)) (0 : Int32) (0 : Int32) (S.1 (t + 3) (((((705 : Int32) * (S.1 (t + 1) (2 : Int32).toNatClampNeg)) + (1 : Int32)) + ((4 : Int32) * a1)) + (1 : Int32)).toNatClampNeg))))
set_option maxHeartbeats 4000000 in
set_option maxRecDepth 100000 in
theorem c_X9_work {F : Nat} {S : mS} {t : Nat} {a1 : Int32} {R : mS} (ht : kd0 t = 9) (h : f_X9_work F S t a1 = some R) : mCt μX9_work 3 0 0 E0 S [.ref (t), .int (a1)] (mQe R none) := by
  unfold f_X9_work at h
  refine mCt.of (by decide) (Nat.le_of_ble_eq_true rfl) ?_
  intro x
  refine mG.sipush (v := 705) dX9_work_0 (by decide) ?_
  refine mG.aload_n 0 dX9_work_3 rfl ?_
  refine mG.get (v := .ref (t + 1)) dX9_work_4 mfX9_7 ht (lr9_a ht) ?_
  refine mG.iconst (v := 2) dX9_work_7 rfl ?_
  obtain ⟨b1, h⟩ := ckp h
  refine mG.iald dX9_work_8 (lk9_a ht) (ll9_a ht) (inbp b1) ?_
  refine mG.imul dX9_work_9 ?_
  refine mG.iconst (v := 1) dX9_work_10 rfl ?_
  refine mG.iadd dX9_work_11 ?_
  refine mG.iconst (v := 4) dX9_work_12 rfl ?_
  refine mG.iload_n 1 dX9_work_13 rfl ?_
  refine mG.imul dX9_work_14 ?_
  refine mG.iadd dX9_work_15 ?_
  refine mG.istore_n (lv2 := [(2, .int ((((705 : Int32) * (S.1 (t + 1) (2 : Int32).toNatClampNeg)) + (1 : Int32)) + ((4 : Int32) * a1))), (0, .ref (t)), (1, .int (a1))]) dX9_work_16 rfl (by decide) rfl ?_
  refine mG.sipush (v := 705) dX9_work_17 (by decide) ?_
  refine mG.aload_n 1 dX9_work_20 rfl ?_
  refine mG.get (v := .ref (t + 1)) dX9_work_21 mfX9_7 ht (lr9_a ht) ?_
  refine mG.iconst (v := 2) dX9_work_24 rfl ?_
  obtain ⟨b2, h⟩ := ckp h
  refine mG.iald dX9_work_25 (lk9_a ht) (ll9_a ht) (inbp b2) ?_
  refine mG.imul dX9_work_26 ?_
  refine mG.bipush (v := 97) dX9_work_27 (by decide) ?_
  refine mG.iadd dX9_work_29 ?_
  refine mG.istore_n (lv2 := [(3, .int (((705 : Int32) * (S.1 (t + 1) (2 : Int32).toNatClampNeg)) + (97 : Int32))), (2, .int ((((705 : Int32) * (S.1 (t + 1) (2 : Int32).toNatClampNeg)) + (1 : Int32)) + ((4 : Int32) * a1))), (0, .ref (t)), (1, .int (a1))]) dX9_work_30 rfl (by decide) rfl ?_
  refine mG.iconst (v := 0) dX9_work_31 rfl ?_
  refine mG.istore (lv2 := [(4, .int 0), (3, .int (((705 : Int32) * (S.1 (t + 1) (2 : Int32).toNatClampNeg)) + (97 : Int32))), (2, .int ((((705 : Int32) * (S.1 (t + 1) (2 : Int32).toNatClampNeg)) + (1 : Int32)) + ((4 : Int32) * a1))), (0, .ref (t)), (1, .int (a1))]) dX9_work_32 (by decide) rfl ?_
  refine mG.iconst (v := 0) dX9_work_34 rfl ?_
  refine mG.istore (lv2 := [(5, .int 0), (4, .int 0), (3, .int (((705 : Int32) * (S.1 (t + 1) (2 : Int32).toNatClampNeg)) + (97 : Int32))), (2, .int ((((705 : Int32) * (S.1 (t + 1) (2 : Int32).toNatClampNeg)) + (1 : Int32)) + ((4 : Int32) * a1))), (0, .ref (t)), (1, .int (a1))]) dX9_work_35 (by decide) rfl ?_
  refine mG.aload_n 4 dX9_work_37 rfl ?_
  refine mG.get (v := .ref (t + 3)) dX9_work_38 mfX9_16 ht (lr9_texts ht) ?_
  refine mG.iload_n 3 dX9_work_41 rfl ?_
  refine mG.iconst (v := 1) dX9_work_42 rfl ?_
  refine mG.iadd dX9_work_43 ?_
  obtain ⟨b3, h⟩ := ckp h
  refine mG.iald dX9_work_44 (lk9_texts ht) (ll9_texts ht) (inbp b3) ?_
  refine mG.istore (lv2 := [(6, .int (S.1 (t + 3) (((((705 : Int32) * (S.1 (t + 1) (2 : Int32).toNatClampNeg)) + (1 : Int32)) + ((4 : Int32) * a1)) + (1 : Int32)).toNatClampNeg)), (5, .int 0), (4, .int 0), (3, .int (((705 : Int32) * (S.1 (t + 1) (2 : Int32).toNatClampNeg)) + (97 : Int32))), (2, .int ((((705 : Int32) * (S.1 (t + 1) (2 : Int32).toNatClampNeg)) + (1 : Int32)) + ((4 : Int32) * a1))), (0, .ref (t)), (1, .int (a1))]) dX9_work_45 (by decide) rfl ?_
  refine mG.sub (lv2 := [(0, .ref (t)), (2, .int ((((705 : Int32) * (S.1 (t + 1) (2 : Int32).toNatClampNeg)) + (1 : Int32)) + ((4 : Int32) * a1))), (3, .int (((705 : Int32) * (S.1 (t + 1) (2 : Int32).toNatClampNeg)) + (97 : Int32))), (4, .int 0), (5, .int 0), (6, .int (S.1 (t + 3) (((((705 : Int32) * (S.1 (t + 1) (2 : Int32).toNatClampNeg)) + (1 : Int32)) + ((4 : Int32) * a1)) + (1 : Int32)).toNatClampNeg))]) [5, 4, 3, 2, 1, 0] rfl ?_
  exact gX9_work_47 ht  F S ((((705 : Int32) * (S.1 (t + 1) (2 : Int32).toNatClampNeg)) + (1 : Int32)) + ((4 : Int32) * a1)) (((705 : Int32) * (S.1 (t + 1) (2 : Int32).toNatClampNeg)) + (97 : Int32)) (0 : Int32) (0 : Int32) (S.1 (t + 3) (((((705 : Int32) * (S.1 (t + 1) (2 : Int32).toNatClampNeg)) + (1 : Int32)) + ((4 : Int32) * a1)) + (1 : Int32)).toNatClampNeg)  h
theorem dX9_clauseOf_0 : decode cX9_clauseOf 0 = .ok (.iconst 0, 1) := by decide +kernel
theorem dX9_clauseOf_1 : decode cX9_clauseOf 1 = .ok (.istore_n 2, 1) := by decide +kernel
theorem dX9_clauseOf_2 : decode cX9_clauseOf 2 = .ok (.aload_n 0, 1) := by decide +kernel
theorem dX9_clauseOf_3 : decode cX9_clauseOf 3 = .ok (.getfield 7, 3) := by decide +kernel
theorem dX9_clauseOf_6 : decode cX9_clauseOf 6 = .ok (.iconst 2, 1) := by decide +kernel
theorem dX9_clauseOf_7 : decode cX9_clauseOf 7 = .ok (.iaload, 1) := by decide +kernel
theorem dX9_clauseOf_8 : decode cX9_clauseOf 8 = .ok (.ifCond .lt 55, 3) := by decide +kernel
theorem dX9_clauseOf_11 : decode cX9_clauseOf 11 = .ok (.iload_n 2, 1) := by decide +kernel
theorem dX9_clauseOf_12 : decode cX9_clauseOf 12 = .ok (.aload_n 0, 1) := by decide +kernel
theorem dX9_clauseOf_13 : decode cX9_clauseOf 13 = .ok (.getfield 16, 3) := by decide +kernel
theorem dX9_clauseOf_16 : decode cX9_clauseOf 16 = .ok (.sipush 705, 3) := by decide +kernel
theorem dX9_clauseOf_19 : decode cX9_clauseOf 19 = .ok (.aload_n 0, 1) := by decide +kernel
theorem dX9_clauseOf_20 : decode cX9_clauseOf 20 = .ok (.getfield 7, 3) := by decide +kernel
theorem dX9_clauseOf_23 : decode cX9_clauseOf 23 = .ok (.iconst 2, 1) := by decide +kernel
theorem dX9_clauseOf_24 : decode cX9_clauseOf 24 = .ok (.iaload, 1) := by decide +kernel
theorem dX9_clauseOf_25 : decode cX9_clauseOf 25 = .ok (.imul, 1) := by decide +kernel
theorem dX9_clauseOf_26 : decode cX9_clauseOf 26 = .ok (.iaload, 1) := by decide +kernel
theorem dX9_clauseOf_27 : decode cX9_clauseOf 27 = .ok (.if_icmp .ge 36, 3) := by decide +kernel
theorem dX9_clauseOf_30 : decode cX9_clauseOf 30 = .ok (.aload_n 0, 1) := by decide +kernel
theorem dX9_clauseOf_31 : decode cX9_clauseOf 31 = .ok (.getfield 16, 3) := by decide +kernel
theorem dX9_clauseOf_34 : decode cX9_clauseOf 34 = .ok (.sipush 705, 3) := by decide +kernel
theorem dX9_clauseOf_37 : decode cX9_clauseOf 37 = .ok (.aload_n 0, 1) := by decide +kernel
theorem dX9_clauseOf_38 : decode cX9_clauseOf 38 = .ok (.getfield 7, 3) := by decide +kernel
theorem dX9_clauseOf_41 : decode cX9_clauseOf 41 = .ok (.iconst 2, 1) := by decide +kernel
theorem dX9_clauseOf_42 : decode cX9_clauseOf 42 = .ok (.iaload, 1) := by decide +kernel
theorem dX9_clauseOf_43 : decode cX9_clauseOf 43 = .ok (.imul, 1) := by decide +kernel
theorem dX9_clauseOf_44 : decode cX9_clauseOf 44 = .ok (.iconst 1, 1) := by decide +kernel
theorem dX9_clauseOf_45 : decode cX9_clauseOf 45 = .ok (.iadd, 1) := by decide +kernel
theorem dX9_clauseOf_46 : decode cX9_clauseOf 46 = .ok (.iconst 4, 1) := by decide +kernel
theorem dX9_clauseOf_47 : decode cX9_clauseOf 47 = .ok (.iload_n 2, 1) := by decide +kernel
theorem dX9_clauseOf_48 : decode cX9_clauseOf 48 = .ok (.imul, 1) := by decide +kernel
theorem dX9_clauseOf_49 : decode cX9_clauseOf 49 = .ok (.iadd, 1) := by decide +kernel
theorem dX9_clauseOf_50 : decode cX9_clauseOf 50 = .ok (.iaload, 1) := by decide +kernel
theorem dX9_clauseOf_51 : decode cX9_clauseOf 51 = .ok (.iload_n 1, 1) := by decide +kernel
theorem dX9_clauseOf_52 : decode cX9_clauseOf 52 = .ok (.if_icmp .ne 5, 3) := by decide +kernel
theorem dX9_clauseOf_55 : decode cX9_clauseOf 55 = .ok (.iload_n 2, 1) := by decide +kernel
theorem dX9_clauseOf_56 : decode cX9_clauseOf 56 = .ok (.ireturn, 1) := by decide +kernel
theorem dX9_clauseOf_57 : decode cX9_clauseOf 57 = .ok (.iinc 2 1, 3) := by decide +kernel
theorem dX9_clauseOf_60 : decode cX9_clauseOf 60 = .ok (.goto (-58), 3) := by decide +kernel
theorem dX9_clauseOf_63 : decode cX9_clauseOf 63 = .ok (.iconst (-1), 1) := by decide +kernel
theorem dX9_clauseOf_64 : decode cX9_clauseOf 64 = .ok (.ireturn, 1) := by decide +kernel
def lX9_clauseOf_2 (F : Nat)  (t : Nat) (a1 : Int32) : Nat → mS → Int32 → Option Int32
  | 0, _, _ => none
  | n + 1, S0, v2 => ck (inb (2 : Int32) 2308) (if (S0.1 (t + 1) (2 : Int32).toNatClampNeg) < 0 then (some (-1 : Int32)) else (ck (inb (2 : Int32) 2308) (ck (inb ((705 : Int32) * (S0.1 (t + 1) (2 : Int32).toNatClampNeg)) 2820) (if (S0.1 (t + 3) ((705 : Int32) * (S0.1 (t + 1) (2 : Int32).toNatClampNeg)).toNatClampNeg) ≤ v2 then (some (-1 : Int32)) else (ck (inb (2 : Int32) 2308) (ck (inb ((((705 : Int32) * (S0.1 (t + 1) (2 : Int32).toNatClampNeg)) + (1 : Int32)) + ((4 : Int32) * v2)) 2820) (if (S0.1 (t + 3) ((((705 : Int32) * (S0.1 (t + 1) (2 : Int32).toNatClampNeg)) + (1 : Int32)) + ((4 : Int32) * v2)).toNatClampNeg) = a1 then (some v2) else (lX9_clauseOf_2 F  t a1 n S0 (v2 + 1)))))))))
set_option maxHeartbeats 4000000 in
set_option maxRecDepth 100000 in
theorem gX9_clauseOf_2 {x : mX} {F : Nat} {t : Nat} {a1 : Int32} {S0 : mS}   {R : Int32} (ht : kd0 t = 9)  : ∀ (n : Nat) (v2 : Int32), lX9_clauseOf_2 F  t a1 n S0 v2 = some R → mG x μX9_clauseOf 1 0 0 (mQe S0 (some (.int R))) 0 0 E0 S0 2 [(0, .ref (t)), (1, .int (a1)), (2, .int (v2))] [] := by
  intro n
  induction n with
  | zero =>
    intro v2 h
    cases h
  | succ n ih =>
    intro v2 h
    unfold lX9_clauseOf_2 at h
    refine mG.aload_n 0 dX9_clauseOf_2 rfl ?_
    refine mG.get (v := .ref (t + 1)) dX9_clauseOf_3 mfX9_7 ht (lr9_a ht) ?_
    refine mG.iconst (v := 2) dX9_clauseOf_6 rfl ?_
    obtain ⟨b1, h⟩ := ckp h
    refine mG.iald dX9_clauseOf_7 (lk9_a ht) (ll9_a ht) (inbp b1) ?_
    refine mG.if_lt 63 dX9_clauseOf_8 (by decide) (fun c8 => ?_) (fun c8 => ?_)
    · replace h := itp c8 h
      refine mG.iconst (v := (-1)) dX9_clauseOf_63 rfl ?_
      obtain rfl := Option.some.inj h
      exact mG.iret dX9_clauseOf_64 rfl ⟨rfl, rfl, rfl⟩
    · replace h := itn c8 h
      refine mG.iload_n 2 dX9_clauseOf_11 rfl ?_
      refine mG.aload_n 0 dX9_clauseOf_12 rfl ?_
      refine mG.get (v := .ref (t + 3)) dX9_clauseOf_13 mfX9_16 ht (lr9_texts ht) ?_
      refine mG.sipush (v := 705) dX9_clauseOf_16 (by decide) ?_
      refine mG.aload_n 0 dX9_clauseOf_19 rfl ?_
      refine mG.get (v := .ref (t + 1)) dX9_clauseOf_20 mfX9_7 ht (lr9_a ht) ?_
      refine mG.iconst (v := 2) dX9_clauseOf_23 rfl ?_
      obtain ⟨b2, h⟩ := ckp h
      refine mG.iald dX9_clauseOf_24 (lk9_a ht) (ll9_a ht) (inbp b2) ?_
      refine mG.imul dX9_clauseOf_25 ?_
      obtain ⟨b3, h⟩ := ckp h
      refine mG.iald dX9_clauseOf_26 (lk9_texts ht) (ll9_texts ht) (inbp b3) ?_
      refine mG.icmp_ge 63 dX9_clauseOf_27 (by decide) (fun c7 => ?_) (fun c7 => ?_)
      · replace h := itp c7 h
        refine mG.iconst (v := (-1)) dX9_clauseOf_63 rfl ?_
        obtain rfl := Option.some.inj h
        exact mG.iret dX9_clauseOf_64 rfl ⟨rfl, rfl, rfl⟩
      · replace h := itn c7 h
        refine mG.aload_n 0 dX9_clauseOf_30 rfl ?_
        refine mG.get (v := .ref (t + 3)) dX9_clauseOf_31 mfX9_16 ht (lr9_texts ht) ?_
        refine mG.sipush (v := 705) dX9_clauseOf_34 (by decide) ?_
        refine mG.aload_n 0 dX9_clauseOf_37 rfl ?_
        refine mG.get (v := .ref (t + 1)) dX9_clauseOf_38 mfX9_7 ht (lr9_a ht) ?_
        refine mG.iconst (v := 2) dX9_clauseOf_41 rfl ?_
        obtain ⟨b4, h⟩ := ckp h
        refine mG.iald dX9_clauseOf_42 (lk9_a ht) (ll9_a ht) (inbp b4) ?_
        refine mG.imul dX9_clauseOf_43 ?_
        refine mG.iconst (v := 1) dX9_clauseOf_44 rfl ?_
        refine mG.iadd dX9_clauseOf_45 ?_
        refine mG.iconst (v := 4) dX9_clauseOf_46 rfl ?_
        refine mG.iload_n 2 dX9_clauseOf_47 rfl ?_
        refine mG.imul dX9_clauseOf_48 ?_
        refine mG.iadd dX9_clauseOf_49 ?_
        obtain ⟨b5, h⟩ := ckp h
        refine mG.iald dX9_clauseOf_50 (lk9_texts ht) (ll9_texts ht) (inbp b5) ?_
        refine mG.iload_n 1 dX9_clauseOf_51 rfl ?_
        refine mG.icmp_ne 57 dX9_clauseOf_52 (by decide) (fun c6 => ?_) (fun c6 => ?_)
        · replace h := itn c6 h
          refine mG.iinc 2 (u := v2 + 1) (lv2 := [(2, .int (v2 + 1)), (0, .ref (t)), (1, .int (a1))]) dX9_clauseOf_57 rfl rfl (by decide) rfl ?_
          refine mG.goto 2 dX9_clauseOf_60 (by decide) ?_
          refine mG.sub (lv2 := [(0, .ref (t)), (1, .int (a1)), (2, .int (v2 + 1))]) [1, 2, 0] rfl ?_
          exact ih  (v2 + 1)  h
        · replace h := itp c6 h
          refine mG.iload_n 2 dX9_clauseOf_55 rfl ?_
          obtain rfl := Option.some.inj h
          exact mG.iret dX9_clauseOf_56 rfl ⟨rfl, rfl, rfl⟩
def f_X9_clauseOf (F : Nat) (S0 : mS) (t : Nat) (a1 : Int32) : Option Int32 := lX9_clauseOf_2 F  t a1 F S0 (0 : Int32)
set_option maxHeartbeats 4000000 in
set_option maxRecDepth 100000 in
theorem c_X9_clauseOf {F : Nat} {S0 : mS} {t : Nat} {a1 : Int32} {R : Int32} (ht : kd0 t = 9) (h : f_X9_clauseOf F S0 t a1 = some R) : mCt μX9_clauseOf 1 0 0 E0 S0 [.ref (t), .int (a1)] (mQe S0 (some (.int R))) := by
  unfold f_X9_clauseOf at h
  refine mCt.of (by decide) (Nat.le_of_ble_eq_true rfl) ?_
  intro x
  refine mG.iconst (v := 0) dX9_clauseOf_0 rfl ?_
  refine mG.istore_n (lv2 := [(2, .int 0), (0, .ref (t)), (1, .int (a1))]) dX9_clauseOf_1 rfl (by decide) rfl ?_
  refine mG.sub (lv2 := [(0, .ref (t)), (1, .int (a1)), (2, .int 0)]) [1, 2, 0] rfl ?_
  exact gX9_clauseOf_2 ht  F  (0 : Int32)  h
theorem dX9_says_0 : decode cX9_says 0 = .ok (.aload_n 0, 1) := by decide +kernel
theorem dX9_says_1 : decode cX9_says 1 = .ok (.iload_n 1, 1) := by decide +kernel
theorem dX9_says_2 : decode cX9_says 2 = .ok (.invokevirtual 293, 3) := by decide +kernel
theorem dX9_says_5 : decode cX9_says 5 = .ok (.istore_n 3, 1) := by decide +kernel
theorem dX9_says_6 : decode cX9_says 6 = .ok (.iload_n 3, 1) := by decide +kernel
theorem dX9_says_7 : decode cX9_says 7 = .ok (.ifCond .ge 5, 3) := by decide +kernel
theorem dX9_says_10 : decode cX9_says 10 = .ok (.iload_n 2, 1) := by decide +kernel
theorem dX9_says_11 : decode cX9_says 11 = .ok (.ireturn, 1) := by decide +kernel
theorem dX9_says_12 : decode cX9_says 12 = .ok (.aload_n 0, 1) := by decide +kernel
theorem dX9_says_13 : decode cX9_says 13 = .ok (.iload_n 3, 1) := by decide +kernel
theorem dX9_says_14 : decode cX9_says 14 = .ok (.invokevirtual 296, 3) := by decide +kernel
theorem dX9_says_17 : decode cX9_says 17 = .ok (.aload_n 0, 1) := by decide +kernel
theorem dX9_says_18 : decode cX9_says 18 = .ok (.getfield 35, 3) := by decide +kernel
theorem dX9_says_21 : decode cX9_says 21 = .ok (.iconst 0, 1) := by decide +kernel
theorem dX9_says_22 : decode cX9_says 22 = .ok (.laload, 1) := by decide +kernel
theorem dX9_says_23 : decode cX9_says 23 = .ok (.iconst 0, 1) := by decide +kernel
theorem dX9_says_24 : decode cX9_says 24 = .ok (.bipush 99, 2) := by decide +kernel
theorem dX9_says_26 : decode cX9_says 26 = .ok (.invokestatic 299, 3) := by decide +kernel
theorem dX9_says_29 : decode cX9_says 29 = .ok (.ireturn, 1) := by decide +kernel
def f_X9_says (F : Nat) (S : mS) (t : Nat) (a1 : Int32) (a2 : Int32) : Option (mS × Int32) := bd (f_X9_clauseOf F S t a1) fun q1 => if 0 ≤ q1 then (bd (f_X9_work F S t q1) fun q2 => ck (inb (0 : Int32) 330) (some (q2, f_X9_cut q2 (q2.2 (t + 7) (0 : Int32).toNatClampNeg) (0 : Int32) (99 : Int32)))) else (some (S, a2))
set_option maxHeartbeats 4000000 in
set_option maxRecDepth 100000 in
theorem c_X9_says {F : Nat} {S : mS} {t : Nat} {a1 : Int32} {a2 : Int32} {R : mS × Int32} (ht : kd0 t = 9) (h : f_X9_says F S t a1 a2 = some R) : mCt μX9_says 4 0 0 E0 S [.ref (t), .int (a1), .int (a2)] (mQe R.1 (some (.int R.2))) := by
  unfold f_X9_says at h
  refine mCt.of (by decide) (Nat.le_of_ble_eq_true rfl) ?_
  intro x
  refine mG.aload_n 0 dX9_says_0 rfl ?_
  refine mG.iload_n 1 dX9_says_1 rfl ?_
  obtain ⟨q1, hq1, h⟩ := bdp h
  refine mG.callV0 (as := [.int (a1)]) (st := []) (S2 := S) (r := some (.int (q1))) dX9_says_2 mvX9_clauseOf wk34_0 rfl ht rfl (by decide) (Nat.le_of_ble_eq_true rfl) (c_X9_clauseOf ht hq1) ?_
  refine mG.istore_n (lv2 := [(3, .int (q1)), (0, .ref (t)), (1, .int (a1)), (2, .int (a2))]) dX9_says_5 rfl (by decide) rfl ?_
  refine mG.iload_n 0 dX9_says_6 rfl ?_
  refine mG.if_ge 12 dX9_says_7 (by decide) (fun c4 => ?_) (fun c4 => ?_)
  · replace h := itp c4 h
    refine mG.aload_n 1 dX9_says_12 rfl ?_
    refine mG.iload_n 0 dX9_says_13 rfl ?_
    obtain ⟨q2, hq2, h⟩ := bdp h
    refine mG.callV0 (as := [.int (q1)]) (st := []) (S2 := q2) (r := none) dX9_says_14 mvX9_work wk34_23 rfl ht rfl (by decide) (Nat.le_of_ble_eq_true rfl) (c_X9_work ht hq2) ?_
    refine mG.aload_n 1 dX9_says_17 rfl ?_
    refine mG.get (v := .ref (t + 7)) dX9_says_18 mfX9_35 ht (lr9_values ht) ?_
    refine mG.iconst (v := 0) dX9_says_21 rfl ?_
    obtain ⟨b3, h⟩ := ckp h
    refine mG.lald dX9_says_22 (lk9_values ht) (ll9_values ht) (inbp b3) ?_
    refine mG.iconst (v := 0) dX9_says_23 rfl ?_
    refine mG.bipush (v := 99) dX9_says_24 (by decide) ?_
    refine mG.callS0 (as := [.long (q2.2 (t + 7) (0 : Int32).toNatClampNeg), .int 0, .int 99]) (st := []) (S2 := q2) (r := some (.int (f_X9_cut q2 (q2.2 (t + 7) (0 : Int32).toNatClampNeg) (0 : Int32) (99 : Int32)))) dX9_says_26 mbX9_cut wk36_2 wk36_1 rfl rfl (by decide) (Nat.le_of_ble_eq_true rfl) (c_X9_cut  rfl) ?_
    obtain rfl := Option.some.inj h
    exact mG.iret dX9_says_29 rfl ⟨rfl, rfl, rfl⟩
  · replace h := itn c4 h
    refine mG.iload_n 3 dX9_says_10 rfl ?_
    obtain rfl := Option.some.inj h
    exact mG.iret dX9_says_11 rfl ⟨rfl, rfl, rfl⟩
theorem dX9_openOn_0 : decode cX9_openOn 0 = .ok (.iconst 0, 1) := by decide +kernel
theorem dX9_openOn_1 : decode cX9_openOn 1 = .ok (.istore_n 2, 1) := by decide +kernel
theorem dX9_openOn_2 : decode cX9_openOn 2 = .ok (.iconst 0, 1) := by decide +kernel
theorem dX9_openOn_3 : decode cX9_openOn 3 = .ok (.istore_n 3, 1) := by decide +kernel
theorem dX9_openOn_4 : decode cX9_openOn 4 = .ok (.iload_n 3, 1) := by decide +kernel
theorem dX9_openOn_5 : decode cX9_openOn 5 = .ok (.aload_n 0, 1) := by decide +kernel
theorem dX9_openOn_6 : decode cX9_openOn 6 = .ok (.getfield 7, 3) := by decide +kernel
theorem dX9_openOn_9 : decode cX9_openOn 9 = .ok (.iconst 0, 1) := by decide +kernel
theorem dX9_openOn_10 : decode cX9_openOn 10 = .ok (.iaload, 1) := by decide +kernel
theorem dX9_openOn_11 : decode cX9_openOn 11 = .ok (.if_icmp .ge 26, 3) := by decide +kernel
theorem dX9_openOn_14 : decode cX9_openOn 14 = .ok (.iload_n 2, 1) := by decide +kernel
theorem dX9_openOn_15 : decode cX9_openOn 15 = .ok (.aload_n 0, 1) := by decide +kernel
theorem dX9_openOn_16 : decode cX9_openOn 16 = .ok (.iload_n 3, 1) := by decide +kernel
theorem dX9_openOn_17 : decode cX9_openOn 17 = .ok (.iload_n 1, 1) := by decide +kernel
theorem dX9_openOn_18 : decode cX9_openOn 18 = .ok (.invokevirtual 302, 3) := by decide +kernel
theorem dX9_openOn_21 : decode cX9_openOn 21 = .ok (.ifCond .eq 7, 3) := by decide +kernel
theorem dX9_openOn_24 : decode cX9_openOn 24 = .ok (.iconst 1, 1) := by decide +kernel
theorem dX9_openOn_25 : decode cX9_openOn 25 = .ok (.goto 4, 3) := by decide +kernel
theorem dX9_openOn_28 : decode cX9_openOn 28 = .ok (.iconst 0, 1) := by decide +kernel
theorem dX9_openOn_29 : decode cX9_openOn 29 = .ok (.iadd, 1) := by decide +kernel
theorem dX9_openOn_30 : decode cX9_openOn 30 = .ok (.istore_n 2, 1) := by decide +kernel
theorem dX9_openOn_31 : decode cX9_openOn 31 = .ok (.iinc 3 1, 3) := by decide +kernel
theorem dX9_openOn_34 : decode cX9_openOn 34 = .ok (.goto (-30), 3) := by decide +kernel
theorem dX9_openOn_37 : decode cX9_openOn 37 = .ok (.iload_n 2, 1) := by decide +kernel
theorem dX9_openOn_38 : decode cX9_openOn 38 = .ok (.ireturn, 1) := by decide +kernel
def lX9_openOn_4 (F : Nat)  (t : Nat) (a1 : Int32) : Nat → mS → Int32 → Int32 → Option Int32
  | 0, _, _, _ => none
  | n + 1, S0, v2, v3 => ck (inb (0 : Int32) 2308) (if (S0.1 (t + 1) (0 : Int32).toNatClampNeg) ≤ v3 then (some v2) else (bd (f_X9_isOpen F S0 t v3 a1) fun q2 => if q2 = true then (lX9_openOn_4 F  t a1 n S0 (v2 + (1 : Int32)) (v3 + 1)) else (lX9_openOn_4 F  t a1 n S0 (v2 + (0 : Int32)) (v3 + 1))))
set_option maxHeartbeats 4000000 in
set_option maxRecDepth 100000 in
theorem gX9_openOn_4 {x : mX} {F : Nat} {t : Nat} {a1 : Int32} {S0 : mS}   {R : Int32} (ht : kd0 t = 9)  : ∀ (n : Nat) (v2 : Int32) (v3 : Int32), lX9_openOn_4 F  t a1 n S0 v2 v3 = some R → mG x μX9_openOn 5 0 0 (mQe S0 (some (.int R))) 0 0 E0 S0 4 [(0, .ref (t)), (1, .int (a1)), (2, .int (v2)), (3, .int (v3))] [] := by
  intro n
  induction n with
  | zero =>
    intro v2 v3 h
    cases h
  | succ n ih =>
    intro v2 v3 h
    unfold lX9_openOn_4 at h
    refine mG.iload_n 3 dX9_openOn_4 rfl ?_
    refine mG.aload_n 0 dX9_openOn_5 rfl ?_
    refine mG.get (v := .ref (t + 1)) dX9_openOn_6 mfX9_7 ht (lr9_a ht) ?_
    refine mG.iconst (v := 0) dX9_openOn_9 rfl ?_
    obtain ⟨b1, h⟩ := ckp h
    refine mG.iald dX9_openOn_10 (lk9_a ht) (ll9_a ht) (inbp b1) ?_
    refine mG.icmp_ge 37 dX9_openOn_11 (by decide) (fun c4 => ?_) (fun c4 => ?_)
    · replace h := itp c4 h
      refine mG.iload_n 2 dX9_openOn_37 rfl ?_
      obtain rfl := Option.some.inj h
      exact mG.iret dX9_openOn_38 rfl ⟨rfl, rfl, rfl⟩
    · replace h := itn c4 h
      refine mG.iload_n 2 dX9_openOn_14 rfl ?_
      refine mG.aload_n 0 dX9_openOn_15 rfl ?_
      refine mG.iload_n 3 dX9_openOn_16 rfl ?_
      refine mG.iload_n 1 dX9_openOn_17 rfl ?_
      obtain ⟨q2, hq2, h⟩ := bdp h
      refine mG.callV0 (as := [.int (v3), .int (a1)]) (st := [.int (v2)]) (S2 := S0) (r := some (.int (bI (q2)))) dX9_openOn_18 mvX9_isOpen wk34_15 rfl ht rfl (by decide) (Nat.le_of_ble_eq_true rfl) (c_X9_isOpen ht hq2) ?_
      refine mG.ifz_eq (b := q2) 28 dX9_openOn_21 (by decide) (fun c3 => ?_) (fun c3 => ?_)
      · replace h := itn c3 h
        refine mG.iconst (v := 0) dX9_openOn_28 rfl ?_
        refine mG.iadd dX9_openOn_29 ?_
        refine mG.istore_n (lv2 := [(2, .int (v2 + (0 : Int32))), (0, .ref (t)), (1, .int (a1)), (3, .int (v3))]) dX9_openOn_30 rfl (by decide) rfl ?_
        refine mG.iinc 3 (u := v3 + 1) (lv2 := [(3, .int (v3 + 1)), (2, .int (v2 + (0 : Int32))), (0, .ref (t)), (1, .int (a1))]) dX9_openOn_31 rfl rfl (by decide) rfl ?_
        refine mG.goto 4 dX9_openOn_34 (by decide) ?_
        refine mG.sub (lv2 := [(0, .ref (t)), (1, .int (a1)), (2, .int (v2 + (0 : Int32))), (3, .int (v3 + 1))]) [2, 3, 1, 0] rfl ?_
        exact ih  (v2 + (0 : Int32)) (v3 + 1)  h
      · replace h := itp c3 h
        refine mG.iconst (v := 1) dX9_openOn_24 rfl ?_
        refine mG.goto 29 dX9_openOn_25 (by decide) ?_
        refine mG.iadd dX9_openOn_29 ?_
        refine mG.istore_n (lv2 := [(2, .int (v2 + (1 : Int32))), (0, .ref (t)), (1, .int (a1)), (3, .int (v3))]) dX9_openOn_30 rfl (by decide) rfl ?_
        refine mG.iinc 3 (u := v3 + 1) (lv2 := [(3, .int (v3 + 1)), (2, .int (v2 + (1 : Int32))), (0, .ref (t)), (1, .int (a1))]) dX9_openOn_31 rfl rfl (by decide) rfl ?_
        refine mG.goto 4 dX9_openOn_34 (by decide) ?_
        refine mG.sub (lv2 := [(0, .ref (t)), (1, .int (a1)), (2, .int (v2 + (1 : Int32))), (3, .int (v3 + 1))]) [2, 3, 1, 0] rfl ?_
        exact ih  (v2 + (1 : Int32)) (v3 + 1)  h
def f_X9_openOn (F : Nat) (S0 : mS) (t : Nat) (a1 : Int32) : Option Int32 := lX9_openOn_4 F  t a1 F S0 (0 : Int32) (0 : Int32)
set_option maxHeartbeats 4000000 in
set_option maxRecDepth 100000 in
theorem c_X9_openOn {F : Nat} {S0 : mS} {t : Nat} {a1 : Int32} {R : Int32} (ht : kd0 t = 9) (h : f_X9_openOn F S0 t a1 = some R) : mCt μX9_openOn 5 0 0 E0 S0 [.ref (t), .int (a1)] (mQe S0 (some (.int R))) := by
  unfold f_X9_openOn at h
  refine mCt.of (by decide) (Nat.le_of_ble_eq_true rfl) ?_
  intro x
  refine mG.iconst (v := 0) dX9_openOn_0 rfl ?_
  refine mG.istore_n (lv2 := [(2, .int 0), (0, .ref (t)), (1, .int (a1))]) dX9_openOn_1 rfl (by decide) rfl ?_
  refine mG.iconst (v := 0) dX9_openOn_2 rfl ?_
  refine mG.istore_n (lv2 := [(3, .int 0), (2, .int 0), (0, .ref (t)), (1, .int (a1))]) dX9_openOn_3 rfl (by decide) rfl ?_
  refine mG.sub (lv2 := [(0, .ref (t)), (1, .int (a1)), (2, .int 0), (3, .int 0)]) [2, 3, 1, 0] rfl ?_
  exact gX9_openOn_4 ht  F  (0 : Int32) (0 : Int32)  h
theorem dX9_besideOn_0 : decode cX9_besideOn 0 = .ok (.aload_n 0, 1) := by decide +kernel
theorem dX9_besideOn_1 : decode cX9_besideOn 1 = .ok (.iload_n 1, 1) := by decide +kernel
theorem dX9_besideOn_2 : decode cX9_besideOn 2 = .ok (.iconst 1, 1) := by decide +kernel
theorem dX9_besideOn_3 : decode cX9_besideOn 3 = .ok (.isub, 1) := by decide +kernel
theorem dX9_besideOn_4 : decode cX9_besideOn 4 = .ok (.iload_n 2, 1) := by decide +kernel
theorem dX9_besideOn_5 : decode cX9_besideOn 5 = .ok (.invokevirtual 302, 3) := by decide +kernel
theorem dX9_besideOn_8 : decode cX9_besideOn 8 = .ok (.ifCond .eq 7, 3) := by decide +kernel
theorem dX9_besideOn_11 : decode cX9_besideOn 11 = .ok (.iconst 1, 1) := by decide +kernel
theorem dX9_besideOn_12 : decode cX9_besideOn 12 = .ok (.goto 4, 3) := by decide +kernel
theorem dX9_besideOn_15 : decode cX9_besideOn 15 = .ok (.iconst 0, 1) := by decide +kernel
theorem dX9_besideOn_16 : decode cX9_besideOn 16 = .ok (.aload_n 0, 1) := by decide +kernel
theorem dX9_besideOn_17 : decode cX9_besideOn 17 = .ok (.iload_n 1, 1) := by decide +kernel
theorem dX9_besideOn_18 : decode cX9_besideOn 18 = .ok (.iconst 1, 1) := by decide +kernel
theorem dX9_besideOn_19 : decode cX9_besideOn 19 = .ok (.iadd, 1) := by decide +kernel
theorem dX9_besideOn_20 : decode cX9_besideOn 20 = .ok (.iload_n 2, 1) := by decide +kernel
theorem dX9_besideOn_21 : decode cX9_besideOn 21 = .ok (.invokevirtual 302, 3) := by decide +kernel
theorem dX9_besideOn_24 : decode cX9_besideOn 24 = .ok (.ifCond .eq 7, 3) := by decide +kernel
theorem dX9_besideOn_27 : decode cX9_besideOn 27 = .ok (.iconst 1, 1) := by decide +kernel
theorem dX9_besideOn_28 : decode cX9_besideOn 28 = .ok (.goto 4, 3) := by decide +kernel
theorem dX9_besideOn_31 : decode cX9_besideOn 31 = .ok (.iconst 0, 1) := by decide +kernel
theorem dX9_besideOn_32 : decode cX9_besideOn 32 = .ok (.iadd, 1) := by decide +kernel
theorem dX9_besideOn_33 : decode cX9_besideOn 33 = .ok (.ireturn, 1) := by decide +kernel
def f_X9_besideOn (F : Nat) (S0 : mS) (t : Nat) (a1 : Int32) (a2 : Int32) : Option Int32 := bd (f_X9_isOpen F S0 t (a1 - (1 : Int32)) a2) fun q1 => if q1 = true then (bd (f_X9_isOpen F S0 t (a1 + (1 : Int32)) a2) fun q4 => if q4 = true then (some ((1 : Int32) + (1 : Int32))) else (some ((1 : Int32) + (0 : Int32)))) else (bd (f_X9_isOpen F S0 t (a1 + (1 : Int32)) a2) fun q2 => if q2 = true then (some ((0 : Int32) + (1 : Int32))) else (some ((0 : Int32) + (0 : Int32))))
set_option maxHeartbeats 4000000 in
set_option maxRecDepth 100000 in
theorem c_X9_besideOn {F : Nat} {S0 : mS} {t : Nat} {a1 : Int32} {a2 : Int32} {R : Int32} (ht : kd0 t = 9) (h : f_X9_besideOn F S0 t a1 a2 = some R) : mCt μX9_besideOn 5 0 0 E0 S0 [.ref (t), .int (a1), .int (a2)] (mQe S0 (some (.int R))) := by
  unfold f_X9_besideOn at h
  refine mCt.of (by decide) (Nat.le_of_ble_eq_true rfl) ?_
  intro x
  refine mG.aload_n 0 dX9_besideOn_0 rfl ?_
  refine mG.iload_n 1 dX9_besideOn_1 rfl ?_
  refine mG.iconst (v := 1) dX9_besideOn_2 rfl ?_
  refine mG.isub dX9_besideOn_3 ?_
  refine mG.iload_n 2 dX9_besideOn_4 rfl ?_
  obtain ⟨q1, hq1, h⟩ := bdp h
  refine mG.callV0 (as := [.int (a1 - (1 : Int32)), .int (a2)]) (st := []) (S2 := S0) (r := some (.int (bI (q1)))) dX9_besideOn_5 mvX9_isOpen wk34_15 rfl ht rfl (by decide) (Nat.le_of_ble_eq_true rfl) (c_X9_isOpen ht hq1) ?_
  refine mG.ifz_eq (b := q1) 15 dX9_besideOn_8 (by decide) (fun c6 => ?_) (fun c6 => ?_)
  · replace h := itn c6 h
    refine mG.iconst (v := 0) dX9_besideOn_15 rfl ?_
    refine mG.aload_n 0 dX9_besideOn_16 rfl ?_
    refine mG.iload_n 1 dX9_besideOn_17 rfl ?_
    refine mG.iconst (v := 1) dX9_besideOn_18 rfl ?_
    refine mG.iadd dX9_besideOn_19 ?_
    refine mG.iload_n 2 dX9_besideOn_20 rfl ?_
    obtain ⟨q2, hq2, h⟩ := bdp h
    refine mG.callV0 (as := [.int (a1 + (1 : Int32)), .int (a2)]) (st := [.int 0]) (S2 := S0) (r := some (.int (bI (q2)))) dX9_besideOn_21 mvX9_isOpen wk34_15 rfl ht rfl (by decide) (Nat.le_of_ble_eq_true rfl) (c_X9_isOpen ht hq2) ?_
    refine mG.ifz_eq (b := q2) 31 dX9_besideOn_24 (by decide) (fun c3 => ?_) (fun c3 => ?_)
    · replace h := itn c3 h
      refine mG.iconst (v := 0) dX9_besideOn_31 rfl ?_
      refine mG.iadd dX9_besideOn_32 ?_
      obtain rfl := Option.some.inj h
      exact mG.iret dX9_besideOn_33 rfl ⟨rfl, rfl, rfl⟩
    · replace h := itp c3 h
      refine mG.iconst (v := 1) dX9_besideOn_27 rfl ?_
      refine mG.goto 32 dX9_besideOn_28 (by decide) ?_
      refine mG.iadd dX9_besideOn_32 ?_
      obtain rfl := Option.some.inj h
      exact mG.iret dX9_besideOn_33 rfl ⟨rfl, rfl, rfl⟩
  · replace h := itp c6 h
    refine mG.iconst (v := 1) dX9_besideOn_11 rfl ?_
    refine mG.goto 16 dX9_besideOn_12 (by decide) ?_
    refine mG.aload_n 0 dX9_besideOn_16 rfl ?_
    refine mG.iload_n 1 dX9_besideOn_17 rfl ?_
    refine mG.iconst (v := 1) dX9_besideOn_18 rfl ?_
    refine mG.iadd dX9_besideOn_19 ?_
    refine mG.iload_n 2 dX9_besideOn_20 rfl ?_
    obtain ⟨q4, hq4, h⟩ := bdp h
    refine mG.callV0 (as := [.int (a1 + (1 : Int32)), .int (a2)]) (st := [.int 1]) (S2 := S0) (r := some (.int (bI (q4)))) dX9_besideOn_21 mvX9_isOpen wk34_15 rfl ht rfl (by decide) (Nat.le_of_ble_eq_true rfl) (c_X9_isOpen ht hq4) ?_
    refine mG.ifz_eq (b := q4) 31 dX9_besideOn_24 (by decide) (fun c5 => ?_) (fun c5 => ?_)
    · replace h := itn c5 h
      refine mG.iconst (v := 0) dX9_besideOn_31 rfl ?_
      refine mG.iadd dX9_besideOn_32 ?_
      obtain rfl := Option.some.inj h
      exact mG.iret dX9_besideOn_33 rfl ⟨rfl, rfl, rfl⟩
    · replace h := itp c5 h
      refine mG.iconst (v := 1) dX9_besideOn_27 rfl ?_
      refine mG.goto 32 dX9_besideOn_28 (by decide) ?_
      refine mG.iadd dX9_besideOn_32 ?_
      obtain rfl := Option.some.inj h
      exact mG.iret dX9_besideOn_33 rfl ⟨rfl, rfl, rfl⟩
theorem dX9_name_0 : decode cX9_name 0 = .ok (.aload_n 0, 1) := by decide +kernel
theorem dX9_name_1 : decode cX9_name 1 = .ok (.getfield 32, 3) := by decide +kernel
theorem dX9_name_4 : decode cX9_name 4 = .ok (.iconst 0, 1) := by decide +kernel
theorem dX9_name_5 : decode cX9_name 5 = .ok (.iload_n 2, 1) := by decide +kernel
theorem dX9_name_6 : decode cX9_name 6 = .ok (.iastore, 1) := by decide +kernel
theorem dX9_name_7 : decode cX9_name 7 = .ok (.aload_n 0, 1) := by decide +kernel
theorem dX9_name_8 : decode cX9_name 8 = .ok (.getfield 32, 3) := by decide +kernel
theorem dX9_name_11 : decode cX9_name 11 = .ok (.iconst 1, 1) := by decide +kernel
theorem dX9_name_12 : decode cX9_name 12 = .ok (.iload_n 2, 1) := by decide +kernel
theorem dX9_name_13 : decode cX9_name 13 = .ok (.bipush 20, 2) := by decide +kernel
theorem dX9_name_15 : decode cX9_name 15 = .ok (.irem, 1) := by decide +kernel
theorem dX9_name_16 : decode cX9_name 16 = .ok (.iastore, 1) := by decide +kernel
theorem dX9_name_17 : decode cX9_name 17 = .ok (.aload_n 0, 1) := by decide +kernel
theorem dX9_name_18 : decode cX9_name 18 = .ok (.getfield 32, 3) := by decide +kernel
theorem dX9_name_21 : decode cX9_name 21 = .ok (.iconst 2, 1) := by decide +kernel
theorem dX9_name_22 : decode cX9_name 22 = .ok (.iload_n 1, 1) := by decide +kernel
theorem dX9_name_23 : decode cX9_name 23 = .ok (.iastore, 1) := by decide +kernel
theorem dX9_name_24 : decode cX9_name 24 = .ok (.aload_n 0, 1) := by decide +kernel
theorem dX9_name_25 : decode cX9_name 25 = .ok (.getfield 32, 3) := by decide +kernel
theorem dX9_name_28 : decode cX9_name 28 = .ok (.iconst 3, 1) := by decide +kernel
theorem dX9_name_29 : decode cX9_name 29 = .ok (.aload_n 0, 1) := by decide +kernel
theorem dX9_name_30 : decode cX9_name 30 = .ok (.iload_n 1, 1) := by decide +kernel
theorem dX9_name_31 : decode cX9_name 31 = .ok (.iconst 1, 1) := by decide +kernel
theorem dX9_name_32 : decode cX9_name 32 = .ok (.invokevirtual 73, 3) := by decide +kernel
theorem dX9_name_35 : decode cX9_name 35 = .ok (.iastore, 1) := by decide +kernel
theorem dX9_name_36 : decode cX9_name 36 = .ok (.aload_n 0, 1) := by decide +kernel
theorem dX9_name_37 : decode cX9_name 37 = .ok (.getfield 32, 3) := by decide +kernel
theorem dX9_name_40 : decode cX9_name 40 = .ok (.iconst 4, 1) := by decide +kernel
theorem dX9_name_41 : decode cX9_name 41 = .ok (.aload_n 0, 1) := by decide +kernel
theorem dX9_name_42 : decode cX9_name 42 = .ok (.iload_n 1, 1) := by decide +kernel
theorem dX9_name_43 : decode cX9_name 43 = .ok (.iconst 2, 1) := by decide +kernel
theorem dX9_name_44 : decode cX9_name 44 = .ok (.invokevirtual 73, 3) := by decide +kernel
theorem dX9_name_47 : decode cX9_name 47 = .ok (.iastore, 1) := by decide +kernel
theorem dX9_name_48 : decode cX9_name 48 = .ok (.aload_n 0, 1) := by decide +kernel
theorem dX9_name_49 : decode cX9_name 49 = .ok (.getfield 32, 3) := by decide +kernel
theorem dX9_name_52 : decode cX9_name 52 = .ok (.iconst 5, 1) := by decide +kernel
theorem dX9_name_53 : decode cX9_name 53 = .ok (.aload_n 0, 1) := by decide +kernel
theorem dX9_name_54 : decode cX9_name 54 = .ok (.iload_n 1, 1) := by decide +kernel
theorem dX9_name_55 : decode cX9_name 55 = .ok (.iconst 0, 1) := by decide +kernel
theorem dX9_name_56 : decode cX9_name 56 = .ok (.invokevirtual 73, 3) := by decide +kernel
theorem dX9_name_59 : decode cX9_name 59 = .ok (.invokestatic 305, 3) := by decide +kernel
theorem dX9_name_62 : decode cX9_name 62 = .ok (.iastore, 1) := by decide +kernel
theorem dX9_name_63 : decode cX9_name 63 = .ok (.aload_n 0, 1) := by decide +kernel
theorem dX9_name_64 : decode cX9_name 64 = .ok (.getfield 32, 3) := by decide +kernel
theorem dX9_name_67 : decode cX9_name 67 = .ok (.bipush 6, 2) := by decide +kernel
theorem dX9_name_69 : decode cX9_name 69 = .ok (.aload_n 0, 1) := by decide +kernel
theorem dX9_name_70 : decode cX9_name 70 = .ok (.aload_n 0, 1) := by decide +kernel
theorem dX9_name_71 : decode cX9_name 71 = .ok (.getfield 32, 3) := by decide +kernel
theorem dX9_name_74 : decode cX9_name 74 = .ok (.iconst 1, 1) := by decide +kernel
theorem dX9_name_75 : decode cX9_name 75 = .ok (.iaload, 1) := by decide +kernel
theorem dX9_name_76 : decode cX9_name 76 = .ok (.invokevirtual 308, 3) := by decide +kernel
theorem dX9_name_79 : decode cX9_name 79 = .ok (.iastore, 1) := by decide +kernel
theorem dX9_name_80 : decode cX9_name 80 = .ok (.aload_n 0, 1) := by decide +kernel
theorem dX9_name_81 : decode cX9_name 81 = .ok (.getfield 32, 3) := by decide +kernel
theorem dX9_name_84 : decode cX9_name 84 = .ok (.bipush 7, 2) := by decide +kernel
theorem dX9_name_86 : decode cX9_name 86 = .ok (.aload_n 0, 1) := by decide +kernel
theorem dX9_name_87 : decode cX9_name 87 = .ok (.iload_n 1, 1) := by decide +kernel
theorem dX9_name_88 : decode cX9_name 88 = .ok (.aload_n 0, 1) := by decide +kernel
theorem dX9_name_89 : decode cX9_name 89 = .ok (.getfield 32, 3) := by decide +kernel
theorem dX9_name_92 : decode cX9_name 92 = .ok (.iconst 1, 1) := by decide +kernel
theorem dX9_name_93 : decode cX9_name 93 = .ok (.iaload, 1) := by decide +kernel
theorem dX9_name_94 : decode cX9_name 94 = .ok (.invokevirtual 311, 3) := by decide +kernel
theorem dX9_name_97 : decode cX9_name 97 = .ok (.iastore, 1) := by decide +kernel
theorem dX9_name_98 : decode cX9_name 98 = .ok (.return_, 1) := by decide +kernel
def f_X9_name (F : Nat) (S : mS) (t : Nat) (a1 : Int32) (a2 : Int32) : Option mS := ck (inb (0 : Int32) 8) (stp (sI S (t + 6) (0 : Int32).toNatClampNeg a2) fun S2 => ck (inb (1 : Int32) 8) (stp (sI S2 (t + 6) (1 : Int32).toNatClampNeg (a2 - a2 / (20 : Int32) * (20 : Int32))) fun S4 => ck (inb (2 : Int32) 8) (stp (sI S4 (t + 6) (2 : Int32).toNatClampNeg a1) fun S6 => bd (f_X9_get F S6 t a1 (1 : Int32)) fun q7 => ck (inb (3 : Int32) 8) (stp (sI S6 (t + 6) (3 : Int32).toNatClampNeg q7) fun S9 => bd (f_X9_get F S9 t a1 (2 : Int32)) fun q10 => ck (inb (4 : Int32) 8) (stp (sI S9 (t + 6) (4 : Int32).toNatClampNeg q10) fun S12 => bd (f_X9_get F S12 t a1 (0 : Int32)) fun q13 => bd (f_X9_bits F S12 q13) fun q14 => ck (inb (5 : Int32) 8) (stp (sI S12 (t + 6) (5 : Int32).toNatClampNeg q14) fun S16 => ck (inb (1 : Int32) 8) (bd (f_X9_openOn F S16 t (S16.1 (t + 6) (1 : Int32).toNatClampNeg)) fun q18 => ck (inb (6 : Int32) 8) (stp (sI S16 (t + 6) (6 : Int32).toNatClampNeg q18) fun S20 => ck (inb (1 : Int32) 8) (bd (f_X9_besideOn F S20 t a1 (S20.1 (t + 6) (1 : Int32).toNatClampNeg)) fun q22 => ck (inb (7 : Int32) 8) (stp (sI S20 (t + 6) (7 : Int32).toNatClampNeg q22) fun S24 => some S24))))))))))
set_option maxHeartbeats 4000000 in
set_option maxRecDepth 100000 in
theorem c_X9_name {F : Nat} {S : mS} {t : Nat} {a1 : Int32} {a2 : Int32} {R : mS} (ht : kd0 t = 9) (h : f_X9_name F S t a1 a2 = some R) : mCt μX9_name 6 0 0 E0 S [.ref (t), .int (a1), .int (a2)] (mQe R none) := by
  unfold f_X9_name at h
  refine mCt.of (by decide) (Nat.le_of_ble_eq_true rfl) ?_
  intro x
  refine mG.aload_n 0 dX9_name_0 rfl ?_
  refine mG.get (v := .ref (t + 6)) dX9_name_1 mfX9_32 ht (lr9_named ht) ?_
  refine mG.iconst (v := 0) dX9_name_4 rfl ?_
  refine mG.iload_n 2 dX9_name_5 rfl ?_
  obtain ⟨b1, h⟩ := ckp h
  obtain ⟨S2, hS2, h⟩ := stpp h
  refine mG.iast dX9_name_6 (lk9_named ht) (ll9_named ht) (inbp b1) hS2 ?_
  refine mG.aload_n 0 dX9_name_7 rfl ?_
  refine mG.get (v := .ref (t + 6)) dX9_name_8 mfX9_32 ht (lr9_named ht) ?_
  refine mG.iconst (v := 1) dX9_name_11 rfl ?_
  refine mG.iload_n 2 dX9_name_12 rfl ?_
  refine mG.bipush (v := 20) dX9_name_13 (by decide) ?_
  refine mG.irem dX9_name_15 (by decide) ?_
  obtain ⟨b3, h⟩ := ckp h
  obtain ⟨S4, hS4, h⟩ := stpp h
  refine mG.iast dX9_name_16 (lk9_named ht) (ll9_named ht) (inbp b3) hS4 ?_
  refine mG.aload_n 0 dX9_name_17 rfl ?_
  refine mG.get (v := .ref (t + 6)) dX9_name_18 mfX9_32 ht (lr9_named ht) ?_
  refine mG.iconst (v := 2) dX9_name_21 rfl ?_
  refine mG.iload_n 1 dX9_name_22 rfl ?_
  obtain ⟨b5, h⟩ := ckp h
  obtain ⟨S6, hS6, h⟩ := stpp h
  refine mG.iast dX9_name_23 (lk9_named ht) (ll9_named ht) (inbp b5) hS6 ?_
  refine mG.aload_n 0 dX9_name_24 rfl ?_
  refine mG.get (v := .ref (t + 6)) dX9_name_25 mfX9_32 ht (lr9_named ht) ?_
  refine mG.iconst (v := 3) dX9_name_28 rfl ?_
  refine mG.aload_n 0 dX9_name_29 rfl ?_
  refine mG.iload_n 1 dX9_name_30 rfl ?_
  refine mG.iconst (v := 1) dX9_name_31 rfl ?_
  obtain ⟨q7, hq7, h⟩ := bdp h
  refine mG.callV0 (as := [.int (a1), .int 1]) (st := [.int 3, .ref (t + 6)]) (S2 := S6) (r := some (.int (q7))) dX9_name_32 mvX9_get wk7_23 rfl ht rfl (by decide) (Nat.le_of_ble_eq_true rfl) (c_X9_get ht hq7) ?_
  obtain ⟨b8, h⟩ := ckp h
  obtain ⟨S9, hS9, h⟩ := stpp h
  refine mG.iast dX9_name_35 (lk9_named ht) (ll9_named ht) (inbp b8) hS9 ?_
  refine mG.aload_n 0 dX9_name_36 rfl ?_
  refine mG.get (v := .ref (t + 6)) dX9_name_37 mfX9_32 ht (lr9_named ht) ?_
  refine mG.iconst (v := 4) dX9_name_40 rfl ?_
  refine mG.aload_n 0 dX9_name_41 rfl ?_
  refine mG.iload_n 1 dX9_name_42 rfl ?_
  refine mG.iconst (v := 2) dX9_name_43 rfl ?_
  obtain ⟨q10, hq10, h⟩ := bdp h
  refine mG.callV0 (as := [.int (a1), .int 2]) (st := [.int 4, .ref (t + 6)]) (S2 := S9) (r := some (.int (q10))) dX9_name_44 mvX9_get wk7_23 rfl ht rfl (by decide) (Nat.le_of_ble_eq_true rfl) (c_X9_get ht hq10) ?_
  obtain ⟨b11, h⟩ := ckp h
  obtain ⟨S12, hS12, h⟩ := stpp h
  refine mG.iast dX9_name_47 (lk9_named ht) (ll9_named ht) (inbp b11) hS12 ?_
  refine mG.aload_n 0 dX9_name_48 rfl ?_
  refine mG.get (v := .ref (t + 6)) dX9_name_49 mfX9_32 ht (lr9_named ht) ?_
  refine mG.iconst (v := 5) dX9_name_52 rfl ?_
  refine mG.aload_n 0 dX9_name_53 rfl ?_
  refine mG.iload_n 1 dX9_name_54 rfl ?_
  refine mG.iconst (v := 0) dX9_name_55 rfl ?_
  obtain ⟨q13, hq13, h⟩ := bdp h
  refine mG.callV0 (as := [.int (a1), .int 0]) (st := [.int 5, .ref (t + 6)]) (S2 := S12) (r := some (.int (q13))) dX9_name_56 mvX9_get wk7_23 rfl ht rfl (by decide) (Nat.le_of_ble_eq_true rfl) (c_X9_get ht hq13) ?_
  obtain ⟨q14, hq14, h⟩ := bdp h
  refine mG.callS0 (as := [.int (q13)]) (st := [.int 5, .ref (t + 6)]) (S2 := S12) (r := some (.int (q14))) dX9_name_59 mbX9_bits wk34_9 wk34_8 rfl rfl (by decide) (Nat.le_of_ble_eq_true rfl) (c_X9_bits  hq14) ?_
  obtain ⟨b15, h⟩ := ckp h
  obtain ⟨S16, hS16, h⟩ := stpp h
  refine mG.iast dX9_name_62 (lk9_named ht) (ll9_named ht) (inbp b15) hS16 ?_
  refine mG.aload_n 0 dX9_name_63 rfl ?_
  refine mG.get (v := .ref (t + 6)) dX9_name_64 mfX9_32 ht (lr9_named ht) ?_
  refine mG.bipush (v := 6) dX9_name_67 (by decide) ?_
  refine mG.aload_n 0 dX9_name_69 rfl ?_
  refine mG.aload_n 0 dX9_name_70 rfl ?_
  refine mG.get (v := .ref (t + 6)) dX9_name_71 mfX9_32 ht (lr9_named ht) ?_
  refine mG.iconst (v := 1) dX9_name_74 rfl ?_
  obtain ⟨b17, h⟩ := ckp h
  refine mG.iald dX9_name_75 (lk9_named ht) (ll9_named ht) (inbp b17) ?_
  obtain ⟨q18, hq18, h⟩ := bdp h
  refine mG.callV0 (as := [.int (S16.1 (t + 6) (1 : Int32).toNatClampNeg)]) (st := [.int 6, .ref (t + 6)]) (S2 := S16) (r := some (.int (q18))) dX9_name_76 mvX9_openOn wk34_11 rfl ht rfl (by decide) (Nat.le_of_ble_eq_true rfl) (c_X9_openOn ht hq18) ?_
  obtain ⟨b19, h⟩ := ckp h
  obtain ⟨S20, hS20, h⟩ := stpp h
  refine mG.iast dX9_name_79 (lk9_named ht) (ll9_named ht) (inbp b19) hS20 ?_
  refine mG.aload_n 0 dX9_name_80 rfl ?_
  refine mG.get (v := .ref (t + 6)) dX9_name_81 mfX9_32 ht (lr9_named ht) ?_
  refine mG.bipush (v := 7) dX9_name_84 (by decide) ?_
  refine mG.aload_n 0 dX9_name_86 rfl ?_
  refine mG.iload_n 1 dX9_name_87 rfl ?_
  refine mG.aload_n 0 dX9_name_88 rfl ?_
  refine mG.get (v := .ref (t + 6)) dX9_name_89 mfX9_32 ht (lr9_named ht) ?_
  refine mG.iconst (v := 1) dX9_name_92 rfl ?_
  obtain ⟨b21, h⟩ := ckp h
  refine mG.iald dX9_name_93 (lk9_named ht) (ll9_named ht) (inbp b21) ?_
  obtain ⟨q22, hq22, h⟩ := bdp h
  refine mG.callV0 (as := [.int (a1), .int (S20.1 (t + 6) (1 : Int32).toNatClampNeg)]) (st := [.int 7, .ref (t + 6)]) (S2 := S20) (r := some (.int (q22))) dX9_name_94 mvX9_besideOn wk34_19 rfl ht rfl (by decide) (Nat.le_of_ble_eq_true rfl) (c_X9_besideOn ht hq22) ?_
  obtain ⟨b23, h⟩ := ckp h
  obtain ⟨S24, hS24, h⟩ := stpp h
  refine mG.iast dX9_name_97 (lk9_named ht) (ll9_named ht) (inbp b23) hS24 ?_
  obtain rfl := Option.some.inj h
  exact mG.vret dX9_name_98 rfl ⟨rfl, rfl, rfl⟩
theorem dX9_earnsOn_0 : decode cX9_earnsOn 0 = .ok (.aload_n 0, 1) := by decide +kernel
theorem dX9_earnsOn_1 : decode cX9_earnsOn 1 = .ok (.iload_n 1, 1) := by decide +kernel
theorem dX9_earnsOn_2 : decode cX9_earnsOn 2 = .ok (.iload_n 2, 1) := by decide +kernel
theorem dX9_earnsOn_3 : decode cX9_earnsOn 3 = .ok (.invokevirtual 314, 3) := by decide +kernel
theorem dX9_earnsOn_6 : decode cX9_earnsOn 6 = .ok (.aload_n 0, 1) := by decide +kernel
theorem dX9_earnsOn_7 : decode cX9_earnsOn 7 = .ok (.iconst 0, 1) := by decide +kernel
theorem dX9_earnsOn_8 : decode cX9_earnsOn 8 = .ok (.iconst 1, 1) := by decide +kernel
theorem dX9_earnsOn_9 : decode cX9_earnsOn 9 = .ok (.aload_n 0, 1) := by decide +kernel
theorem dX9_earnsOn_10 : decode cX9_earnsOn 10 = .ok (.getfield 32, 3) := by decide +kernel
theorem dX9_earnsOn_13 : decode cX9_earnsOn 13 = .ok (.bipush 7, 2) := by decide +kernel
theorem dX9_earnsOn_15 : decode cX9_earnsOn 15 = .ok (.iaload, 1) := by decide +kernel
theorem dX9_earnsOn_16 : decode cX9_earnsOn 16 = .ok (.iadd, 1) := by decide +kernel
theorem dX9_earnsOn_17 : decode cX9_earnsOn 17 = .ok (.invokevirtual 317, 3) := by decide +kernel
theorem dX9_earnsOn_20 : decode cX9_earnsOn 20 = .ok (.ireturn, 1) := by decide +kernel
def f_X9_earnsOn (F : Nat) (S : mS) (t : Nat) (a1 : Int32) (a2 : Int32) : Option (mS × Int32) := bd (f_X9_name F S t a1 a2) fun q1 => ck (inb (7 : Int32) 8) (bd (f_X9_says F q1 t (0 : Int32) ((1 : Int32) + (q1.1 (t + 6) (7 : Int32).toNatClampNeg))) fun q3 => some (q3.1, q3.2))
set_option maxHeartbeats 4000000 in
set_option maxRecDepth 100000 in
theorem c_X9_earnsOn {F : Nat} {S : mS} {t : Nat} {a1 : Int32} {a2 : Int32} {R : mS × Int32} (ht : kd0 t = 9) (h : f_X9_earnsOn F S t a1 a2 = some R) : mCt μX9_earnsOn 7 0 0 E0 S [.ref (t), .int (a1), .int (a2)] (mQe R.1 (some (.int R.2))) := by
  unfold f_X9_earnsOn at h
  refine mCt.of (by decide) (Nat.le_of_ble_eq_true rfl) ?_
  intro x
  refine mG.aload_n 0 dX9_earnsOn_0 rfl ?_
  refine mG.iload_n 1 dX9_earnsOn_1 rfl ?_
  refine mG.iload_n 2 dX9_earnsOn_2 rfl ?_
  obtain ⟨q1, hq1, h⟩ := bdp h
  refine mG.callV0 (as := [.int (a1), .int (a2)]) (st := []) (S2 := q1) (r := none) dX9_earnsOn_3 mvX9_name wk34_4 rfl ht rfl (by decide) (Nat.le_of_ble_eq_true rfl) (c_X9_name ht hq1) ?_
  refine mG.aload_n 0 dX9_earnsOn_6 rfl ?_
  refine mG.iconst (v := 0) dX9_earnsOn_7 rfl ?_
  refine mG.iconst (v := 1) dX9_earnsOn_8 rfl ?_
  refine mG.aload_n 0 dX9_earnsOn_9 rfl ?_
  refine mG.get (v := .ref (t + 6)) dX9_earnsOn_10 mfX9_32 ht (lr9_named ht) ?_
  refine mG.bipush (v := 7) dX9_earnsOn_13 (by decide) ?_
  obtain ⟨b2, h⟩ := ckp h
  refine mG.iald dX9_earnsOn_15 (lk9_named ht) (ll9_named ht) (inbp b2) ?_
  refine mG.iadd dX9_earnsOn_16 ?_
  obtain ⟨q3, hq3, h⟩ := bdp h
  refine mG.callV0 (as := [.int 0, .int ((1 : Int32) + (q1.1 (t + 6) (7 : Int32).toNatClampNeg))]) (st := []) (S2 := q3.1) (r := some (.int (q3.2))) dX9_earnsOn_17 mvX9_says wk41_5 rfl ht rfl (by decide) (Nat.le_of_ble_eq_true rfl) (c_X9_says ht hq3) ?_
  obtain rfl := Option.some.inj h
  exact mG.iret dX9_earnsOn_20 rfl ⟨rfl, rfl, rfl⟩
theorem dX9_losesOf_0 : decode cX9_losesOf 0 = .ok (.aload_n 0, 1) := by decide +kernel
theorem dX9_losesOf_1 : decode cX9_losesOf 1 = .ok (.iload_n 1, 1) := by decide +kernel
theorem dX9_losesOf_2 : decode cX9_losesOf 2 = .ok (.aload_n 0, 1) := by decide +kernel
theorem dX9_losesOf_3 : decode cX9_losesOf 3 = .ok (.getfield 7, 3) := by decide +kernel
theorem dX9_losesOf_6 : decode cX9_losesOf 6 = .ok (.bipush 8, 2) := by decide +kernel
theorem dX9_losesOf_8 : decode cX9_losesOf 8 = .ok (.iaload, 1) := by decide +kernel
theorem dX9_losesOf_9 : decode cX9_losesOf 9 = .ok (.invokevirtual 314, 3) := by decide +kernel
theorem dX9_losesOf_12 : decode cX9_losesOf 12 = .ok (.aload_n 0, 1) := by decide +kernel
theorem dX9_losesOf_13 : decode cX9_losesOf 13 = .ok (.iconst 1, 1) := by decide +kernel
theorem dX9_losesOf_14 : decode cX9_losesOf 14 = .ok (.iconst 2, 1) := by decide +kernel
theorem dX9_losesOf_15 : decode cX9_losesOf 15 = .ok (.invokevirtual 317, 3) := by decide +kernel
theorem dX9_losesOf_18 : decode cX9_losesOf 18 = .ok (.ireturn, 1) := by decide +kernel
def f_X9_losesOf (F : Nat) (S : mS) (t : Nat) (a1 : Int32) : Option (mS × Int32) := ck (inb (8 : Int32) 2308) (bd (f_X9_name F S t a1 (S.1 (t + 1) (8 : Int32).toNatClampNeg)) fun q2 => bd (f_X9_says F q2 t (1 : Int32) (2 : Int32)) fun q3 => some (q3.1, q3.2))
set_option maxHeartbeats 4000000 in
set_option maxRecDepth 100000 in
theorem c_X9_losesOf {F : Nat} {S : mS} {t : Nat} {a1 : Int32} {R : mS × Int32} (ht : kd0 t = 9) (h : f_X9_losesOf F S t a1 = some R) : mCt μX9_losesOf 7 0 0 E0 S [.ref (t), .int (a1)] (mQe R.1 (some (.int R.2))) := by
  unfold f_X9_losesOf at h
  refine mCt.of (by decide) (Nat.le_of_ble_eq_true rfl) ?_
  intro x
  refine mG.aload_n 0 dX9_losesOf_0 rfl ?_
  refine mG.iload_n 1 dX9_losesOf_1 rfl ?_
  refine mG.aload_n 0 dX9_losesOf_2 rfl ?_
  refine mG.get (v := .ref (t + 1)) dX9_losesOf_3 mfX9_7 ht (lr9_a ht) ?_
  refine mG.bipush (v := 8) dX9_losesOf_6 (by decide) ?_
  obtain ⟨b1, h⟩ := ckp h
  refine mG.iald dX9_losesOf_8 (lk9_a ht) (ll9_a ht) (inbp b1) ?_
  obtain ⟨q2, hq2, h⟩ := bdp h
  refine mG.callV0 (as := [.int (a1), .int (S.1 (t + 1) (8 : Int32).toNatClampNeg)]) (st := []) (S2 := q2) (r := none) dX9_losesOf_9 mvX9_name wk34_4 rfl ht rfl (by decide) (Nat.le_of_ble_eq_true rfl) (c_X9_name ht hq2) ?_
  refine mG.aload_n 0 dX9_losesOf_12 rfl ?_
  refine mG.iconst (v := 1) dX9_losesOf_13 rfl ?_
  refine mG.iconst (v := 2) dX9_losesOf_14 rfl ?_
  obtain ⟨q3, hq3, h⟩ := bdp h
  refine mG.callV0 (as := [.int 1, .int 2]) (st := []) (S2 := q3.1) (r := some (.int (q3.2))) dX9_losesOf_15 mvX9_says wk41_5 rfl ht rfl (by decide) (Nat.le_of_ble_eq_true rfl) (c_X9_says ht hq3) ?_
  obtain rfl := Option.some.inj h
  exact mG.iret dX9_losesOf_18 rfl ⟨rfl, rfl, rfl⟩
theorem dX9_isLetting_0 : decode cX9_isLetting 0 = .ok (.aload_n 0, 1) := by decide +kernel
theorem dX9_isLetting_1 : decode cX9_isLetting 1 = .ok (.iconst 2, 1) := by decide +kernel
theorem dX9_isLetting_2 : decode cX9_isLetting 2 = .ok (.invokevirtual 293, 3) := by decide +kernel
theorem dX9_isLetting_5 : decode cX9_isLetting 5 = .ok (.istore_n 2, 1) := by decide +kernel
theorem dX9_isLetting_6 : decode cX9_isLetting 6 = .ok (.iload_n 2, 1) := by decide +kernel
theorem dX9_isLetting_7 : decode cX9_isLetting 7 = .ok (.ifCond .ge 20, 3) := by decide +kernel
theorem dX9_isLetting_10 : decode cX9_isLetting 10 = .ok (.aload_n 0, 1) := by decide +kernel
theorem dX9_isLetting_11 : decode cX9_isLetting 11 = .ok (.iload_n 1, 1) := by decide +kernel
theorem dX9_isLetting_12 : decode cX9_isLetting 12 = .ok (.iconst 2, 1) := by decide +kernel
theorem dX9_isLetting_13 : decode cX9_isLetting 13 = .ok (.invokevirtual 73, 3) := by decide +kernel
theorem dX9_isLetting_16 : decode cX9_isLetting 16 = .ok (.bipush 50, 2) := by decide +kernel
theorem dX9_isLetting_18 : decode cX9_isLetting 18 = .ok (.if_icmp .ge 7, 3) := by decide +kernel
theorem dX9_isLetting_21 : decode cX9_isLetting 21 = .ok (.iconst 1, 1) := by decide +kernel
theorem dX9_isLetting_22 : decode cX9_isLetting 22 = .ok (.goto 4, 3) := by decide +kernel
theorem dX9_isLetting_25 : decode cX9_isLetting 25 = .ok (.iconst 0, 1) := by decide +kernel
theorem dX9_isLetting_26 : decode cX9_isLetting 26 = .ok (.ireturn, 1) := by decide +kernel
theorem dX9_isLetting_27 : decode cX9_isLetting 27 = .ok (.aload_n 0, 1) := by decide +kernel
theorem dX9_isLetting_28 : decode cX9_isLetting 28 = .ok (.iload_n 1, 1) := by decide +kernel
theorem dX9_isLetting_29 : decode cX9_isLetting 29 = .ok (.aload_n 0, 1) := by decide +kernel
theorem dX9_isLetting_30 : decode cX9_isLetting 30 = .ok (.getfield 7, 3) := by decide +kernel
theorem dX9_isLetting_33 : decode cX9_isLetting 33 = .ok (.bipush 8, 2) := by decide +kernel
theorem dX9_isLetting_35 : decode cX9_isLetting 35 = .ok (.iaload, 1) := by decide +kernel
theorem dX9_isLetting_36 : decode cX9_isLetting 36 = .ok (.invokevirtual 314, 3) := by decide +kernel
theorem dX9_isLetting_39 : decode cX9_isLetting 39 = .ok (.aload_n 0, 1) := by decide +kernel
theorem dX9_isLetting_40 : decode cX9_isLetting 40 = .ok (.iload_n 2, 1) := by decide +kernel
theorem dX9_isLetting_41 : decode cX9_isLetting 41 = .ok (.invokevirtual 296, 3) := by decide +kernel
theorem dX9_isLetting_44 : decode cX9_isLetting 44 = .ok (.aload_n 0, 1) := by decide +kernel
theorem dX9_isLetting_45 : decode cX9_isLetting 45 = .ok (.getfield 39, 3) := by decide +kernel
theorem dX9_isLetting_48 : decode cX9_isLetting 48 = .ok (.iconst 0, 1) := by decide +kernel
theorem dX9_isLetting_49 : decode cX9_isLetting 49 = .ok (.baload, 1) := by decide +kernel
theorem dX9_isLetting_50 : decode cX9_isLetting 50 = .ok (.ireturn, 1) := by decide +kernel
def f_X9_isLetting (F : Nat) (S : mS) (t : Nat) (a1 : Int32) : Option (mS × Bool) := bd (f_X9_clauseOf F S t (2 : Int32)) fun q1 => if 0 ≤ q1 then (ck (inb (8 : Int32) 2308) (bd (f_X9_name F S t a1 (S.1 (t + 1) (8 : Int32).toNatClampNeg)) fun q3 => bd (f_X9_work F q3 t q1) fun q4 => ck (inb (0 : Int32) 330) (ck (is01 (q4.1 (t + 8) (0 : Int32).toNatClampNeg)) (some (q4, decide ((q4.1 (t + 8) (0 : Int32).toNatClampNeg) = 1)))))) else (bd (f_X9_get F S t a1 (2 : Int32)) fun q7 => if (50 : Int32) ≤ q7 then (some (S, false)) else (some (S, true)))
set_option maxHeartbeats 4000000 in
set_option maxRecDepth 100000 in
theorem c_X9_isLetting {F : Nat} {S : mS} {t : Nat} {a1 : Int32} {R : mS × Bool} (ht : kd0 t = 9) (h : f_X9_isLetting F S t a1 = some R) : mCt μX9_isLetting 7 0 0 E0 S [.ref (t), .int (a1)] (mQe R.1 (some (.int (bI R.2)))) := by
  unfold f_X9_isLetting at h
  refine mCt.of (by decide) (Nat.le_of_ble_eq_true rfl) ?_
  intro x
  refine mG.aload_n 0 dX9_isLetting_0 rfl ?_
  refine mG.iconst (v := 2) dX9_isLetting_1 rfl ?_
  obtain ⟨q1, hq1, h⟩ := bdp h
  refine mG.callV0 (as := [.int 2]) (st := []) (S2 := S) (r := some (.int (q1))) dX9_isLetting_2 mvX9_clauseOf wk34_0 rfl ht rfl (by decide) (Nat.le_of_ble_eq_true rfl) (c_X9_clauseOf ht hq1) ?_
  refine mG.istore_n (lv2 := [(2, .int (q1)), (0, .ref (t)), (1, .int (a1))]) dX9_isLetting_5 rfl (by decide) rfl ?_
  refine mG.iload_n 0 dX9_isLetting_6 rfl ?_
  refine mG.if_ge 27 dX9_isLetting_7 (by decide) (fun c9 => ?_) (fun c9 => ?_)
  · replace h := itp c9 h
    refine mG.aload_n 1 dX9_isLetting_27 rfl ?_
    refine mG.iload_n 2 dX9_isLetting_28 rfl ?_
    refine mG.aload_n 1 dX9_isLetting_29 rfl ?_
    refine mG.get (v := .ref (t + 1)) dX9_isLetting_30 mfX9_7 ht (lr9_a ht) ?_
    refine mG.bipush (v := 8) dX9_isLetting_33 (by decide) ?_
    obtain ⟨b2, h⟩ := ckp h
    refine mG.iald dX9_isLetting_35 (lk9_a ht) (ll9_a ht) (inbp b2) ?_
    obtain ⟨q3, hq3, h⟩ := bdp h
    refine mG.callV0 (as := [.int (a1), .int (S.1 (t + 1) (8 : Int32).toNatClampNeg)]) (st := []) (S2 := q3) (r := none) dX9_isLetting_36 mvX9_name wk34_4 rfl ht rfl (by decide) (Nat.le_of_ble_eq_true rfl) (c_X9_name ht hq3) ?_
    refine mG.aload_n 1 dX9_isLetting_39 rfl ?_
    refine mG.iload_n 0 dX9_isLetting_40 rfl ?_
    obtain ⟨q4, hq4, h⟩ := bdp h
    refine mG.callV0 (as := [.int (q1)]) (st := []) (S2 := q4) (r := none) dX9_isLetting_41 mvX9_work wk34_23 rfl ht rfl (by decide) (Nat.le_of_ble_eq_true rfl) (c_X9_work ht hq4) ?_
    refine mG.aload_n 1 dX9_isLetting_44 rfl ?_
    refine mG.get (v := .ref (t + 8)) dX9_isLetting_45 mfX9_39 ht (lr9_truth ht) ?_
    refine mG.iconst (v := 0) dX9_isLetting_48 rfl ?_
    obtain ⟨b5, h⟩ := ckp h
    refine mG.zald dX9_isLetting_49 (lk9_truth ht) (ll9_truth ht) (inbp b5) ?_
    obtain ⟨b6, h⟩ := ckp h
    obtain rfl := Option.some.inj h
    exact mG.zret (b := decide ((q4.1 (t + 8) (0 : Int32).toNatClampNeg) = 1)) dX9_isLetting_50 rfl (d1b (is01p b6)) ⟨rfl, rfl, rfl⟩
  · replace h := itn c9 h
    refine mG.aload_n 1 dX9_isLetting_10 rfl ?_
    refine mG.iload_n 2 dX9_isLetting_11 rfl ?_
    refine mG.iconst (v := 2) dX9_isLetting_12 rfl ?_
    obtain ⟨q7, hq7, h⟩ := bdp h
    refine mG.callV0 (as := [.int (a1), .int 2]) (st := []) (S2 := S) (r := some (.int (q7))) dX9_isLetting_13 mvX9_get wk7_23 rfl ht rfl (by decide) (Nat.le_of_ble_eq_true rfl) (c_X9_get ht hq7) ?_
    refine mG.bipush (v := 50) dX9_isLetting_16 (by decide) ?_
    refine mG.icmp_ge 25 dX9_isLetting_18 (by decide) (fun c8 => ?_) (fun c8 => ?_)
    · replace h := itp c8 h
      refine mG.iconst (v := 0) dX9_isLetting_25 rfl ?_
      obtain rfl := Option.some.inj h
      exact mG.zret (b := false) dX9_isLetting_26 rfl rfl ⟨rfl, rfl, rfl⟩
    · replace h := itn c8 h
      refine mG.iconst (v := 1) dX9_isLetting_21 rfl ?_
      refine mG.goto 26 dX9_isLetting_22 (by decide) ?_
      obtain rfl := Option.some.inj h
      exact mG.zret (b := true) dX9_isLetting_26 rfl rfl ⟨rfl, rfl, rfl⟩
theorem dX9_pass_0 : decode cX9_pass 0 = .ok (.aload_n 0, 1) := by decide +kernel
theorem dX9_pass_1 : decode cX9_pass 1 = .ok (.invokevirtual 320, 3) := by decide +kernel
theorem dX9_pass_4 : decode cX9_pass 4 = .ok (.istore_n 1, 1) := by decide +kernel
theorem dX9_pass_5 : decode cX9_pass 5 = .ok (.iconst 0, 1) := by decide +kernel
theorem dX9_pass_6 : decode cX9_pass 6 = .ok (.istore_n 2, 1) := by decide +kernel
theorem dX9_pass_7 : decode cX9_pass 7 = .ok (.iload_n 2, 1) := by decide +kernel
theorem dX9_pass_8 : decode cX9_pass 8 = .ok (.aload_n 0, 1) := by decide +kernel
theorem dX9_pass_9 : decode cX9_pass 9 = .ok (.getfield 7, 3) := by decide +kernel
theorem dX9_pass_12 : decode cX9_pass 12 = .ok (.iconst 0, 1) := by decide +kernel
theorem dX9_pass_13 : decode cX9_pass 13 = .ok (.iaload, 1) := by decide +kernel
theorem dX9_pass_14 : decode cX9_pass 14 = .ok (.if_icmp .ge 79, 3) := by decide +kernel
theorem dX9_pass_17 : decode cX9_pass 17 = .ok (.aload_n 0, 1) := by decide +kernel
theorem dX9_pass_18 : decode cX9_pass 18 = .ok (.iload_n 2, 1) := by decide +kernel
theorem dX9_pass_19 : decode cX9_pass 19 = .ok (.iconst 3, 1) := by decide +kernel
theorem dX9_pass_20 : decode cX9_pass 20 = .ok (.invokevirtual 73, 3) := by decide +kernel
theorem dX9_pass_23 : decode cX9_pass 23 = .ok (.iconst 1, 1) := by decide +kernel
theorem dX9_pass_24 : decode cX9_pass 24 = .ok (.if_icmp .ne 6, 3) := by decide +kernel
theorem dX9_pass_27 : decode cX9_pass 27 = .ok (.goto 60, 3) := by decide +kernel
theorem dX9_pass_30 : decode cX9_pass 30 = .ok (.aload_n 0, 1) := by decide +kernel
theorem dX9_pass_31 : decode cX9_pass 31 = .ok (.iload_n 2, 1) := by decide +kernel
theorem dX9_pass_32 : decode cX9_pass 32 = .ok (.iconst 0, 1) := by decide +kernel
theorem dX9_pass_33 : decode cX9_pass 33 = .ok (.invokevirtual 73, 3) := by decide +kernel
theorem dX9_pass_36 : decode cX9_pass 36 = .ok (.iload_n 1, 1) := by decide +kernel
theorem dX9_pass_37 : decode cX9_pass 37 = .ok (.invokestatic 80, 3) := by decide +kernel
theorem dX9_pass_40 : decode cX9_pass 40 = .ok (.ifCond .eq 12, 3) := by decide +kernel
theorem dX9_pass_43 : decode cX9_pass 43 = .ok (.aload_n 0, 1) := by decide +kernel
theorem dX9_pass_44 : decode cX9_pass 44 = .ok (.iload_n 2, 1) := by decide +kernel
theorem dX9_pass_45 : decode cX9_pass 45 = .ok (.invokevirtual 323, 3) := by decide +kernel
theorem dX9_pass_48 : decode cX9_pass 48 = .ok (.ineg, 1) := by decide +kernel
theorem dX9_pass_49 : decode cX9_pass 49 = .ok (.goto 15, 3) := by decide +kernel
theorem dX9_pass_52 : decode cX9_pass 52 = .ok (.aload_n 0, 1) := by decide +kernel
theorem dX9_pass_53 : decode cX9_pass 53 = .ok (.iload_n 2, 1) := by decide +kernel
theorem dX9_pass_54 : decode cX9_pass 54 = .ok (.aload_n 0, 1) := by decide +kernel
theorem dX9_pass_55 : decode cX9_pass 55 = .ok (.getfield 7, 3) := by decide +kernel
theorem dX9_pass_58 : decode cX9_pass 58 = .ok (.bipush 8, 2) := by decide +kernel
theorem dX9_pass_60 : decode cX9_pass 60 = .ok (.iaload, 1) := by decide +kernel
theorem dX9_pass_61 : decode cX9_pass 61 = .ok (.invokevirtual 326, 3) := by decide +kernel
theorem dX9_pass_64 : decode cX9_pass 64 = .ok (.istore_n 3, 1) := by decide +kernel
theorem dX9_pass_65 : decode cX9_pass 65 = .ok (.aload_n 0, 1) := by decide +kernel
theorem dX9_pass_66 : decode cX9_pass 66 = .ok (.iload_n 2, 1) := by decide +kernel
theorem dX9_pass_67 : decode cX9_pass 67 = .ok (.iconst 1, 1) := by decide +kernel
theorem dX9_pass_68 : decode cX9_pass 68 = .ok (.aload_n 0, 1) := by decide +kernel
theorem dX9_pass_69 : decode cX9_pass 69 = .ok (.iload_n 2, 1) := by decide +kernel
theorem dX9_pass_70 : decode cX9_pass 70 = .ok (.iconst 1, 1) := by decide +kernel
theorem dX9_pass_71 : decode cX9_pass 71 = .ok (.invokevirtual 73, 3) := by decide +kernel
theorem dX9_pass_74 : decode cX9_pass 74 = .ok (.iload_n 3, 1) := by decide +kernel
theorem dX9_pass_75 : decode cX9_pass 75 = .ok (.iadd, 1) := by decide +kernel
theorem dX9_pass_76 : decode cX9_pass 76 = .ok (.i2l, 1) := by decide +kernel
theorem dX9_pass_77 : decode cX9_pass 77 = .ok (.iconst 0, 1) := by decide +kernel
theorem dX9_pass_78 : decode cX9_pass 78 = .ok (.sipush 9999, 3) := by decide +kernel
theorem dX9_pass_81 : decode cX9_pass 81 = .ok (.invokestatic 299, 3) := by decide +kernel
theorem dX9_pass_84 : decode cX9_pass 84 = .ok (.invokevirtual 84, 3) := by decide +kernel
theorem dX9_pass_87 : decode cX9_pass 87 = .ok (.iinc 2 1, 3) := by decide +kernel
theorem dX9_pass_90 : decode cX9_pass 90 = .ok (.goto (-83), 3) := by decide +kernel
theorem dX9_pass_93 : decode cX9_pass 93 = .ok (.aload_n 0, 1) := by decide +kernel
theorem dX9_pass_94 : decode cX9_pass 94 = .ok (.getfield 7, 3) := by decide +kernel
theorem dX9_pass_97 : decode cX9_pass 97 = .ok (.bipush 8, 2) := by decide +kernel
theorem dX9_pass_99 : decode cX9_pass 99 = .ok (.dup2, 1) := by decide +kernel
theorem dX9_pass_100 : decode cX9_pass 100 = .ok (.iaload, 1) := by decide +kernel
theorem dX9_pass_101 : decode cX9_pass 101 = .ok (.iconst 1, 1) := by decide +kernel
theorem dX9_pass_102 : decode cX9_pass 102 = .ok (.iadd, 1) := by decide +kernel
theorem dX9_pass_103 : decode cX9_pass 103 = .ok (.iastore, 1) := by decide +kernel
theorem dX9_pass_104 : decode cX9_pass 104 = .ok (.return_, 1) := by decide +kernel
def lX9_pass_64 (F : Nat) (K7 : mS → Int32 → Int32 → Option mS) (t : Nat) (S : mS) (v1 : Int32) (v2 : Int32) (s0 : Int32) : Option mS := bd (f_X9_get F S t v2 (1 : Int32)) fun q1 => bd (f_X9_put F S t v2 (1 : Int32) (f_X9_cut S (Int32.toInt64 (q1 + s0)) (0 : Int32) (9999 : Int32))) fun q2 => K7 q2 v1 (v2 + 1)
set_option maxHeartbeats 4000000 in
set_option maxRecDepth 100000 in
theorem gX9_pass_64 {x : mX} {F : Nat} {t : Nat} {K7 : mS → Int32 → Int32 → Option mS} {R : mS} (ht : kd0 t = 9) (hK7 : ∀ (S : mS) (v1 : Int32) (v2 : Int32) , K7 S v1 v2 = some R → mG x μX9_pass 8 0 0 (mQe R none) 0 0 E0 S 7 [(0, .ref (t)), (1, .int (v1)), (2, .int (v2))] []) (S : mS) (v1 : Int32) (v2 : Int32) (s0 : Int32)  (h : lX9_pass_64 F K7 t S v1 v2 s0 = some R) : mG x μX9_pass 8 0 0 (mQe R none) 0 0 E0 S 64 [(0, .ref (t)), (1, .int (v1)), (2, .int (v2))] [.int (s0)] := by
  unfold lX9_pass_64 at h
  refine mG.istore_n (lv2 := [(3, .int (s0)), (0, .ref (t)), (1, .int (v1)), (2, .int (v2))]) dX9_pass_64 rfl (by decide) rfl ?_
  refine mG.aload_n 1 dX9_pass_65 rfl ?_
  refine mG.iload_n 3 dX9_pass_66 rfl ?_
  refine mG.iconst (v := 1) dX9_pass_67 rfl ?_
  refine mG.aload_n 1 dX9_pass_68 rfl ?_
  refine mG.iload_n 3 dX9_pass_69 rfl ?_
  refine mG.iconst (v := 1) dX9_pass_70 rfl ?_
  obtain ⟨q1, hq1, h⟩ := bdp h
  refine mG.callV0 (as := [.int (v2), .int 1]) (st := [.int 1, .int (v2), .ref (t)]) (S2 := S) (r := some (.int (q1))) dX9_pass_71 mvX9_get wk7_23 rfl ht rfl (by decide) (Nat.le_of_ble_eq_true rfl) (c_X9_get ht hq1) ?_
  refine mG.iload_n 0 dX9_pass_74 rfl ?_
  refine mG.iadd dX9_pass_75 ?_
  refine mG.i2l dX9_pass_76 ?_
  refine mG.iconst (v := 0) dX9_pass_77 rfl ?_
  refine mG.sipush (v := 9999) dX9_pass_78 (by decide) ?_
  refine mG.callS0 (as := [.long (Int32.toInt64 (q1 + s0)), .int 0, .int 9999]) (st := [.int 1, .int (v2), .ref (t)]) (S2 := S) (r := some (.int (f_X9_cut S (Int32.toInt64 (q1 + s0)) (0 : Int32) (9999 : Int32)))) dX9_pass_81 mbX9_cut wk36_2 wk36_1 rfl rfl (by decide) (Nat.le_of_ble_eq_true rfl) (c_X9_cut  rfl) ?_
  obtain ⟨q2, hq2, h⟩ := bdp h
  refine mG.callV0 (as := [.int (v2), .int 1, .int (f_X9_cut S (Int32.toInt64 (q1 + s0)) (0 : Int32) (9999 : Int32))]) (st := []) (S2 := q2) (r := none) dX9_pass_84 mvX9_put wk7_15 rfl ht rfl (by decide) (Nat.le_of_ble_eq_true rfl) (c_X9_put ht hq2) ?_
  refine mG.iinc 3 (u := v2 + 1) (lv2 := [(2, .int (v2 + 1)), (3, .int (s0)), (0, .ref (t)), (1, .int (v1))]) dX9_pass_87 rfl rfl (by decide) rfl ?_
  refine mG.goto 7 dX9_pass_90 (by decide) ?_
  refine mG.sub (lv2 := [(0, .ref (t)), (1, .int (v1)), (2, .int (v2 + 1))]) [2, 3, 0] rfl ?_
  exact hK7 q2 v1 (v2 + 1)  h
def lX9_pass_7 (F : Nat)  (t : Nat) : Nat → mS → Int32 → Int32 → Option mS
  | 0, _, _, _ => none
  | n + 1, S, v1, v2 => ck (inb (0 : Int32) 2308) (if (S.1 (t + 1) (0 : Int32).toNatClampNeg) ≤ v2 then (ck (inb (8 : Int32) 2308) (ck (inb (8 : Int32) 2308) (stp (sI S (t + 1) (8 : Int32).toNatClampNeg ((S.1 (t + 1) (8 : Int32).toNatClampNeg) + (1 : Int32))) fun S4 => some S4))) else (bd (f_X9_get F S t v2 (3 : Int32)) fun q5 => if q5 = (1 : Int32) then (lX9_pass_7 F  t n S v1 (v2 + 1)) else (bd (f_X9_get F S t v2 (0 : Int32)) fun q6 => if (f_X9_has S q6 v1) = true then (bd (f_X9_losesOf F S t v2) fun q9 => lX9_pass_64 F (fun (S : mS) (v1 : Int32) (v2 : Int32) => lX9_pass_7 F  t n S v1 v2) t q9.1 v1 v2 (-q9.2)) else (ck (inb (8 : Int32) 2308) (bd (f_X9_earnsOn F S t v2 (S.1 (t + 1) (8 : Int32).toNatClampNeg)) fun q8 => lX9_pass_64 F (fun (S : mS) (v1 : Int32) (v2 : Int32) => lX9_pass_7 F  t n S v1 v2) t q8.1 v1 v2 q8.2)))))
set_option maxHeartbeats 4000000 in
set_option maxRecDepth 100000 in
theorem gX9_pass_7 {x : mX} {F : Nat} {t : Nat}   {R : mS} (ht : kd0 t = 9)  : ∀ (n : Nat) (S : mS) (v1 : Int32) (v2 : Int32), lX9_pass_7 F  t n S v1 v2 = some R → mG x μX9_pass 8 0 0 (mQe R none) 0 0 E0 S 7 [(0, .ref (t)), (1, .int (v1)), (2, .int (v2))] [] := by
  intro n
  induction n with
  | zero =>
    intro S v1 v2 h
    cases h
  | succ n ih =>
    intro S v1 v2 h
    unfold lX9_pass_7 at h
    refine mG.iload_n 2 dX9_pass_7 rfl ?_
    refine mG.aload_n 0 dX9_pass_8 rfl ?_
    refine mG.get (v := .ref (t + 1)) dX9_pass_9 mfX9_7 ht (lr9_a ht) ?_
    refine mG.iconst (v := 0) dX9_pass_12 rfl ?_
    obtain ⟨b1, h⟩ := ckp h
    refine mG.iald dX9_pass_13 (lk9_a ht) (ll9_a ht) (inbp b1) ?_
    refine mG.icmp_ge 93 dX9_pass_14 (by decide) (fun c12 => ?_) (fun c12 => ?_)
    · replace h := itp c12 h
      refine mG.aload_n 0 dX9_pass_93 rfl ?_
      refine mG.get (v := .ref (t + 1)) dX9_pass_94 mfX9_7 ht (lr9_a ht) ?_
      refine mG.bipush (v := 8) dX9_pass_97 (by decide) ?_
      refine mG.dup2 dX9_pass_99 rfl rfl ?_
      obtain ⟨b2, h⟩ := ckp h
      refine mG.iald dX9_pass_100 (lk9_a ht) (ll9_a ht) (inbp b2) ?_
      refine mG.iconst (v := 1) dX9_pass_101 rfl ?_
      refine mG.iadd dX9_pass_102 ?_
      obtain ⟨b3, h⟩ := ckp h
      obtain ⟨S4, hS4, h⟩ := stpp h
      refine mG.iast dX9_pass_103 (lk9_a ht) (ll9_a ht) (inbp b3) hS4 ?_
      obtain rfl := Option.some.inj h
      exact mG.vret dX9_pass_104 rfl ⟨rfl, rfl, rfl⟩
    · replace h := itn c12 h
      refine mG.aload_n 0 dX9_pass_17 rfl ?_
      refine mG.iload_n 2 dX9_pass_18 rfl ?_
      refine mG.iconst (v := 3) dX9_pass_19 rfl ?_
      obtain ⟨q5, hq5, h⟩ := bdp h
      refine mG.callV0 (as := [.int (v2), .int 3]) (st := []) (S2 := S) (r := some (.int (q5))) dX9_pass_20 mvX9_get wk7_23 rfl ht rfl (by decide) (Nat.le_of_ble_eq_true rfl) (c_X9_get ht hq5) ?_
      refine mG.iconst (v := 1) dX9_pass_23 rfl ?_
      refine mG.icmp_ne 30 dX9_pass_24 (by decide) (fun c11 => ?_) (fun c11 => ?_)
      · replace h := itn c11 h
        refine mG.aload_n 0 dX9_pass_30 rfl ?_
        refine mG.iload_n 2 dX9_pass_31 rfl ?_
        refine mG.iconst (v := 0) dX9_pass_32 rfl ?_
        obtain ⟨q6, hq6, h⟩ := bdp h
        refine mG.callV0 (as := [.int (v2), .int 0]) (st := []) (S2 := S) (r := some (.int (q6))) dX9_pass_33 mvX9_get wk7_23 rfl ht rfl (by decide) (Nat.le_of_ble_eq_true rfl) (c_X9_get ht hq6) ?_
        refine mG.iload_n 1 dX9_pass_36 rfl ?_
        refine mG.callS0 (as := [.int (q6), .int (v1)]) (st := []) (S2 := S) (r := some (.int (bI (f_X9_has S q6 v1)))) dX9_pass_37 mbX9_has wk22_12 wk22_11 rfl rfl (by decide) (Nat.le_of_ble_eq_true rfl) (c_X9_has  rfl) ?_
        refine mG.ifz_eq (b := f_X9_has S q6 v1) 52 dX9_pass_40 (by decide) (fun c10 => ?_) (fun c10 => ?_)
        · replace h := itn c10 h
          refine mG.aload_n 0 dX9_pass_52 rfl ?_
          refine mG.iload_n 2 dX9_pass_53 rfl ?_
          refine mG.aload_n 0 dX9_pass_54 rfl ?_
          refine mG.get (v := .ref (t + 1)) dX9_pass_55 mfX9_7 ht (lr9_a ht) ?_
          refine mG.bipush (v := 8) dX9_pass_58 (by decide) ?_
          obtain ⟨b7, h⟩ := ckp h
          refine mG.iald dX9_pass_60 (lk9_a ht) (ll9_a ht) (inbp b7) ?_
          obtain ⟨q8, hq8, h⟩ := bdp h
          refine mG.callV0 (as := [.int (v2), .int (S.1 (t + 1) (8 : Int32).toNatClampNeg)]) (st := []) (S2 := q8.1) (r := some (.int (q8.2))) dX9_pass_61 mvX9_earnsOn wk41_9 rfl ht rfl (by decide) (Nat.le_of_ble_eq_true rfl) (c_X9_earnsOn ht hq8) ?_
          refine mG.sub (lv2 := [(0, .ref (t)), (1, .int (v1)), (2, .int (v2))]) [0, 1, 2] rfl ?_
          exact gX9_pass_64 ht (fun S v1 v2 h => by exact ih S v1 v2  h)  q8.1 v1 v2 q8.2  h
        · replace h := itp c10 h
          refine mG.aload_n 0 dX9_pass_43 rfl ?_
          refine mG.iload_n 2 dX9_pass_44 rfl ?_
          obtain ⟨q9, hq9, h⟩ := bdp h
          refine mG.callV0 (as := [.int (v2)]) (st := []) (S2 := q9.1) (r := some (.int (q9.2))) dX9_pass_45 mvX9_losesOf wk41_1 rfl ht rfl (by decide) (Nat.le_of_ble_eq_true rfl) (c_X9_losesOf ht hq9) ?_
          refine mG.ineg dX9_pass_48 ?_
          refine mG.goto 64 dX9_pass_49 (by decide) ?_
          refine mG.sub (lv2 := [(0, .ref (t)), (1, .int (v1)), (2, .int (v2))]) [0, 1, 2] rfl ?_
          exact gX9_pass_64 ht (fun S v1 v2 h => by exact ih S v1 v2  h)  q9.1 v1 v2 (-q9.2)  h
      · replace h := itp c11 h
        refine mG.goto 87 dX9_pass_27 (by decide) ?_
        refine mG.iinc 2 (u := v2 + 1) (lv2 := [(2, .int (v2 + 1)), (0, .ref (t)), (1, .int (v1))]) dX9_pass_87 rfl rfl (by decide) rfl ?_
        refine mG.goto 7 dX9_pass_90 (by decide) ?_
        refine mG.sub (lv2 := [(0, .ref (t)), (1, .int (v1)), (2, .int (v2 + 1))]) [1, 2, 0] rfl ?_
        exact ih S v1 (v2 + 1)  h
def f_X9_pass (F : Nat) (S : mS) (t : Nat) : Option mS := bd (f_X9_date F S t) fun q1 => lX9_pass_7 F  t F S q1 (0 : Int32)
set_option maxHeartbeats 4000000 in
set_option maxRecDepth 100000 in
theorem c_X9_pass {F : Nat} {S : mS} {t : Nat} {R : mS} (ht : kd0 t = 9) (h : f_X9_pass F S t = some R) : mCt μX9_pass 8 0 0 E0 S [.ref (t)] (mQe R none) := by
  unfold f_X9_pass at h
  refine mCt.of (by decide) (Nat.le_of_ble_eq_true rfl) ?_
  intro x
  refine mG.aload_n 0 dX9_pass_0 rfl ?_
  obtain ⟨q1, hq1, h⟩ := bdp h
  refine mG.callV0 (as := []) (st := []) (S2 := S) (r := some (.int (q1))) dX9_pass_1 mvX9_date wk33_12 rfl ht rfl (by decide) (Nat.le_of_ble_eq_true rfl) (c_X9_date ht hq1) ?_
  refine mG.istore_n (lv2 := [(1, .int (q1)), (0, .ref (t))]) dX9_pass_4 rfl (by decide) rfl ?_
  refine mG.iconst (v := 0) dX9_pass_5 rfl ?_
  refine mG.istore_n (lv2 := [(2, .int 0), (1, .int (q1)), (0, .ref (t))]) dX9_pass_6 rfl (by decide) rfl ?_
  refine mG.sub (lv2 := [(0, .ref (t)), (1, .int (q1)), (2, .int 0)]) [2, 1, 0] rfl ?_
  exact gX9_pass_7 ht  F S q1 (0 : Int32)  h
theorem dX9_keep_0 : decode cX9_keep 0 = .ok (.aload_n 0, 1) := by decide +kernel
theorem dX9_keep_1 : decode cX9_keep 1 = .ok (.getfield 7, 3) := by decide +kernel
theorem dX9_keep_4 : decode cX9_keep 4 = .ok (.iconst 3, 1) := by decide +kernel
theorem dX9_keep_5 : decode cX9_keep 5 = .ok (.iaload, 1) := by decide +kernel
theorem dX9_keep_6 : decode cX9_keep 6 = .ok (.bipush 30, 2) := by decide +kernel
theorem dX9_keep_8 : decode cX9_keep 8 = .ok (.if_icmp .ne 47, 3) := by decide +kernel
theorem dX9_keep_11 : decode cX9_keep 11 = .ok (.iconst 0, 1) := by decide +kernel
theorem dX9_keep_12 : decode cX9_keep 12 = .ok (.istore_n 1, 1) := by decide +kernel
theorem dX9_keep_13 : decode cX9_keep 13 = .ok (.iload_n 1, 1) := by decide +kernel
theorem dX9_keep_14 : decode cX9_keep 14 = .ok (.sipush 2088, 3) := by decide +kernel
theorem dX9_keep_17 : decode cX9_keep 17 = .ok (.if_icmp .ge 28, 3) := by decide +kernel
theorem dX9_keep_20 : decode cX9_keep 20 = .ok (.aload_n 0, 1) := by decide +kernel
theorem dX9_keep_21 : decode cX9_keep 21 = .ok (.getfield 7, 3) := by decide +kernel
theorem dX9_keep_24 : decode cX9_keep 24 = .ok (.bipush 108, 2) := by decide +kernel
theorem dX9_keep_26 : decode cX9_keep 26 = .ok (.iload_n 1, 1) := by decide +kernel
theorem dX9_keep_27 : decode cX9_keep 27 = .ok (.iadd, 1) := by decide +kernel
theorem dX9_keep_28 : decode cX9_keep 28 = .ok (.aload_n 0, 1) := by decide +kernel
theorem dX9_keep_29 : decode cX9_keep 29 = .ok (.getfield 7, 3) := by decide +kernel
theorem dX9_keep_32 : decode cX9_keep 32 = .ok (.sipush 180, 3) := by decide +kernel
theorem dX9_keep_35 : decode cX9_keep 35 = .ok (.iload_n 1, 1) := by decide +kernel
theorem dX9_keep_36 : decode cX9_keep 36 = .ok (.iadd, 1) := by decide +kernel
theorem dX9_keep_37 : decode cX9_keep 37 = .ok (.iaload, 1) := by decide +kernel
theorem dX9_keep_38 : decode cX9_keep 38 = .ok (.iastore, 1) := by decide +kernel
theorem dX9_keep_39 : decode cX9_keep 39 = .ok (.iinc 1 1, 3) := by decide +kernel
theorem dX9_keep_42 : decode cX9_keep 42 = .ok (.goto (-29), 3) := by decide +kernel
theorem dX9_keep_45 : decode cX9_keep 45 = .ok (.aload_n 0, 1) := by decide +kernel
theorem dX9_keep_46 : decode cX9_keep 46 = .ok (.getfield 7, 3) := by decide +kernel
theorem dX9_keep_49 : decode cX9_keep 49 = .ok (.iconst 3, 1) := by decide +kernel
theorem dX9_keep_50 : decode cX9_keep 50 = .ok (.dup2, 1) := by decide +kernel
theorem dX9_keep_51 : decode cX9_keep 51 = .ok (.iaload, 1) := by decide +kernel
theorem dX9_keep_52 : decode cX9_keep 52 = .ok (.iconst 1, 1) := by decide +kernel
theorem dX9_keep_53 : decode cX9_keep 53 = .ok (.isub, 1) := by decide +kernel
theorem dX9_keep_54 : decode cX9_keep 54 = .ok (.iastore, 1) := by decide +kernel
theorem dX9_keep_55 : decode cX9_keep 55 = .ok (.bipush 108, 2) := by decide +kernel
theorem dX9_keep_57 : decode cX9_keep 57 = .ok (.bipush 72, 2) := by decide +kernel
theorem dX9_keep_59 : decode cX9_keep 59 = .ok (.aload_n 0, 1) := by decide +kernel
theorem dX9_keep_60 : decode cX9_keep 60 = .ok (.getfield 7, 3) := by decide +kernel
theorem dX9_keep_63 : decode cX9_keep 63 = .ok (.iconst 3, 1) := by decide +kernel
theorem dX9_keep_64 : decode cX9_keep 64 = .ok (.iaload, 1) := by decide +kernel
theorem dX9_keep_65 : decode cX9_keep 65 = .ok (.imul, 1) := by decide +kernel
theorem dX9_keep_66 : decode cX9_keep 66 = .ok (.iadd, 1) := by decide +kernel
theorem dX9_keep_67 : decode cX9_keep 67 = .ok (.istore_n 1, 1) := by decide +kernel
theorem dX9_keep_68 : decode cX9_keep 68 = .ok (.aload_n 0, 1) := by decide +kernel
theorem dX9_keep_69 : decode cX9_keep 69 = .ok (.getfield 7, 3) := by decide +kernel
theorem dX9_keep_72 : decode cX9_keep 72 = .ok (.iload_n 1, 1) := by decide +kernel
theorem dX9_keep_73 : decode cX9_keep 73 = .ok (.aload_n 0, 1) := by decide +kernel
theorem dX9_keep_74 : decode cX9_keep 74 = .ok (.getfield 7, 3) := by decide +kernel
theorem dX9_keep_77 : decode cX9_keep 77 = .ok (.iconst 0, 1) := by decide +kernel
theorem dX9_keep_78 : decode cX9_keep 78 = .ok (.iaload, 1) := by decide +kernel
theorem dX9_keep_79 : decode cX9_keep 79 = .ok (.iastore, 1) := by decide +kernel
theorem dX9_keep_80 : decode cX9_keep 80 = .ok (.iconst 0, 1) := by decide +kernel
theorem dX9_keep_81 : decode cX9_keep 81 = .ok (.istore_n 2, 1) := by decide +kernel
theorem dX9_keep_82 : decode cX9_keep 82 = .ok (.iload_n 2, 1) := by decide +kernel
theorem dX9_keep_83 : decode cX9_keep 83 = .ok (.iconst 3, 1) := by decide +kernel
theorem dX9_keep_84 : decode cX9_keep 84 = .ok (.if_icmp .ge 28, 3) := by decide +kernel
theorem dX9_keep_87 : decode cX9_keep 87 = .ok (.aload_n 0, 1) := by decide +kernel
theorem dX9_keep_88 : decode cX9_keep 88 = .ok (.getfield 7, 3) := by decide +kernel
theorem dX9_keep_91 : decode cX9_keep 91 = .ok (.iload_n 1, 1) := by decide +kernel
theorem dX9_keep_92 : decode cX9_keep 92 = .ok (.iconst 1, 1) := by decide +kernel
theorem dX9_keep_93 : decode cX9_keep 93 = .ok (.iadd, 1) := by decide +kernel
theorem dX9_keep_94 : decode cX9_keep 94 = .ok (.iload_n 2, 1) := by decide +kernel
theorem dX9_keep_95 : decode cX9_keep 95 = .ok (.iadd, 1) := by decide +kernel
theorem dX9_keep_96 : decode cX9_keep 96 = .ok (.aload_n 0, 1) := by decide +kernel
theorem dX9_keep_97 : decode cX9_keep 97 = .ok (.getfield 7, 3) := by decide +kernel
theorem dX9_keep_100 : decode cX9_keep 100 = .ok (.bipush 8, 2) := by decide +kernel
theorem dX9_keep_102 : decode cX9_keep 102 = .ok (.iload_n 2, 1) := by decide +kernel
theorem dX9_keep_103 : decode cX9_keep 103 = .ok (.iadd, 1) := by decide +kernel
theorem dX9_keep_104 : decode cX9_keep 104 = .ok (.iaload, 1) := by decide +kernel
theorem dX9_keep_105 : decode cX9_keep 105 = .ok (.iastore, 1) := by decide +kernel
theorem dX9_keep_106 : decode cX9_keep 106 = .ok (.iinc 2 1, 3) := by decide +kernel
theorem dX9_keep_109 : decode cX9_keep 109 = .ok (.goto (-27), 3) := by decide +kernel
theorem dX9_keep_112 : decode cX9_keep 112 = .ok (.iconst 0, 1) := by decide +kernel
theorem dX9_keep_113 : decode cX9_keep 113 = .ok (.istore_n 2, 1) := by decide +kernel
theorem dX9_keep_114 : decode cX9_keep 114 = .ok (.iload_n 2, 1) := by decide +kernel
theorem dX9_keep_115 : decode cX9_keep 115 = .ok (.bipush 7, 2) := by decide +kernel
theorem dX9_keep_117 : decode cX9_keep 117 = .ok (.if_icmp .ge 42, 3) := by decide +kernel
theorem dX9_keep_120 : decode cX9_keep 120 = .ok (.iconst 0, 1) := by decide +kernel
theorem dX9_keep_121 : decode cX9_keep 121 = .ok (.istore_n 3, 1) := by decide +kernel
theorem dX9_keep_122 : decode cX9_keep 122 = .ok (.iload_n 3, 1) := by decide +kernel
theorem dX9_keep_123 : decode cX9_keep 123 = .ok (.iconst 4, 1) := by decide +kernel
theorem dX9_keep_124 : decode cX9_keep 124 = .ok (.if_icmp .ge 29, 3) := by decide +kernel
theorem dX9_keep_127 : decode cX9_keep 127 = .ok (.aload_n 0, 1) := by decide +kernel
theorem dX9_keep_128 : decode cX9_keep 128 = .ok (.getfield 7, 3) := by decide +kernel
theorem dX9_keep_131 : decode cX9_keep 131 = .ok (.iload_n 1, 1) := by decide +kernel
theorem dX9_keep_132 : decode cX9_keep 132 = .ok (.iconst 4, 1) := by decide +kernel
theorem dX9_keep_133 : decode cX9_keep 133 = .ok (.iadd, 1) := by decide +kernel
theorem dX9_keep_134 : decode cX9_keep 134 = .ok (.iconst 4, 1) := by decide +kernel
theorem dX9_keep_135 : decode cX9_keep 135 = .ok (.iload_n 2, 1) := by decide +kernel
theorem dX9_keep_136 : decode cX9_keep 136 = .ok (.imul, 1) := by decide +kernel
theorem dX9_keep_137 : decode cX9_keep 137 = .ok (.iadd, 1) := by decide +kernel
theorem dX9_keep_138 : decode cX9_keep 138 = .ok (.iload_n 3, 1) := by decide +kernel
theorem dX9_keep_139 : decode cX9_keep 139 = .ok (.iadd, 1) := by decide +kernel
theorem dX9_keep_140 : decode cX9_keep 140 = .ok (.aload_n 0, 1) := by decide +kernel
theorem dX9_keep_141 : decode cX9_keep 141 = .ok (.iload_n 2, 1) := by decide +kernel
theorem dX9_keep_142 : decode cX9_keep 142 = .ok (.iload_n 3, 1) := by decide +kernel
theorem dX9_keep_143 : decode cX9_keep 143 = .ok (.invokevirtual 73, 3) := by decide +kernel
theorem dX9_keep_146 : decode cX9_keep 146 = .ok (.iastore, 1) := by decide +kernel
theorem dX9_keep_147 : decode cX9_keep 147 = .ok (.iinc 3 1, 3) := by decide +kernel
theorem dX9_keep_150 : decode cX9_keep 150 = .ok (.goto (-28), 3) := by decide +kernel
theorem dX9_keep_153 : decode cX9_keep 153 = .ok (.iinc 2 1, 3) := by decide +kernel
theorem dX9_keep_156 : decode cX9_keep 156 = .ok (.goto (-42), 3) := by decide +kernel
theorem dX9_keep_159 : decode cX9_keep 159 = .ok (.iconst 0, 1) := by decide +kernel
theorem dX9_keep_160 : decode cX9_keep 160 = .ok (.istore_n 2, 1) := by decide +kernel
theorem dX9_keep_161 : decode cX9_keep 161 = .ok (.iload_n 2, 1) := by decide +kernel
theorem dX9_keep_162 : decode cX9_keep 162 = .ok (.bipush 40, 2) := by decide +kernel
theorem dX9_keep_164 : decode cX9_keep 164 = .ok (.if_icmp .ge 30, 3) := by decide +kernel
theorem dX9_keep_167 : decode cX9_keep 167 = .ok (.aload_n 0, 1) := by decide +kernel
theorem dX9_keep_168 : decode cX9_keep 168 = .ok (.getfield 7, 3) := by decide +kernel
theorem dX9_keep_171 : decode cX9_keep 171 = .ok (.iload_n 1, 1) := by decide +kernel
theorem dX9_keep_172 : decode cX9_keep 172 = .ok (.bipush 32, 2) := by decide +kernel
theorem dX9_keep_174 : decode cX9_keep 174 = .ok (.iadd, 1) := by decide +kernel
theorem dX9_keep_175 : decode cX9_keep 175 = .ok (.iload_n 2, 1) := by decide +kernel
theorem dX9_keep_176 : decode cX9_keep 176 = .ok (.iadd, 1) := by decide +kernel
theorem dX9_keep_177 : decode cX9_keep 177 = .ok (.aload_n 0, 1) := by decide +kernel
theorem dX9_keep_178 : decode cX9_keep 178 = .ok (.getfield 7, 3) := by decide +kernel
theorem dX9_keep_181 : decode cX9_keep 181 = .ok (.sipush 2268, 3) := by decide +kernel
theorem dX9_keep_184 : decode cX9_keep 184 = .ok (.iload_n 2, 1) := by decide +kernel
theorem dX9_keep_185 : decode cX9_keep 185 = .ok (.iadd, 1) := by decide +kernel
theorem dX9_keep_186 : decode cX9_keep 186 = .ok (.iaload, 1) := by decide +kernel
theorem dX9_keep_187 : decode cX9_keep 187 = .ok (.iastore, 1) := by decide +kernel
theorem dX9_keep_188 : decode cX9_keep 188 = .ok (.iinc 2 1, 3) := by decide +kernel
theorem dX9_keep_191 : decode cX9_keep 191 = .ok (.goto (-30), 3) := by decide +kernel
theorem dX9_keep_194 : decode cX9_keep 194 = .ok (.aload_n 0, 1) := by decide +kernel
theorem dX9_keep_195 : decode cX9_keep 195 = .ok (.getfield 7, 3) := by decide +kernel
theorem dX9_keep_198 : decode cX9_keep 198 = .ok (.iconst 3, 1) := by decide +kernel
theorem dX9_keep_199 : decode cX9_keep 199 = .ok (.dup2, 1) := by decide +kernel
theorem dX9_keep_200 : decode cX9_keep 200 = .ok (.iaload, 1) := by decide +kernel
theorem dX9_keep_201 : decode cX9_keep 201 = .ok (.iconst 1, 1) := by decide +kernel
theorem dX9_keep_202 : decode cX9_keep 202 = .ok (.iadd, 1) := by decide +kernel
theorem dX9_keep_203 : decode cX9_keep 203 = .ok (.iastore, 1) := by decide +kernel
theorem dX9_keep_204 : decode cX9_keep 204 = .ok (.return_, 1) := by decide +kernel
def lX9_keep_13 (F : Nat) (K55 : mS → Option mS) (t : Nat) : Nat → mS → Int32 → Option mS
  | 0, _, _ => none
  | n + 1, S, v1 => if (2088 : Int32) ≤ v1 then (ck (inb (3 : Int32) 2308) (ck (inb (3 : Int32) 2308) (stp (sI S (t + 1) (3 : Int32).toNatClampNeg ((S.1 (t + 1) (3 : Int32).toNatClampNeg) - (1 : Int32))) fun S3 => K55 S3 ))) else (ck (inb ((180 : Int32) + v1) 2308) (ck (inb ((108 : Int32) + v1) 2308) (stp (sI S (t + 1) ((108 : Int32) + v1).toNatClampNeg (S.1 (t + 1) ((180 : Int32) + v1).toNatClampNeg)) fun S6 => lX9_keep_13 F K55 t n S6 (v1 + 1))))
set_option maxHeartbeats 4000000 in
set_option maxRecDepth 100000 in
theorem gX9_keep_13 {x : mX} {F : Nat} {t : Nat}  {K55 : mS → Option mS} {R : mS} (ht : kd0 t = 9) (hK55 : ∀ (S : mS)  , K55 S  = some R → mG x μX9_keep 2 0 0 (mQe R none) 0 0 E0 S 55 [(0, .ref (t))] []) : ∀ (n : Nat) (S : mS) (v1 : Int32), lX9_keep_13 F K55 t n S v1 = some R → mG x μX9_keep 2 0 0 (mQe R none) 0 0 E0 S 13 [(0, .ref (t)), (1, .int (v1))] [] := by
  intro n
  induction n with
  | zero =>
    intro S v1 h
    cases h
  | succ n ih =>
    intro S v1 h
    unfold lX9_keep_13 at h
    refine mG.iload_n 1 dX9_keep_13 rfl ?_
    refine mG.sipush (v := 2088) dX9_keep_14 (by decide) ?_
    refine mG.icmp_ge 45 dX9_keep_17 (by decide) (fun c7 => ?_) (fun c7 => ?_)
    · replace h := itp c7 h
      refine mG.aload_n 0 dX9_keep_45 rfl ?_
      refine mG.get (v := .ref (t + 1)) dX9_keep_46 mfX9_7 ht (lr9_a ht) ?_
      refine mG.iconst (v := 3) dX9_keep_49 rfl ?_
      refine mG.dup2 dX9_keep_50 rfl rfl ?_
      obtain ⟨b1, h⟩ := ckp h
      refine mG.iald dX9_keep_51 (lk9_a ht) (ll9_a ht) (inbp b1) ?_
      refine mG.iconst (v := 1) dX9_keep_52 rfl ?_
      refine mG.isub dX9_keep_53 ?_
      obtain ⟨b2, h⟩ := ckp h
      obtain ⟨S3, hS3, h⟩ := stpp h
      refine mG.iast dX9_keep_54 (lk9_a ht) (ll9_a ht) (inbp b2) hS3 ?_
      refine mG.sub (lv2 := [(0, .ref (t))]) [0] rfl ?_
      exact hK55 S3   h
    · replace h := itn c7 h
      refine mG.aload_n 0 dX9_keep_20 rfl ?_
      refine mG.get (v := .ref (t + 1)) dX9_keep_21 mfX9_7 ht (lr9_a ht) ?_
      refine mG.bipush (v := 108) dX9_keep_24 (by decide) ?_
      refine mG.iload_n 1 dX9_keep_26 rfl ?_
      refine mG.iadd dX9_keep_27 ?_
      refine mG.aload_n 0 dX9_keep_28 rfl ?_
      refine mG.get (v := .ref (t + 1)) dX9_keep_29 mfX9_7 ht (lr9_a ht) ?_
      refine mG.sipush (v := 180) dX9_keep_32 (by decide) ?_
      refine mG.iload_n 1 dX9_keep_35 rfl ?_
      refine mG.iadd dX9_keep_36 ?_
      obtain ⟨b4, h⟩ := ckp h
      refine mG.iald dX9_keep_37 (lk9_a ht) (ll9_a ht) (inbp b4) ?_
      obtain ⟨b5, h⟩ := ckp h
      obtain ⟨S6, hS6, h⟩ := stpp h
      refine mG.iast dX9_keep_38 (lk9_a ht) (ll9_a ht) (inbp b5) hS6 ?_
      refine mG.iinc 1 (u := v1 + 1) (lv2 := [(1, .int (v1 + 1)), (0, .ref (t))]) dX9_keep_39 rfl rfl (by decide) rfl ?_
      refine mG.goto 13 dX9_keep_42 (by decide) ?_
      refine mG.sub (lv2 := [(0, .ref (t)), (1, .int (v1 + 1))]) [1, 0] rfl ?_
      exact ih S6 (v1 + 1)  h
def lX9_keep_55 (F : Nat) (K82 : mS → Int32 → Int32 → Option mS) (t : Nat) (S : mS)  : Option mS := ck (inb (3 : Int32) 2308) (ck (inb (0 : Int32) 2308) (ck (inb ((108 : Int32) + ((72 : Int32) * (S.1 (t + 1) (3 : Int32).toNatClampNeg))) 2308) (stp (sI S (t + 1) ((108 : Int32) + ((72 : Int32) * (S.1 (t + 1) (3 : Int32).toNatClampNeg))).toNatClampNeg (S.1 (t + 1) (0 : Int32).toNatClampNeg)) fun S4 => K82 S4 ((108 : Int32) + ((72 : Int32) * (S.1 (t + 1) (3 : Int32).toNatClampNeg))) (0 : Int32))))
set_option maxHeartbeats 4000000 in
set_option maxRecDepth 100000 in
theorem gX9_keep_55 {x : mX} {F : Nat} {t : Nat} {K82 : mS → Int32 → Int32 → Option mS} {R : mS} (ht : kd0 t = 9) (hK82 : ∀ (S : mS) (v1 : Int32) (v2 : Int32) , K82 S v1 v2 = some R → mG x μX9_keep 2 0 0 (mQe R none) 0 0 E0 S 82 [(0, .ref (t)), (1, .int (v1)), (2, .int (v2))] []) (S : mS)   (h : lX9_keep_55 F K82 t S  = some R) : mG x μX9_keep 2 0 0 (mQe R none) 0 0 E0 S 55 [(0, .ref (t))] [] := by
  unfold lX9_keep_55 at h
  refine mG.bipush (v := 108) dX9_keep_55 (by decide) ?_
  refine mG.bipush (v := 72) dX9_keep_57 (by decide) ?_
  refine mG.aload_n 0 dX9_keep_59 rfl ?_
  refine mG.get (v := .ref (t + 1)) dX9_keep_60 mfX9_7 ht (lr9_a ht) ?_
  refine mG.iconst (v := 3) dX9_keep_63 rfl ?_
  obtain ⟨b1, h⟩ := ckp h
  refine mG.iald dX9_keep_64 (lk9_a ht) (ll9_a ht) (inbp b1) ?_
  refine mG.imul dX9_keep_65 ?_
  refine mG.iadd dX9_keep_66 ?_
  refine mG.istore_n (lv2 := [(1, .int ((108 : Int32) + ((72 : Int32) * (S.1 (t + 1) (3 : Int32).toNatClampNeg)))), (0, .ref (t))]) dX9_keep_67 rfl (by decide) rfl ?_
  refine mG.aload_n 1 dX9_keep_68 rfl ?_
  refine mG.get (v := .ref (t + 1)) dX9_keep_69 mfX9_7 ht (lr9_a ht) ?_
  refine mG.iload_n 0 dX9_keep_72 rfl ?_
  refine mG.aload_n 1 dX9_keep_73 rfl ?_
  refine mG.get (v := .ref (t + 1)) dX9_keep_74 mfX9_7 ht (lr9_a ht) ?_
  refine mG.iconst (v := 0) dX9_keep_77 rfl ?_
  obtain ⟨b2, h⟩ := ckp h
  refine mG.iald dX9_keep_78 (lk9_a ht) (ll9_a ht) (inbp b2) ?_
  obtain ⟨b3, h⟩ := ckp h
  obtain ⟨S4, hS4, h⟩ := stpp h
  refine mG.iast dX9_keep_79 (lk9_a ht) (ll9_a ht) (inbp b3) hS4 ?_
  refine mG.iconst (v := 0) dX9_keep_80 rfl ?_
  refine mG.istore_n (lv2 := [(2, .int 0), (1, .int ((108 : Int32) + ((72 : Int32) * (S.1 (t + 1) (3 : Int32).toNatClampNeg)))), (0, .ref (t))]) dX9_keep_81 rfl (by decide) rfl ?_
  refine mG.sub (lv2 := [(0, .ref (t)), (1, .int ((108 : Int32) + ((72 : Int32) * (S.1 (t + 1) (3 : Int32).toNatClampNeg)))), (2, .int 0)]) [2, 1, 0] rfl ?_
  exact hK82 S4 ((108 : Int32) + ((72 : Int32) * (S.1 (t + 1) (3 : Int32).toNatClampNeg))) (0 : Int32)  h
def lX9_keep_82 (F : Nat) (K114 : mS → Int32 → Int32 → Option mS) (t : Nat) : Nat → mS → Int32 → Int32 → Option mS
  | 0, _, _, _ => none
  | n + 1, S, v1, v2 => if (3 : Int32) ≤ v2 then (K114 S v1 (0 : Int32)) else (ck (inb ((8 : Int32) + v2) 2308) (ck (inb ((v1 + (1 : Int32)) + v2) 2308) (stp (sI S (t + 1) ((v1 + (1 : Int32)) + v2).toNatClampNeg (S.1 (t + 1) ((8 : Int32) + v2).toNatClampNeg)) fun S3 => lX9_keep_82 F K114 t n S3 v1 (v2 + 1))))
set_option maxHeartbeats 4000000 in
set_option maxRecDepth 100000 in
theorem gX9_keep_82 {x : mX} {F : Nat} {t : Nat}  {K114 : mS → Int32 → Int32 → Option mS} {R : mS} (ht : kd0 t = 9) (hK114 : ∀ (S : mS) (v1 : Int32) (v2 : Int32) , K114 S v1 v2 = some R → mG x μX9_keep 2 0 0 (mQe R none) 0 0 E0 S 114 [(0, .ref (t)), (1, .int (v1)), (2, .int (v2))] []) : ∀ (n : Nat) (S : mS) (v1 : Int32) (v2 : Int32), lX9_keep_82 F K114 t n S v1 v2 = some R → mG x μX9_keep 2 0 0 (mQe R none) 0 0 E0 S 82 [(0, .ref (t)), (1, .int (v1)), (2, .int (v2))] [] := by
  intro n
  induction n with
  | zero =>
    intro S v1 v2 h
    cases h
  | succ n ih =>
    intro S v1 v2 h
    unfold lX9_keep_82 at h
    refine mG.iload_n 2 dX9_keep_82 rfl ?_
    refine mG.iconst (v := 3) dX9_keep_83 rfl ?_
    refine mG.icmp_ge 112 dX9_keep_84 (by decide) (fun c4 => ?_) (fun c4 => ?_)
    · replace h := itp c4 h
      refine mG.iconst (v := 0) dX9_keep_112 rfl ?_
      refine mG.istore_n (lv2 := [(2, .int 0), (0, .ref (t)), (1, .int (v1))]) dX9_keep_113 rfl (by decide) rfl ?_
      refine mG.sub (lv2 := [(0, .ref (t)), (1, .int (v1)), (2, .int 0)]) [1, 2, 0] rfl ?_
      exact hK114 S v1 (0 : Int32)  h
    · replace h := itn c4 h
      refine mG.aload_n 0 dX9_keep_87 rfl ?_
      refine mG.get (v := .ref (t + 1)) dX9_keep_88 mfX9_7 ht (lr9_a ht) ?_
      refine mG.iload_n 1 dX9_keep_91 rfl ?_
      refine mG.iconst (v := 1) dX9_keep_92 rfl ?_
      refine mG.iadd dX9_keep_93 ?_
      refine mG.iload_n 2 dX9_keep_94 rfl ?_
      refine mG.iadd dX9_keep_95 ?_
      refine mG.aload_n 0 dX9_keep_96 rfl ?_
      refine mG.get (v := .ref (t + 1)) dX9_keep_97 mfX9_7 ht (lr9_a ht) ?_
      refine mG.bipush (v := 8) dX9_keep_100 (by decide) ?_
      refine mG.iload_n 2 dX9_keep_102 rfl ?_
      refine mG.iadd dX9_keep_103 ?_
      obtain ⟨b1, h⟩ := ckp h
      refine mG.iald dX9_keep_104 (lk9_a ht) (ll9_a ht) (inbp b1) ?_
      obtain ⟨b2, h⟩ := ckp h
      obtain ⟨S3, hS3, h⟩ := stpp h
      refine mG.iast dX9_keep_105 (lk9_a ht) (ll9_a ht) (inbp b2) hS3 ?_
      refine mG.iinc 2 (u := v2 + 1) (lv2 := [(2, .int (v2 + 1)), (0, .ref (t)), (1, .int (v1))]) dX9_keep_106 rfl rfl (by decide) rfl ?_
      refine mG.goto 82 dX9_keep_109 (by decide) ?_
      refine mG.sub (lv2 := [(0, .ref (t)), (1, .int (v1)), (2, .int (v2 + 1))]) [1, 2, 0] rfl ?_
      exact ih S3 v1 (v2 + 1)  h
def lX9_keep_122 (F : Nat) (K114 : mS → Int32 → Int32 → Option mS) (t : Nat) : Nat → mS → Int32 → Int32 → Int32 → Option mS
  | 0, _, _, _, _ => none
  | n + 1, S, v1, v2, v3 => if (4 : Int32) ≤ v3 then (K114 S v1 (v2 + 1)) else (bd (f_X9_get F S t v2 v3) fun q1 => ck (inb (((v1 + (4 : Int32)) + ((4 : Int32) * v2)) + v3) 2308) (stp (sI S (t + 1) (((v1 + (4 : Int32)) + ((4 : Int32) * v2)) + v3).toNatClampNeg q1) fun S3 => lX9_keep_122 F K114 t n S3 v1 v2 (v3 + 1)))
set_option maxHeartbeats 4000000 in
set_option maxRecDepth 100000 in
theorem gX9_keep_122 {x : mX} {F : Nat} {t : Nat}  {K114 : mS → Int32 → Int32 → Option mS} {R : mS} (ht : kd0 t = 9) (hK114 : ∀ (S : mS) (v1 : Int32) (v2 : Int32) , K114 S v1 v2 = some R → mG x μX9_keep 2 0 0 (mQe R none) 0 0 E0 S 114 [(0, .ref (t)), (1, .int (v1)), (2, .int (v2))] []) : ∀ (n : Nat) (S : mS) (v1 : Int32) (v2 : Int32) (v3 : Int32), lX9_keep_122 F K114 t n S v1 v2 v3 = some R → mG x μX9_keep 2 0 0 (mQe R none) 0 0 E0 S 122 [(0, .ref (t)), (1, .int (v1)), (2, .int (v2)), (3, .int (v3))] [] := by
  intro n
  induction n with
  | zero =>
    intro S v1 v2 v3 h
    cases h
  | succ n ih =>
    intro S v1 v2 v3 h
    unfold lX9_keep_122 at h
    refine mG.iload_n 3 dX9_keep_122 rfl ?_
    refine mG.iconst (v := 4) dX9_keep_123 rfl ?_
    refine mG.icmp_ge 153 dX9_keep_124 (by decide) (fun c4 => ?_) (fun c4 => ?_)
    · replace h := itp c4 h
      refine mG.iinc 2 (u := v2 + 1) (lv2 := [(2, .int (v2 + 1)), (0, .ref (t)), (1, .int (v1)), (3, .int (v3))]) dX9_keep_153 rfl rfl (by decide) rfl ?_
      refine mG.goto 114 dX9_keep_156 (by decide) ?_
      refine mG.sub (lv2 := [(0, .ref (t)), (1, .int (v1)), (2, .int (v2 + 1))]) [1, 2, 0] rfl ?_
      exact hK114 S v1 (v2 + 1)  h
    · replace h := itn c4 h
      refine mG.aload_n 0 dX9_keep_127 rfl ?_
      refine mG.get (v := .ref (t + 1)) dX9_keep_128 mfX9_7 ht (lr9_a ht) ?_
      refine mG.iload_n 1 dX9_keep_131 rfl ?_
      refine mG.iconst (v := 4) dX9_keep_132 rfl ?_
      refine mG.iadd dX9_keep_133 ?_
      refine mG.iconst (v := 4) dX9_keep_134 rfl ?_
      refine mG.iload_n 2 dX9_keep_135 rfl ?_
      refine mG.imul dX9_keep_136 ?_
      refine mG.iadd dX9_keep_137 ?_
      refine mG.iload_n 3 dX9_keep_138 rfl ?_
      refine mG.iadd dX9_keep_139 ?_
      refine mG.aload_n 0 dX9_keep_140 rfl ?_
      refine mG.iload_n 2 dX9_keep_141 rfl ?_
      refine mG.iload_n 3 dX9_keep_142 rfl ?_
      obtain ⟨q1, hq1, h⟩ := bdp h
      refine mG.callV0 (as := [.int (v2), .int (v3)]) (st := [.int (((v1 + (4 : Int32)) + ((4 : Int32) * v2)) + v3), .ref (t + 1)]) (S2 := S) (r := some (.int (q1))) dX9_keep_143 mvX9_get wk7_23 rfl ht rfl (by decide) (Nat.le_of_ble_eq_true rfl) (c_X9_get ht hq1) ?_
      obtain ⟨b2, h⟩ := ckp h
      obtain ⟨S3, hS3, h⟩ := stpp h
      refine mG.iast dX9_keep_146 (lk9_a ht) (ll9_a ht) (inbp b2) hS3 ?_
      refine mG.iinc 3 (u := v3 + 1) (lv2 := [(3, .int (v3 + 1)), (0, .ref (t)), (1, .int (v1)), (2, .int (v2))]) dX9_keep_147 rfl rfl (by decide) rfl ?_
      refine mG.goto 122 dX9_keep_150 (by decide) ?_
      refine mG.sub (lv2 := [(0, .ref (t)), (1, .int (v1)), (2, .int (v2)), (3, .int (v3 + 1))]) [1, 2, 3, 0] rfl ?_
      exact ih S3 v1 v2 (v3 + 1)  h
def lX9_keep_114 (F : Nat) (K161 : mS → Int32 → Int32 → Option mS) (t : Nat) : Nat → mS → Int32 → Int32 → Option mS
  | 0, _, _, _ => none
  | n + 1, S, v1, v2 => if (7 : Int32) ≤ v2 then (K161 S v1 (0 : Int32)) else (lX9_keep_122 F (fun (S : mS) (v1 : Int32) (v2 : Int32) => lX9_keep_114 F K161 t n S v1 v2) t F S v1 v2 (0 : Int32))
set_option maxHeartbeats 4000000 in
set_option maxRecDepth 100000 in
theorem gX9_keep_114 {x : mX} {F : Nat} {t : Nat}  {K161 : mS → Int32 → Int32 → Option mS} {R : mS} (ht : kd0 t = 9) (hK161 : ∀ (S : mS) (v1 : Int32) (v2 : Int32) , K161 S v1 v2 = some R → mG x μX9_keep 2 0 0 (mQe R none) 0 0 E0 S 161 [(0, .ref (t)), (1, .int (v1)), (2, .int (v2))] []) : ∀ (n : Nat) (S : mS) (v1 : Int32) (v2 : Int32), lX9_keep_114 F K161 t n S v1 v2 = some R → mG x μX9_keep 2 0 0 (mQe R none) 0 0 E0 S 114 [(0, .ref (t)), (1, .int (v1)), (2, .int (v2))] [] := by
  intro n
  induction n with
  | zero =>
    intro S v1 v2 h
    cases h
  | succ n ih =>
    intro S v1 v2 h
    unfold lX9_keep_114 at h
    refine mG.iload_n 2 dX9_keep_114 rfl ?_
    refine mG.bipush (v := 7) dX9_keep_115 (by decide) ?_
    refine mG.icmp_ge 159 dX9_keep_117 (by decide) (fun c1 => ?_) (fun c1 => ?_)
    · replace h := itp c1 h
      refine mG.iconst (v := 0) dX9_keep_159 rfl ?_
      refine mG.istore_n (lv2 := [(2, .int 0), (0, .ref (t)), (1, .int (v1))]) dX9_keep_160 rfl (by decide) rfl ?_
      refine mG.sub (lv2 := [(0, .ref (t)), (1, .int (v1)), (2, .int 0)]) [1, 2, 0] rfl ?_
      exact hK161 S v1 (0 : Int32)  h
    · replace h := itn c1 h
      refine mG.iconst (v := 0) dX9_keep_120 rfl ?_
      refine mG.istore_n (lv2 := [(3, .int 0), (0, .ref (t)), (1, .int (v1)), (2, .int (v2))]) dX9_keep_121 rfl (by decide) rfl ?_
      refine mG.sub (lv2 := [(0, .ref (t)), (1, .int (v1)), (2, .int (v2)), (3, .int 0)]) [1, 2, 3, 0] rfl ?_
      exact gX9_keep_122 ht (fun S v1 v2 h => by exact ih S v1 v2  h) F S v1 v2 (0 : Int32)  h
def lX9_keep_161 (F : Nat)  (t : Nat) : Nat → mS → Int32 → Int32 → Option mS
  | 0, _, _, _ => none
  | n + 1, S, v1, v2 => if (40 : Int32) ≤ v2 then (ck (inb (3 : Int32) 2308) (ck (inb (3 : Int32) 2308) (stp (sI S (t + 1) (3 : Int32).toNatClampNeg ((S.1 (t + 1) (3 : Int32).toNatClampNeg) + (1 : Int32))) fun S3 => some S3))) else (ck (inb ((2268 : Int32) + v2) 2308) (ck (inb ((v1 + (32 : Int32)) + v2) 2308) (stp (sI S (t + 1) ((v1 + (32 : Int32)) + v2).toNatClampNeg (S.1 (t + 1) ((2268 : Int32) + v2).toNatClampNeg)) fun S6 => lX9_keep_161 F  t n S6 v1 (v2 + 1))))
set_option maxHeartbeats 4000000 in
set_option maxRecDepth 100000 in
theorem gX9_keep_161 {x : mX} {F : Nat} {t : Nat}   {R : mS} (ht : kd0 t = 9)  : ∀ (n : Nat) (S : mS) (v1 : Int32) (v2 : Int32), lX9_keep_161 F  t n S v1 v2 = some R → mG x μX9_keep 2 0 0 (mQe R none) 0 0 E0 S 161 [(0, .ref (t)), (1, .int (v1)), (2, .int (v2))] [] := by
  intro n
  induction n with
  | zero =>
    intro S v1 v2 h
    cases h
  | succ n ih =>
    intro S v1 v2 h
    unfold lX9_keep_161 at h
    refine mG.iload_n 2 dX9_keep_161 rfl ?_
    refine mG.bipush (v := 40) dX9_keep_162 (by decide) ?_
    refine mG.icmp_ge 194 dX9_keep_164 (by decide) (fun c7 => ?_) (fun c7 => ?_)
    · replace h := itp c7 h
      refine mG.aload_n 0 dX9_keep_194 rfl ?_
      refine mG.get (v := .ref (t + 1)) dX9_keep_195 mfX9_7 ht (lr9_a ht) ?_
      refine mG.iconst (v := 3) dX9_keep_198 rfl ?_
      refine mG.dup2 dX9_keep_199 rfl rfl ?_
      obtain ⟨b1, h⟩ := ckp h
      refine mG.iald dX9_keep_200 (lk9_a ht) (ll9_a ht) (inbp b1) ?_
      refine mG.iconst (v := 1) dX9_keep_201 rfl ?_
      refine mG.iadd dX9_keep_202 ?_
      obtain ⟨b2, h⟩ := ckp h
      obtain ⟨S3, hS3, h⟩ := stpp h
      refine mG.iast dX9_keep_203 (lk9_a ht) (ll9_a ht) (inbp b2) hS3 ?_
      obtain rfl := Option.some.inj h
      exact mG.vret dX9_keep_204 rfl ⟨rfl, rfl, rfl⟩
    · replace h := itn c7 h
      refine mG.aload_n 0 dX9_keep_167 rfl ?_
      refine mG.get (v := .ref (t + 1)) dX9_keep_168 mfX9_7 ht (lr9_a ht) ?_
      refine mG.iload_n 1 dX9_keep_171 rfl ?_
      refine mG.bipush (v := 32) dX9_keep_172 (by decide) ?_
      refine mG.iadd dX9_keep_174 ?_
      refine mG.iload_n 2 dX9_keep_175 rfl ?_
      refine mG.iadd dX9_keep_176 ?_
      refine mG.aload_n 0 dX9_keep_177 rfl ?_
      refine mG.get (v := .ref (t + 1)) dX9_keep_178 mfX9_7 ht (lr9_a ht) ?_
      refine mG.sipush (v := 2268) dX9_keep_181 (by decide) ?_
      refine mG.iload_n 2 dX9_keep_184 rfl ?_
      refine mG.iadd dX9_keep_185 ?_
      obtain ⟨b4, h⟩ := ckp h
      refine mG.iald dX9_keep_186 (lk9_a ht) (ll9_a ht) (inbp b4) ?_
      obtain ⟨b5, h⟩ := ckp h
      obtain ⟨S6, hS6, h⟩ := stpp h
      refine mG.iast dX9_keep_187 (lk9_a ht) (ll9_a ht) (inbp b5) hS6 ?_
      refine mG.iinc 2 (u := v2 + 1) (lv2 := [(2, .int (v2 + 1)), (0, .ref (t)), (1, .int (v1))]) dX9_keep_188 rfl rfl (by decide) rfl ?_
      refine mG.goto 161 dX9_keep_191 (by decide) ?_
      refine mG.sub (lv2 := [(0, .ref (t)), (1, .int (v1)), (2, .int (v2 + 1))]) [1, 2, 0] rfl ?_
      exact ih S6 v1 (v2 + 1)  h
def f_X9_keep (F : Nat) (S : mS) (t : Nat) : Option mS := ck (inb (3 : Int32) 2308) (if (S.1 (t + 1) (3 : Int32).toNatClampNeg) = (30 : Int32) then (lX9_keep_13 F (fun (S : mS)  => lX9_keep_55 F (fun (S : mS) (v1 : Int32) (v2 : Int32) => lX9_keep_82 F (fun (S : mS) (v1 : Int32) (v2 : Int32) => lX9_keep_114 F (fun (S : mS) (v1 : Int32) (v2 : Int32) => lX9_keep_161 F  t F S v1 v2) t F S v1 v2) t F S v1 v2) t S ) t F S (0 : Int32)) else (lX9_keep_55 F (fun (S : mS) (v1 : Int32) (v2 : Int32) => lX9_keep_82 F (fun (S : mS) (v1 : Int32) (v2 : Int32) => lX9_keep_114 F (fun (S : mS) (v1 : Int32) (v2 : Int32) => lX9_keep_161 F  t F S v1 v2) t F S v1 v2) t F S v1 v2) t S ))
set_option maxHeartbeats 4000000 in
set_option maxRecDepth 100000 in
theorem c_X9_keep {F : Nat} {S : mS} {t : Nat} {R : mS} (ht : kd0 t = 9) (h : f_X9_keep F S t = some R) : mCt μX9_keep 2 0 0 E0 S [.ref (t)] (mQe R none) := by
  unfold f_X9_keep at h
  refine mCt.of (by decide) (Nat.le_of_ble_eq_true rfl) ?_
  intro x
  refine mG.aload_n 0 dX9_keep_0 rfl ?_
  refine mG.get (v := .ref (t + 1)) dX9_keep_1 mfX9_7 ht (lr9_a ht) ?_
  refine mG.iconst (v := 3) dX9_keep_4 rfl ?_
  obtain ⟨b1, h⟩ := ckp h
  refine mG.iald dX9_keep_5 (lk9_a ht) (ll9_a ht) (inbp b1) ?_
  refine mG.bipush (v := 30) dX9_keep_6 (by decide) ?_
  refine mG.icmp_ne 55 dX9_keep_8 (by decide) (fun c2 => ?_) (fun c2 => ?_)
  · replace h := itn c2 h
    refine mG.sub (lv2 := [(0, .ref (t))]) [0] rfl ?_
    exact gX9_keep_55 ht (fun S v1 v2 h => by exact gX9_keep_82 ht (fun S v1 v2 h => by exact gX9_keep_114 ht (fun S v1 v2 h => by exact gX9_keep_161 ht  F S v1 v2  h) F S v1 v2  h) F S v1 v2  h)  S   h
  · replace h := itp c2 h
    refine mG.iconst (v := 0) dX9_keep_11 rfl ?_
    refine mG.istore_n (lv2 := [(1, .int 0), (0, .ref (t))]) dX9_keep_12 rfl (by decide) rfl ?_
    refine mG.sub (lv2 := [(0, .ref (t)), (1, .int 0)]) [1, 0] rfl ?_
    exact gX9_keep_13 ht (fun S h => by exact gX9_keep_55 ht (fun S v1 v2 h => by exact gX9_keep_82 ht (fun S v1 v2 h => by exact gX9_keep_114 ht (fun S v1 v2 h => by exact gX9_keep_161 ht  F S v1 v2  h) F S v1 v2  h) F S v1 v2  h)  S   h) F S (0 : Int32)  h
theorem dX9_undo_0 : decode cX9_undo 0 = .ok (.aload_n 0, 1) := by decide +kernel
theorem dX9_undo_1 : decode cX9_undo 1 = .ok (.getfield 7, 3) := by decide +kernel
theorem dX9_undo_4 : decode cX9_undo 4 = .ok (.iconst 3, 1) := by decide +kernel
theorem dX9_undo_5 : decode cX9_undo 5 = .ok (.iaload, 1) := by decide +kernel
theorem dX9_undo_6 : decode cX9_undo 6 = .ok (.ifCond .ne 5, 3) := by decide +kernel
theorem dX9_undo_9 : decode cX9_undo 9 = .ok (.iconst (-1), 1) := by decide +kernel
theorem dX9_undo_10 : decode cX9_undo 10 = .ok (.ireturn, 1) := by decide +kernel
theorem dX9_undo_11 : decode cX9_undo 11 = .ok (.aload_n 0, 1) := by decide +kernel
theorem dX9_undo_12 : decode cX9_undo 12 = .ok (.getfield 7, 3) := by decide +kernel
theorem dX9_undo_15 : decode cX9_undo 15 = .ok (.iconst 3, 1) := by decide +kernel
theorem dX9_undo_16 : decode cX9_undo 16 = .ok (.dup2, 1) := by decide +kernel
theorem dX9_undo_17 : decode cX9_undo 17 = .ok (.iaload, 1) := by decide +kernel
theorem dX9_undo_18 : decode cX9_undo 18 = .ok (.iconst 1, 1) := by decide +kernel
theorem dX9_undo_19 : decode cX9_undo 19 = .ok (.isub, 1) := by decide +kernel
theorem dX9_undo_20 : decode cX9_undo 20 = .ok (.iastore, 1) := by decide +kernel
theorem dX9_undo_21 : decode cX9_undo 21 = .ok (.bipush 108, 2) := by decide +kernel
theorem dX9_undo_23 : decode cX9_undo 23 = .ok (.bipush 72, 2) := by decide +kernel
theorem dX9_undo_25 : decode cX9_undo 25 = .ok (.aload_n 0, 1) := by decide +kernel
theorem dX9_undo_26 : decode cX9_undo 26 = .ok (.getfield 7, 3) := by decide +kernel
theorem dX9_undo_29 : decode cX9_undo 29 = .ok (.iconst 3, 1) := by decide +kernel
theorem dX9_undo_30 : decode cX9_undo 30 = .ok (.iaload, 1) := by decide +kernel
theorem dX9_undo_31 : decode cX9_undo 31 = .ok (.imul, 1) := by decide +kernel
theorem dX9_undo_32 : decode cX9_undo 32 = .ok (.iadd, 1) := by decide +kernel
theorem dX9_undo_33 : decode cX9_undo 33 = .ok (.istore_n 1, 1) := by decide +kernel
theorem dX9_undo_34 : decode cX9_undo 34 = .ok (.iconst 0, 1) := by decide +kernel
theorem dX9_undo_35 : decode cX9_undo 35 = .ok (.istore_n 2, 1) := by decide +kernel
theorem dX9_undo_36 : decode cX9_undo 36 = .ok (.iload_n 2, 1) := by decide +kernel
theorem dX9_undo_37 : decode cX9_undo 37 = .ok (.iconst 3, 1) := by decide +kernel
theorem dX9_undo_38 : decode cX9_undo 38 = .ok (.if_icmp .ge 28, 3) := by decide +kernel
theorem dX9_undo_41 : decode cX9_undo 41 = .ok (.aload_n 0, 1) := by decide +kernel
theorem dX9_undo_42 : decode cX9_undo 42 = .ok (.getfield 7, 3) := by decide +kernel
theorem dX9_undo_45 : decode cX9_undo 45 = .ok (.bipush 8, 2) := by decide +kernel
theorem dX9_undo_47 : decode cX9_undo 47 = .ok (.iload_n 2, 1) := by decide +kernel
theorem dX9_undo_48 : decode cX9_undo 48 = .ok (.iadd, 1) := by decide +kernel
theorem dX9_undo_49 : decode cX9_undo 49 = .ok (.aload_n 0, 1) := by decide +kernel
theorem dX9_undo_50 : decode cX9_undo 50 = .ok (.getfield 7, 3) := by decide +kernel
theorem dX9_undo_53 : decode cX9_undo 53 = .ok (.iload_n 1, 1) := by decide +kernel
theorem dX9_undo_54 : decode cX9_undo 54 = .ok (.iconst 1, 1) := by decide +kernel
theorem dX9_undo_55 : decode cX9_undo 55 = .ok (.iadd, 1) := by decide +kernel
theorem dX9_undo_56 : decode cX9_undo 56 = .ok (.iload_n 2, 1) := by decide +kernel
theorem dX9_undo_57 : decode cX9_undo 57 = .ok (.iadd, 1) := by decide +kernel
theorem dX9_undo_58 : decode cX9_undo 58 = .ok (.iaload, 1) := by decide +kernel
theorem dX9_undo_59 : decode cX9_undo 59 = .ok (.iastore, 1) := by decide +kernel
theorem dX9_undo_60 : decode cX9_undo 60 = .ok (.iinc 2 1, 3) := by decide +kernel
theorem dX9_undo_63 : decode cX9_undo 63 = .ok (.goto (-27), 3) := by decide +kernel
theorem dX9_undo_66 : decode cX9_undo 66 = .ok (.iconst 0, 1) := by decide +kernel
theorem dX9_undo_67 : decode cX9_undo 67 = .ok (.istore_n 2, 1) := by decide +kernel
theorem dX9_undo_68 : decode cX9_undo 68 = .ok (.iload_n 2, 1) := by decide +kernel
theorem dX9_undo_69 : decode cX9_undo 69 = .ok (.aload_n 0, 1) := by decide +kernel
theorem dX9_undo_70 : decode cX9_undo 70 = .ok (.getfield 7, 3) := by decide +kernel
theorem dX9_undo_73 : decode cX9_undo 73 = .ok (.iconst 0, 1) := by decide +kernel
theorem dX9_undo_74 : decode cX9_undo 74 = .ok (.iaload, 1) := by decide +kernel
theorem dX9_undo_75 : decode cX9_undo 75 = .ok (.if_icmp .ge 67, 3) := by decide +kernel
theorem dX9_undo_78 : decode cX9_undo 78 = .ok (.iload_n 2, 1) := by decide +kernel
theorem dX9_undo_79 : decode cX9_undo 79 = .ok (.aload_n 0, 1) := by decide +kernel
theorem dX9_undo_80 : decode cX9_undo 80 = .ok (.getfield 7, 3) := by decide +kernel
theorem dX9_undo_83 : decode cX9_undo 83 = .ok (.iload_n 1, 1) := by decide +kernel
theorem dX9_undo_84 : decode cX9_undo 84 = .ok (.iaload, 1) := by decide +kernel
theorem dX9_undo_85 : decode cX9_undo 85 = .ok (.if_icmp .lt 8, 3) := by decide +kernel
theorem dX9_undo_88 : decode cX9_undo 88 = .ok (.aload_n 0, 1) := by decide +kernel
theorem dX9_undo_89 : decode cX9_undo 89 = .ok (.iload_n 2, 1) := by decide +kernel
theorem dX9_undo_90 : decode cX9_undo 90 = .ok (.invokevirtual 88, 3) := by decide +kernel
theorem dX9_undo_93 : decode cX9_undo 93 = .ok (.iconst 0, 1) := by decide +kernel
theorem dX9_undo_94 : decode cX9_undo 94 = .ok (.istore_n 3, 1) := by decide +kernel
theorem dX9_undo_95 : decode cX9_undo 95 = .ok (.iload_n 3, 1) := by decide +kernel
theorem dX9_undo_96 : decode cX9_undo 96 = .ok (.iconst 4, 1) := by decide +kernel
theorem dX9_undo_97 : decode cX9_undo 97 = .ok (.if_icmp .ge 39, 3) := by decide +kernel
theorem dX9_undo_100 : decode cX9_undo 100 = .ok (.iload_n 2, 1) := by decide +kernel
theorem dX9_undo_101 : decode cX9_undo 101 = .ok (.aload_n 0, 1) := by decide +kernel
theorem dX9_undo_102 : decode cX9_undo 102 = .ok (.getfield 7, 3) := by decide +kernel
theorem dX9_undo_105 : decode cX9_undo 105 = .ok (.iload_n 1, 1) := by decide +kernel
theorem dX9_undo_106 : decode cX9_undo 106 = .ok (.iaload, 1) := by decide +kernel
theorem dX9_undo_107 : decode cX9_undo 107 = .ok (.if_icmp .ge 29, 3) := by decide +kernel
theorem dX9_undo_110 : decode cX9_undo 110 = .ok (.aload_n 0, 1) := by decide +kernel
theorem dX9_undo_111 : decode cX9_undo 111 = .ok (.iload_n 2, 1) := by decide +kernel
theorem dX9_undo_112 : decode cX9_undo 112 = .ok (.iload_n 3, 1) := by decide +kernel
theorem dX9_undo_113 : decode cX9_undo 113 = .ok (.aload_n 0, 1) := by decide +kernel
theorem dX9_undo_114 : decode cX9_undo 114 = .ok (.getfield 7, 3) := by decide +kernel
theorem dX9_undo_117 : decode cX9_undo 117 = .ok (.iload_n 1, 1) := by decide +kernel
theorem dX9_undo_118 : decode cX9_undo 118 = .ok (.iconst 4, 1) := by decide +kernel
theorem dX9_undo_119 : decode cX9_undo 119 = .ok (.iadd, 1) := by decide +kernel
theorem dX9_undo_120 : decode cX9_undo 120 = .ok (.iconst 4, 1) := by decide +kernel
theorem dX9_undo_121 : decode cX9_undo 121 = .ok (.iload_n 2, 1) := by decide +kernel
theorem dX9_undo_122 : decode cX9_undo 122 = .ok (.imul, 1) := by decide +kernel
theorem dX9_undo_123 : decode cX9_undo 123 = .ok (.iadd, 1) := by decide +kernel
theorem dX9_undo_124 : decode cX9_undo 124 = .ok (.iload_n 3, 1) := by decide +kernel
theorem dX9_undo_125 : decode cX9_undo 125 = .ok (.iadd, 1) := by decide +kernel
theorem dX9_undo_126 : decode cX9_undo 126 = .ok (.iaload, 1) := by decide +kernel
theorem dX9_undo_127 : decode cX9_undo 127 = .ok (.invokevirtual 84, 3) := by decide +kernel
theorem dX9_undo_130 : decode cX9_undo 130 = .ok (.iinc 3 1, 3) := by decide +kernel
theorem dX9_undo_133 : decode cX9_undo 133 = .ok (.goto (-38), 3) := by decide +kernel
theorem dX9_undo_136 : decode cX9_undo 136 = .ok (.iinc 2 1, 3) := by decide +kernel
theorem dX9_undo_139 : decode cX9_undo 139 = .ok (.goto (-71), 3) := by decide +kernel
theorem dX9_undo_142 : decode cX9_undo 142 = .ok (.iconst 0, 1) := by decide +kernel
theorem dX9_undo_143 : decode cX9_undo 143 = .ok (.istore_n 2, 1) := by decide +kernel
theorem dX9_undo_144 : decode cX9_undo 144 = .ok (.iload_n 2, 1) := by decide +kernel
theorem dX9_undo_145 : decode cX9_undo 145 = .ok (.bipush 40, 2) := by decide +kernel
theorem dX9_undo_147 : decode cX9_undo 147 = .ok (.if_icmp .ge 30, 3) := by decide +kernel
theorem dX9_undo_150 : decode cX9_undo 150 = .ok (.aload_n 0, 1) := by decide +kernel
theorem dX9_undo_151 : decode cX9_undo 151 = .ok (.getfield 7, 3) := by decide +kernel
theorem dX9_undo_154 : decode cX9_undo 154 = .ok (.sipush 2268, 3) := by decide +kernel
theorem dX9_undo_157 : decode cX9_undo 157 = .ok (.iload_n 2, 1) := by decide +kernel
theorem dX9_undo_158 : decode cX9_undo 158 = .ok (.iadd, 1) := by decide +kernel
theorem dX9_undo_159 : decode cX9_undo 159 = .ok (.aload_n 0, 1) := by decide +kernel
theorem dX9_undo_160 : decode cX9_undo 160 = .ok (.getfield 7, 3) := by decide +kernel
theorem dX9_undo_163 : decode cX9_undo 163 = .ok (.iload_n 1, 1) := by decide +kernel
theorem dX9_undo_164 : decode cX9_undo 164 = .ok (.bipush 32, 2) := by decide +kernel
theorem dX9_undo_166 : decode cX9_undo 166 = .ok (.iadd, 1) := by decide +kernel
theorem dX9_undo_167 : decode cX9_undo 167 = .ok (.iload_n 2, 1) := by decide +kernel
theorem dX9_undo_168 : decode cX9_undo 168 = .ok (.iadd, 1) := by decide +kernel
theorem dX9_undo_169 : decode cX9_undo 169 = .ok (.iaload, 1) := by decide +kernel
theorem dX9_undo_170 : decode cX9_undo 170 = .ok (.iastore, 1) := by decide +kernel
theorem dX9_undo_171 : decode cX9_undo 171 = .ok (.iinc 2 1, 3) := by decide +kernel
theorem dX9_undo_174 : decode cX9_undo 174 = .ok (.goto (-30), 3) := by decide +kernel
theorem dX9_undo_177 : decode cX9_undo 177 = .ok (.aload_n 0, 1) := by decide +kernel
theorem dX9_undo_178 : decode cX9_undo 178 = .ok (.getfield 7, 3) := by decide +kernel
theorem dX9_undo_181 : decode cX9_undo 181 = .ok (.iconst 3, 1) := by decide +kernel
theorem dX9_undo_182 : decode cX9_undo 182 = .ok (.iaload, 1) := by decide +kernel
theorem dX9_undo_183 : decode cX9_undo 183 = .ok (.ireturn, 1) := by decide +kernel
def lX9_undo_36 (F : Nat) (K68 : mS → Int32 → Int32 → Option (mS × Int32)) (t : Nat) : Nat → mS → Int32 → Int32 → Option (mS × Int32)
  | 0, _, _, _ => none
  | n + 1, S, v1, v2 => if (3 : Int32) ≤ v2 then (K68 S v1 (0 : Int32)) else (ck (inb ((v1 + (1 : Int32)) + v2) 2308) (ck (inb ((8 : Int32) + v2) 2308) (stp (sI S (t + 1) ((8 : Int32) + v2).toNatClampNeg (S.1 (t + 1) ((v1 + (1 : Int32)) + v2).toNatClampNeg)) fun S3 => lX9_undo_36 F K68 t n S3 v1 (v2 + 1))))
set_option maxHeartbeats 4000000 in
set_option maxRecDepth 100000 in
theorem gX9_undo_36 {x : mX} {F : Nat} {t : Nat}  {K68 : mS → Int32 → Int32 → Option (mS × Int32)} {R : mS × Int32} (ht : kd0 t = 9) (hK68 : ∀ (S : mS) (v1 : Int32) (v2 : Int32) , K68 S v1 v2 = some R → mG x μX9_undo 3 0 0 (mQe R.1 (some (.int R.2))) 0 0 E0 S 68 [(0, .ref (t)), (1, .int (v1)), (2, .int (v2))] []) : ∀ (n : Nat) (S : mS) (v1 : Int32) (v2 : Int32), lX9_undo_36 F K68 t n S v1 v2 = some R → mG x μX9_undo 3 0 0 (mQe R.1 (some (.int R.2))) 0 0 E0 S 36 [(0, .ref (t)), (1, .int (v1)), (2, .int (v2))] [] := by
  intro n
  induction n with
  | zero =>
    intro S v1 v2 h
    cases h
  | succ n ih =>
    intro S v1 v2 h
    unfold lX9_undo_36 at h
    refine mG.iload_n 2 dX9_undo_36 rfl ?_
    refine mG.iconst (v := 3) dX9_undo_37 rfl ?_
    refine mG.icmp_ge 66 dX9_undo_38 (by decide) (fun c4 => ?_) (fun c4 => ?_)
    · replace h := itp c4 h
      refine mG.iconst (v := 0) dX9_undo_66 rfl ?_
      refine mG.istore_n (lv2 := [(2, .int 0), (0, .ref (t)), (1, .int (v1))]) dX9_undo_67 rfl (by decide) rfl ?_
      refine mG.sub (lv2 := [(0, .ref (t)), (1, .int (v1)), (2, .int 0)]) [1, 2, 0] rfl ?_
      exact hK68 S v1 (0 : Int32)  h
    · replace h := itn c4 h
      refine mG.aload_n 0 dX9_undo_41 rfl ?_
      refine mG.get (v := .ref (t + 1)) dX9_undo_42 mfX9_7 ht (lr9_a ht) ?_
      refine mG.bipush (v := 8) dX9_undo_45 (by decide) ?_
      refine mG.iload_n 2 dX9_undo_47 rfl ?_
      refine mG.iadd dX9_undo_48 ?_
      refine mG.aload_n 0 dX9_undo_49 rfl ?_
      refine mG.get (v := .ref (t + 1)) dX9_undo_50 mfX9_7 ht (lr9_a ht) ?_
      refine mG.iload_n 1 dX9_undo_53 rfl ?_
      refine mG.iconst (v := 1) dX9_undo_54 rfl ?_
      refine mG.iadd dX9_undo_55 ?_
      refine mG.iload_n 2 dX9_undo_56 rfl ?_
      refine mG.iadd dX9_undo_57 ?_
      obtain ⟨b1, h⟩ := ckp h
      refine mG.iald dX9_undo_58 (lk9_a ht) (ll9_a ht) (inbp b1) ?_
      obtain ⟨b2, h⟩ := ckp h
      obtain ⟨S3, hS3, h⟩ := stpp h
      refine mG.iast dX9_undo_59 (lk9_a ht) (ll9_a ht) (inbp b2) hS3 ?_
      refine mG.iinc 2 (u := v2 + 1) (lv2 := [(2, .int (v2 + 1)), (0, .ref (t)), (1, .int (v1))]) dX9_undo_60 rfl rfl (by decide) rfl ?_
      refine mG.goto 36 dX9_undo_63 (by decide) ?_
      refine mG.sub (lv2 := [(0, .ref (t)), (1, .int (v1)), (2, .int (v2 + 1))]) [1, 2, 0] rfl ?_
      exact ih S3 v1 (v2 + 1)  h
def lX9_undo_95 (F : Nat) (K68 : mS → Int32 → Int32 → Option (mS × Int32)) (t : Nat) : Nat → mS → Int32 → Int32 → Int32 → Option (mS × Int32)
  | 0, _, _, _, _ => none
  | n + 1, S, v1, v2, v3 => if (4 : Int32) ≤ v3 then (K68 S v1 (v2 + 1)) else (ck (inb v1 2308) (if (S.1 (t + 1) v1.toNatClampNeg) ≤ v2 then (K68 S v1 (v2 + 1)) else (ck (inb (((v1 + (4 : Int32)) + ((4 : Int32) * v2)) + v3) 2308) (bd (f_X9_put F S t v2 v3 (S.1 (t + 1) (((v1 + (4 : Int32)) + ((4 : Int32) * v2)) + v3).toNatClampNeg)) fun q3 => lX9_undo_95 F K68 t n q3 v1 v2 (v3 + 1)))))
set_option maxHeartbeats 4000000 in
set_option maxRecDepth 100000 in
theorem gX9_undo_95 {x : mX} {F : Nat} {t : Nat}  {K68 : mS → Int32 → Int32 → Option (mS × Int32)} {R : mS × Int32} (ht : kd0 t = 9) (hK68 : ∀ (S : mS) (v1 : Int32) (v2 : Int32) , K68 S v1 v2 = some R → mG x μX9_undo 3 0 0 (mQe R.1 (some (.int R.2))) 0 0 E0 S 68 [(0, .ref (t)), (1, .int (v1)), (2, .int (v2))] []) : ∀ (n : Nat) (S : mS) (v1 : Int32) (v2 : Int32) (v3 : Int32), lX9_undo_95 F K68 t n S v1 v2 v3 = some R → mG x μX9_undo 3 0 0 (mQe R.1 (some (.int R.2))) 0 0 E0 S 95 [(0, .ref (t)), (1, .int (v1)), (2, .int (v2)), (3, .int (v3))] [] := by
  intro n
  induction n with
  | zero =>
    intro S v1 v2 v3 h
    cases h
  | succ n ih =>
    intro S v1 v2 v3 h
    unfold lX9_undo_95 at h
    refine mG.iload_n 3 dX9_undo_95 rfl ?_
    refine mG.iconst (v := 4) dX9_undo_96 rfl ?_
    refine mG.icmp_ge 136 dX9_undo_97 (by decide) (fun c5 => ?_) (fun c5 => ?_)
    · replace h := itp c5 h
      refine mG.iinc 2 (u := v2 + 1) (lv2 := [(2, .int (v2 + 1)), (0, .ref (t)), (1, .int (v1)), (3, .int (v3))]) dX9_undo_136 rfl rfl (by decide) rfl ?_
      refine mG.goto 68 dX9_undo_139 (by decide) ?_
      refine mG.sub (lv2 := [(0, .ref (t)), (1, .int (v1)), (2, .int (v2 + 1))]) [1, 2, 0] rfl ?_
      exact hK68 S v1 (v2 + 1)  h
    · replace h := itn c5 h
      refine mG.iload_n 2 dX9_undo_100 rfl ?_
      refine mG.aload_n 0 dX9_undo_101 rfl ?_
      refine mG.get (v := .ref (t + 1)) dX9_undo_102 mfX9_7 ht (lr9_a ht) ?_
      refine mG.iload_n 1 dX9_undo_105 rfl ?_
      obtain ⟨b1, h⟩ := ckp h
      refine mG.iald dX9_undo_106 (lk9_a ht) (ll9_a ht) (inbp b1) ?_
      refine mG.icmp_ge 136 dX9_undo_107 (by decide) (fun c4 => ?_) (fun c4 => ?_)
      · replace h := itp c4 h
        refine mG.iinc 2 (u := v2 + 1) (lv2 := [(2, .int (v2 + 1)), (0, .ref (t)), (1, .int (v1)), (3, .int (v3))]) dX9_undo_136 rfl rfl (by decide) rfl ?_
        refine mG.goto 68 dX9_undo_139 (by decide) ?_
        refine mG.sub (lv2 := [(0, .ref (t)), (1, .int (v1)), (2, .int (v2 + 1))]) [1, 2, 0] rfl ?_
        exact hK68 S v1 (v2 + 1)  h
      · replace h := itn c4 h
        refine mG.aload_n 0 dX9_undo_110 rfl ?_
        refine mG.iload_n 2 dX9_undo_111 rfl ?_
        refine mG.iload_n 3 dX9_undo_112 rfl ?_
        refine mG.aload_n 0 dX9_undo_113 rfl ?_
        refine mG.get (v := .ref (t + 1)) dX9_undo_114 mfX9_7 ht (lr9_a ht) ?_
        refine mG.iload_n 1 dX9_undo_117 rfl ?_
        refine mG.iconst (v := 4) dX9_undo_118 rfl ?_
        refine mG.iadd dX9_undo_119 ?_
        refine mG.iconst (v := 4) dX9_undo_120 rfl ?_
        refine mG.iload_n 2 dX9_undo_121 rfl ?_
        refine mG.imul dX9_undo_122 ?_
        refine mG.iadd dX9_undo_123 ?_
        refine mG.iload_n 3 dX9_undo_124 rfl ?_
        refine mG.iadd dX9_undo_125 ?_
        obtain ⟨b2, h⟩ := ckp h
        refine mG.iald dX9_undo_126 (lk9_a ht) (ll9_a ht) (inbp b2) ?_
        obtain ⟨q3, hq3, h⟩ := bdp h
        refine mG.callV0 (as := [.int (v2), .int (v3), .int (S.1 (t + 1) (((v1 + (4 : Int32)) + ((4 : Int32) * v2)) + v3).toNatClampNeg)]) (st := []) (S2 := q3) (r := none) dX9_undo_127 mvX9_put wk7_15 rfl ht rfl (by decide) (Nat.le_of_ble_eq_true rfl) (c_X9_put ht hq3) ?_
        refine mG.iinc 3 (u := v3 + 1) (lv2 := [(3, .int (v3 + 1)), (0, .ref (t)), (1, .int (v1)), (2, .int (v2))]) dX9_undo_130 rfl rfl (by decide) rfl ?_
        refine mG.goto 95 dX9_undo_133 (by decide) ?_
        refine mG.sub (lv2 := [(0, .ref (t)), (1, .int (v1)), (2, .int (v2)), (3, .int (v3 + 1))]) [1, 2, 3, 0] rfl ?_
        exact ih q3 v1 v2 (v3 + 1)  h
def lX9_undo_68 (F : Nat) (K144 : mS → Int32 → Int32 → Option (mS × Int32)) (t : Nat) : Nat → mS → Int32 → Int32 → Option (mS × Int32)
  | 0, _, _, _ => none
  | n + 1, S, v1, v2 => ck (inb (0 : Int32) 2308) (if (S.1 (t + 1) (0 : Int32).toNatClampNeg) ≤ v2 then (K144 S v1 (0 : Int32)) else (ck (inb v1 2308) (if v2 < (S.1 (t + 1) v1.toNatClampNeg) then (lX9_undo_95 F (fun (S : mS) (v1 : Int32) (v2 : Int32) => lX9_undo_68 F K144 t n S v1 v2) t F S v1 v2 (0 : Int32)) else (bd (f_X9_begin F S t v2) fun q3 => lX9_undo_95 F (fun (S : mS) (v1 : Int32) (v2 : Int32) => lX9_undo_68 F K144 t n S v1 v2) t F q3 v1 v2 (0 : Int32)))))
set_option maxHeartbeats 4000000 in
set_option maxRecDepth 100000 in
theorem gX9_undo_68 {x : mX} {F : Nat} {t : Nat}  {K144 : mS → Int32 → Int32 → Option (mS × Int32)} {R : mS × Int32} (ht : kd0 t = 9) (hK144 : ∀ (S : mS) (v1 : Int32) (v2 : Int32) , K144 S v1 v2 = some R → mG x μX9_undo 3 0 0 (mQe R.1 (some (.int R.2))) 0 0 E0 S 144 [(0, .ref (t)), (1, .int (v1)), (2, .int (v2))] []) : ∀ (n : Nat) (S : mS) (v1 : Int32) (v2 : Int32), lX9_undo_68 F K144 t n S v1 v2 = some R → mG x μX9_undo 3 0 0 (mQe R.1 (some (.int R.2))) 0 0 E0 S 68 [(0, .ref (t)), (1, .int (v1)), (2, .int (v2))] [] := by
  intro n
  induction n with
  | zero =>
    intro S v1 v2 h
    cases h
  | succ n ih =>
    intro S v1 v2 h
    unfold lX9_undo_68 at h
    refine mG.iload_n 2 dX9_undo_68 rfl ?_
    refine mG.aload_n 0 dX9_undo_69 rfl ?_
    refine mG.get (v := .ref (t + 1)) dX9_undo_70 mfX9_7 ht (lr9_a ht) ?_
    refine mG.iconst (v := 0) dX9_undo_73 rfl ?_
    obtain ⟨b1, h⟩ := ckp h
    refine mG.iald dX9_undo_74 (lk9_a ht) (ll9_a ht) (inbp b1) ?_
    refine mG.icmp_ge 142 dX9_undo_75 (by decide) (fun c5 => ?_) (fun c5 => ?_)
    · replace h := itp c5 h
      refine mG.iconst (v := 0) dX9_undo_142 rfl ?_
      refine mG.istore_n (lv2 := [(2, .int 0), (0, .ref (t)), (1, .int (v1))]) dX9_undo_143 rfl (by decide) rfl ?_
      refine mG.sub (lv2 := [(0, .ref (t)), (1, .int (v1)), (2, .int 0)]) [1, 2, 0] rfl ?_
      exact hK144 S v1 (0 : Int32)  h
    · replace h := itn c5 h
      refine mG.iload_n 2 dX9_undo_78 rfl ?_
      refine mG.aload_n 0 dX9_undo_79 rfl ?_
      refine mG.get (v := .ref (t + 1)) dX9_undo_80 mfX9_7 ht (lr9_a ht) ?_
      refine mG.iload_n 1 dX9_undo_83 rfl ?_
      obtain ⟨b2, h⟩ := ckp h
      refine mG.iald dX9_undo_84 (lk9_a ht) (ll9_a ht) (inbp b2) ?_
      refine mG.icmp_lt 93 dX9_undo_85 (by decide) (fun c4 => ?_) (fun c4 => ?_)
      · replace h := itp c4 h
        refine mG.iconst (v := 0) dX9_undo_93 rfl ?_
        refine mG.istore_n (lv2 := [(3, .int 0), (0, .ref (t)), (1, .int (v1)), (2, .int (v2))]) dX9_undo_94 rfl (by decide) rfl ?_
        refine mG.sub (lv2 := [(0, .ref (t)), (1, .int (v1)), (2, .int (v2)), (3, .int 0)]) [1, 2, 3, 0] rfl ?_
        exact gX9_undo_95 ht (fun S v1 v2 h => by exact ih S v1 v2  h) F S v1 v2 (0 : Int32)  h
      · replace h := itn c4 h
        refine mG.aload_n 0 dX9_undo_88 rfl ?_
        refine mG.iload_n 2 dX9_undo_89 rfl ?_
        obtain ⟨q3, hq3, h⟩ := bdp h
        refine mG.callV0 (as := [.int (v2)]) (st := []) (S2 := q3) (r := none) dX9_undo_90 mvX9_begin wk7_19 rfl ht rfl (by decide) (Nat.le_of_ble_eq_true rfl) (c_X9_begin ht hq3) ?_
        refine mG.iconst (v := 0) dX9_undo_93 rfl ?_
        refine mG.istore_n (lv2 := [(3, .int 0), (0, .ref (t)), (1, .int (v1)), (2, .int (v2))]) dX9_undo_94 rfl (by decide) rfl ?_
        refine mG.sub (lv2 := [(0, .ref (t)), (1, .int (v1)), (2, .int (v2)), (3, .int 0)]) [1, 2, 3, 0] rfl ?_
        exact gX9_undo_95 ht (fun S v1 v2 h => by exact ih S v1 v2  h) F q3 v1 v2 (0 : Int32)  h
def lX9_undo_144 (F : Nat)  (t : Nat) : Nat → mS → Int32 → Int32 → Option (mS × Int32)
  | 0, _, _, _ => none
  | n + 1, S, v1, v2 => if (40 : Int32) ≤ v2 then (ck (inb (3 : Int32) 2308) (some (S, S.1 (t + 1) (3 : Int32).toNatClampNeg))) else (ck (inb ((v1 + (32 : Int32)) + v2) 2308) (ck (inb ((2268 : Int32) + v2) 2308) (stp (sI S (t + 1) ((2268 : Int32) + v2).toNatClampNeg (S.1 (t + 1) ((v1 + (32 : Int32)) + v2).toNatClampNeg)) fun S4 => lX9_undo_144 F  t n S4 v1 (v2 + 1))))
set_option maxHeartbeats 4000000 in
set_option maxRecDepth 100000 in
theorem gX9_undo_144 {x : mX} {F : Nat} {t : Nat}   {R : mS × Int32} (ht : kd0 t = 9)  : ∀ (n : Nat) (S : mS) (v1 : Int32) (v2 : Int32), lX9_undo_144 F  t n S v1 v2 = some R → mG x μX9_undo 3 0 0 (mQe R.1 (some (.int R.2))) 0 0 E0 S 144 [(0, .ref (t)), (1, .int (v1)), (2, .int (v2))] [] := by
  intro n
  induction n with
  | zero =>
    intro S v1 v2 h
    cases h
  | succ n ih =>
    intro S v1 v2 h
    unfold lX9_undo_144 at h
    refine mG.iload_n 2 dX9_undo_144 rfl ?_
    refine mG.bipush (v := 40) dX9_undo_145 (by decide) ?_
    refine mG.icmp_ge 177 dX9_undo_147 (by decide) (fun c5 => ?_) (fun c5 => ?_)
    · replace h := itp c5 h
      refine mG.aload_n 0 dX9_undo_177 rfl ?_
      refine mG.get (v := .ref (t + 1)) dX9_undo_178 mfX9_7 ht (lr9_a ht) ?_
      refine mG.iconst (v := 3) dX9_undo_181 rfl ?_
      obtain ⟨b1, h⟩ := ckp h
      refine mG.iald dX9_undo_182 (lk9_a ht) (ll9_a ht) (inbp b1) ?_
      obtain rfl := Option.some.inj h
      exact mG.iret dX9_undo_183 rfl ⟨rfl, rfl, rfl⟩
    · replace h := itn c5 h
      refine mG.aload_n 0 dX9_undo_150 rfl ?_
      refine mG.get (v := .ref (t + 1)) dX9_undo_151 mfX9_7 ht (lr9_a ht) ?_
      refine mG.sipush (v := 2268) dX9_undo_154 (by decide) ?_
      refine mG.iload_n 2 dX9_undo_157 rfl ?_
      refine mG.iadd dX9_undo_158 ?_
      refine mG.aload_n 0 dX9_undo_159 rfl ?_
      refine mG.get (v := .ref (t + 1)) dX9_undo_160 mfX9_7 ht (lr9_a ht) ?_
      refine mG.iload_n 1 dX9_undo_163 rfl ?_
      refine mG.bipush (v := 32) dX9_undo_164 (by decide) ?_
      refine mG.iadd dX9_undo_166 ?_
      refine mG.iload_n 2 dX9_undo_167 rfl ?_
      refine mG.iadd dX9_undo_168 ?_
      obtain ⟨b2, h⟩ := ckp h
      refine mG.iald dX9_undo_169 (lk9_a ht) (ll9_a ht) (inbp b2) ?_
      obtain ⟨b3, h⟩ := ckp h
      obtain ⟨S4, hS4, h⟩ := stpp h
      refine mG.iast dX9_undo_170 (lk9_a ht) (ll9_a ht) (inbp b3) hS4 ?_
      refine mG.iinc 2 (u := v2 + 1) (lv2 := [(2, .int (v2 + 1)), (0, .ref (t)), (1, .int (v1))]) dX9_undo_171 rfl rfl (by decide) rfl ?_
      refine mG.goto 144 dX9_undo_174 (by decide) ?_
      refine mG.sub (lv2 := [(0, .ref (t)), (1, .int (v1)), (2, .int (v2 + 1))]) [1, 2, 0] rfl ?_
      exact ih S4 v1 (v2 + 1)  h
def f_X9_undo (F : Nat) (S : mS) (t : Nat) : Option (mS × Int32) := ck (inb (3 : Int32) 2308) (if (S.1 (t + 1) (3 : Int32).toNatClampNeg) = 0 then (some (S, (-1 : Int32))) else (ck (inb (3 : Int32) 2308) (ck (inb (3 : Int32) 2308) (stp (sI S (t + 1) (3 : Int32).toNatClampNeg ((S.1 (t + 1) (3 : Int32).toNatClampNeg) - (1 : Int32))) fun S4 => ck (inb (3 : Int32) 2308) (lX9_undo_36 F (fun (S : mS) (v1 : Int32) (v2 : Int32) => lX9_undo_68 F (fun (S : mS) (v1 : Int32) (v2 : Int32) => lX9_undo_144 F  t F S v1 v2) t F S v1 v2) t F S4 ((108 : Int32) + ((72 : Int32) * (S4.1 (t + 1) (3 : Int32).toNatClampNeg))) (0 : Int32))))))
set_option maxHeartbeats 4000000 in
set_option maxRecDepth 100000 in
theorem c_X9_undo {F : Nat} {S : mS} {t : Nat} {R : mS × Int32} (ht : kd0 t = 9) (h : f_X9_undo F S t = some R) : mCt μX9_undo 3 0 0 E0 S [.ref (t)] (mQe R.1 (some (.int R.2))) := by
  unfold f_X9_undo at h
  refine mCt.of (by decide) (Nat.le_of_ble_eq_true rfl) ?_
  intro x
  refine mG.aload_n 0 dX9_undo_0 rfl ?_
  refine mG.get (v := .ref (t + 1)) dX9_undo_1 mfX9_7 ht (lr9_a ht) ?_
  refine mG.iconst (v := 3) dX9_undo_4 rfl ?_
  obtain ⟨b1, h⟩ := ckp h
  refine mG.iald dX9_undo_5 (lk9_a ht) (ll9_a ht) (inbp b1) ?_
  refine mG.if_ne 11 dX9_undo_6 (by decide) (fun c6 => ?_) (fun c6 => ?_)
  · replace h := itn c6 h
    refine mG.aload_n 0 dX9_undo_11 rfl ?_
    refine mG.get (v := .ref (t + 1)) dX9_undo_12 mfX9_7 ht (lr9_a ht) ?_
    refine mG.iconst (v := 3) dX9_undo_15 rfl ?_
    refine mG.dup2 dX9_undo_16 rfl rfl ?_
    obtain ⟨b2, h⟩ := ckp h
    refine mG.iald dX9_undo_17 (lk9_a ht) (ll9_a ht) (inbp b2) ?_
    refine mG.iconst (v := 1) dX9_undo_18 rfl ?_
    refine mG.isub dX9_undo_19 ?_
    obtain ⟨b3, h⟩ := ckp h
    obtain ⟨S4, hS4, h⟩ := stpp h
    refine mG.iast dX9_undo_20 (lk9_a ht) (ll9_a ht) (inbp b3) hS4 ?_
    refine mG.bipush (v := 108) dX9_undo_21 (by decide) ?_
    refine mG.bipush (v := 72) dX9_undo_23 (by decide) ?_
    refine mG.aload_n 0 dX9_undo_25 rfl ?_
    refine mG.get (v := .ref (t + 1)) dX9_undo_26 mfX9_7 ht (lr9_a ht) ?_
    refine mG.iconst (v := 3) dX9_undo_29 rfl ?_
    obtain ⟨b5, h⟩ := ckp h
    refine mG.iald dX9_undo_30 (lk9_a ht) (ll9_a ht) (inbp b5) ?_
    refine mG.imul dX9_undo_31 ?_
    refine mG.iadd dX9_undo_32 ?_
    refine mG.istore_n (lv2 := [(1, .int ((108 : Int32) + ((72 : Int32) * (S4.1 (t + 1) (3 : Int32).toNatClampNeg)))), (0, .ref (t))]) dX9_undo_33 rfl (by decide) rfl ?_
    refine mG.iconst (v := 0) dX9_undo_34 rfl ?_
    refine mG.istore_n (lv2 := [(2, .int 0), (1, .int ((108 : Int32) + ((72 : Int32) * (S4.1 (t + 1) (3 : Int32).toNatClampNeg)))), (0, .ref (t))]) dX9_undo_35 rfl (by decide) rfl ?_
    refine mG.sub (lv2 := [(0, .ref (t)), (1, .int ((108 : Int32) + ((72 : Int32) * (S4.1 (t + 1) (3 : Int32).toNatClampNeg)))), (2, .int 0)]) [2, 1, 0] rfl ?_
    exact gX9_undo_36 ht (fun S v1 v2 h => by exact gX9_undo_68 ht (fun S v1 v2 h => by exact gX9_undo_144 ht  F S v1 v2  h) F S v1 v2  h) F S4 ((108 : Int32) + ((72 : Int32) * (S4.1 (t + 1) (3 : Int32).toNatClampNeg))) (0 : Int32)  h
  · replace h := itp c6 h
    refine mG.iconst (v := (-1)) dX9_undo_9 rfl ?_
    obtain rfl := Option.some.inj h
    exact mG.iret dX9_undo_10 rfl ⟨rfl, rfl, rfl⟩
theorem dX9_write_0 : decode cX9_write 0 = .ok (.aload_n 0, 1) := by decide +kernel
theorem dX9_write_1 : decode cX9_write 1 = .ok (.getfield 7, 3) := by decide +kernel
theorem dX9_write_4 : decode cX9_write 4 = .ok (.bipush 10, 2) := by decide +kernel
theorem dX9_write_6 : decode cX9_write 6 = .ok (.iaload, 1) := by decide +kernel
theorem dX9_write_7 : decode cX9_write 7 = .ok (.bipush 40, 2) := by decide +kernel
theorem dX9_write_9 : decode cX9_write 9 = .ok (.if_icmp .ne 50, 3) := by decide +kernel
theorem dX9_write_12 : decode cX9_write 12 = .ok (.iconst 1, 1) := by decide +kernel
theorem dX9_write_13 : decode cX9_write 13 = .ok (.istore_n 3, 1) := by decide +kernel
theorem dX9_write_14 : decode cX9_write 14 = .ok (.iload_n 3, 1) := by decide +kernel
theorem dX9_write_15 : decode cX9_write 15 = .ok (.bipush 40, 2) := by decide +kernel
theorem dX9_write_17 : decode cX9_write 17 = .ok (.if_icmp .ge 31, 3) := by decide +kernel
theorem dX9_write_20 : decode cX9_write 20 = .ok (.aload_n 0, 1) := by decide +kernel
theorem dX9_write_21 : decode cX9_write 21 = .ok (.getfield 7, 3) := by decide +kernel
theorem dX9_write_24 : decode cX9_write 24 = .ok (.sipush 2268, 3) := by decide +kernel
theorem dX9_write_27 : decode cX9_write 27 = .ok (.iload_n 3, 1) := by decide +kernel
theorem dX9_write_28 : decode cX9_write 28 = .ok (.iadd, 1) := by decide +kernel
theorem dX9_write_29 : decode cX9_write 29 = .ok (.iconst 1, 1) := by decide +kernel
theorem dX9_write_30 : decode cX9_write 30 = .ok (.isub, 1) := by decide +kernel
theorem dX9_write_31 : decode cX9_write 31 = .ok (.aload_n 0, 1) := by decide +kernel
theorem dX9_write_32 : decode cX9_write 32 = .ok (.getfield 7, 3) := by decide +kernel
theorem dX9_write_35 : decode cX9_write 35 = .ok (.sipush 2268, 3) := by decide +kernel
theorem dX9_write_38 : decode cX9_write 38 = .ok (.iload_n 3, 1) := by decide +kernel
theorem dX9_write_39 : decode cX9_write 39 = .ok (.iadd, 1) := by decide +kernel
theorem dX9_write_40 : decode cX9_write 40 = .ok (.iaload, 1) := by decide +kernel
theorem dX9_write_41 : decode cX9_write 41 = .ok (.iastore, 1) := by decide +kernel
theorem dX9_write_42 : decode cX9_write 42 = .ok (.iinc 3 1, 3) := by decide +kernel
theorem dX9_write_45 : decode cX9_write 45 = .ok (.goto (-31), 3) := by decide +kernel
theorem dX9_write_48 : decode cX9_write 48 = .ok (.aload_n 0, 1) := by decide +kernel
theorem dX9_write_49 : decode cX9_write 49 = .ok (.getfield 7, 3) := by decide +kernel
theorem dX9_write_52 : decode cX9_write 52 = .ok (.bipush 10, 2) := by decide +kernel
theorem dX9_write_54 : decode cX9_write 54 = .ok (.dup2, 1) := by decide +kernel
theorem dX9_write_55 : decode cX9_write 55 = .ok (.iaload, 1) := by decide +kernel
theorem dX9_write_56 : decode cX9_write 56 = .ok (.iconst 1, 1) := by decide +kernel
theorem dX9_write_57 : decode cX9_write 57 = .ok (.isub, 1) := by decide +kernel
theorem dX9_write_58 : decode cX9_write 58 = .ok (.iastore, 1) := by decide +kernel
theorem dX9_write_59 : decode cX9_write 59 = .ok (.aload_n 0, 1) := by decide +kernel
theorem dX9_write_60 : decode cX9_write 60 = .ok (.getfield 7, 3) := by decide +kernel
theorem dX9_write_63 : decode cX9_write 63 = .ok (.sipush 2268, 3) := by decide +kernel
theorem dX9_write_66 : decode cX9_write 66 = .ok (.aload_n 0, 1) := by decide +kernel
theorem dX9_write_67 : decode cX9_write 67 = .ok (.getfield 7, 3) := by decide +kernel
theorem dX9_write_70 : decode cX9_write 70 = .ok (.bipush 10, 2) := by decide +kernel
theorem dX9_write_72 : decode cX9_write 72 = .ok (.iaload, 1) := by decide +kernel
theorem dX9_write_73 : decode cX9_write 73 = .ok (.iadd, 1) := by decide +kernel
theorem dX9_write_74 : decode cX9_write 74 = .ok (.aload_n 0, 1) := by decide +kernel
theorem dX9_write_75 : decode cX9_write 75 = .ok (.getfield 7, 3) := by decide +kernel
theorem dX9_write_78 : decode cX9_write 78 = .ok (.bipush 8, 2) := by decide +kernel
theorem dX9_write_80 : decode cX9_write 80 = .ok (.iaload, 1) := by decide +kernel
theorem dX9_write_81 : decode cX9_write 81 = .ok (.bipush 16, 2) := by decide +kernel
theorem dX9_write_83 : decode cX9_write 83 = .ok (.imul, 1) := by decide +kernel
theorem dX9_write_84 : decode cX9_write 84 = .ok (.iload_n 1, 1) := by decide +kernel
theorem dX9_write_85 : decode cX9_write 85 = .ok (.iconst 2, 1) := by decide +kernel
theorem dX9_write_86 : decode cX9_write 86 = .ok (.imul, 1) := by decide +kernel
theorem dX9_write_87 : decode cX9_write 87 = .ok (.iadd, 1) := by decide +kernel
theorem dX9_write_88 : decode cX9_write 88 = .ok (.iload_n 2, 1) := by decide +kernel
theorem dX9_write_89 : decode cX9_write 89 = .ok (.iadd, 1) := by decide +kernel
theorem dX9_write_90 : decode cX9_write 90 = .ok (.iastore, 1) := by decide +kernel
theorem dX9_write_91 : decode cX9_write 91 = .ok (.aload_n 0, 1) := by decide +kernel
theorem dX9_write_92 : decode cX9_write 92 = .ok (.getfield 7, 3) := by decide +kernel
theorem dX9_write_95 : decode cX9_write 95 = .ok (.bipush 10, 2) := by decide +kernel
theorem dX9_write_97 : decode cX9_write 97 = .ok (.dup2, 1) := by decide +kernel
theorem dX9_write_98 : decode cX9_write 98 = .ok (.iaload, 1) := by decide +kernel
theorem dX9_write_99 : decode cX9_write 99 = .ok (.iconst 1, 1) := by decide +kernel
theorem dX9_write_100 : decode cX9_write 100 = .ok (.iadd, 1) := by decide +kernel
theorem dX9_write_101 : decode cX9_write 101 = .ok (.iastore, 1) := by decide +kernel
theorem dX9_write_102 : decode cX9_write 102 = .ok (.return_, 1) := by decide +kernel
def lX9_write_14 (F : Nat) (K59 : mS → Option mS) (t : Nat) (a1 : Int32) (a2 : Int32) : Nat → mS → Int32 → Option mS
  | 0, _, _ => none
  | n + 1, S, v3 => if (40 : Int32) ≤ v3 then (ck (inb (10 : Int32) 2308) (ck (inb (10 : Int32) 2308) (stp (sI S (t + 1) (10 : Int32).toNatClampNeg ((S.1 (t + 1) (10 : Int32).toNatClampNeg) - (1 : Int32))) fun S3 => K59 S3 ))) else (ck (inb ((2268 : Int32) + v3) 2308) (ck (inb (((2268 : Int32) + v3) - (1 : Int32)) 2308) (stp (sI S (t + 1) (((2268 : Int32) + v3) - (1 : Int32)).toNatClampNeg (S.1 (t + 1) ((2268 : Int32) + v3).toNatClampNeg)) fun S6 => lX9_write_14 F K59 t a1 a2 n S6 (v3 + 1))))
set_option maxHeartbeats 4000000 in
set_option maxRecDepth 100000 in
theorem gX9_write_14 {x : mX} {F : Nat} {t : Nat} {a1 : Int32} {a2 : Int32}  {K59 : mS → Option mS} {R : mS} (ht : kd0 t = 9) (hK59 : ∀ (S : mS)  , K59 S  = some R → mG x μX9_write 1 0 0 (mQe R none) 0 0 E0 S 59 [(0, .ref (t)), (1, .int (a1)), (2, .int (a2))] []) : ∀ (n : Nat) (S : mS) (v3 : Int32), lX9_write_14 F K59 t a1 a2 n S v3 = some R → mG x μX9_write 1 0 0 (mQe R none) 0 0 E0 S 14 [(0, .ref (t)), (1, .int (a1)), (2, .int (a2)), (3, .int (v3))] [] := by
  intro n
  induction n with
  | zero =>
    intro S v3 h
    cases h
  | succ n ih =>
    intro S v3 h
    unfold lX9_write_14 at h
    refine mG.iload_n 3 dX9_write_14 rfl ?_
    refine mG.bipush (v := 40) dX9_write_15 (by decide) ?_
    refine mG.icmp_ge 48 dX9_write_17 (by decide) (fun c7 => ?_) (fun c7 => ?_)
    · replace h := itp c7 h
      refine mG.aload_n 0 dX9_write_48 rfl ?_
      refine mG.get (v := .ref (t + 1)) dX9_write_49 mfX9_7 ht (lr9_a ht) ?_
      refine mG.bipush (v := 10) dX9_write_52 (by decide) ?_
      refine mG.dup2 dX9_write_54 rfl rfl ?_
      obtain ⟨b1, h⟩ := ckp h
      refine mG.iald dX9_write_55 (lk9_a ht) (ll9_a ht) (inbp b1) ?_
      refine mG.iconst (v := 1) dX9_write_56 rfl ?_
      refine mG.isub dX9_write_57 ?_
      obtain ⟨b2, h⟩ := ckp h
      obtain ⟨S3, hS3, h⟩ := stpp h
      refine mG.iast dX9_write_58 (lk9_a ht) (ll9_a ht) (inbp b2) hS3 ?_
      refine mG.sub (lv2 := [(0, .ref (t)), (1, .int (a1)), (2, .int (a2))]) [0, 1, 2] rfl ?_
      exact hK59 S3   h
    · replace h := itn c7 h
      refine mG.aload_n 0 dX9_write_20 rfl ?_
      refine mG.get (v := .ref (t + 1)) dX9_write_21 mfX9_7 ht (lr9_a ht) ?_
      refine mG.sipush (v := 2268) dX9_write_24 (by decide) ?_
      refine mG.iload_n 3 dX9_write_27 rfl ?_
      refine mG.iadd dX9_write_28 ?_
      refine mG.iconst (v := 1) dX9_write_29 rfl ?_
      refine mG.isub dX9_write_30 ?_
      refine mG.aload_n 0 dX9_write_31 rfl ?_
      refine mG.get (v := .ref (t + 1)) dX9_write_32 mfX9_7 ht (lr9_a ht) ?_
      refine mG.sipush (v := 2268) dX9_write_35 (by decide) ?_
      refine mG.iload_n 3 dX9_write_38 rfl ?_
      refine mG.iadd dX9_write_39 ?_
      obtain ⟨b4, h⟩ := ckp h
      refine mG.iald dX9_write_40 (lk9_a ht) (ll9_a ht) (inbp b4) ?_
      obtain ⟨b5, h⟩ := ckp h
      obtain ⟨S6, hS6, h⟩ := stpp h
      refine mG.iast dX9_write_41 (lk9_a ht) (ll9_a ht) (inbp b5) hS6 ?_
      refine mG.iinc 3 (u := v3 + 1) (lv2 := [(3, .int (v3 + 1)), (0, .ref (t)), (1, .int (a1)), (2, .int (a2))]) dX9_write_42 rfl rfl (by decide) rfl ?_
      refine mG.goto 14 dX9_write_45 (by decide) ?_
      refine mG.sub (lv2 := [(0, .ref (t)), (1, .int (a1)), (2, .int (a2)), (3, .int (v3 + 1))]) [1, 2, 3, 0] rfl ?_
      exact ih S6 (v3 + 1)  h
def lX9_write_59 (F : Nat)  (t : Nat) (a1 : Int32) (a2 : Int32) (S : mS)  : Option mS := ck (inb (10 : Int32) 2308) (ck (inb (8 : Int32) 2308) (ck (inb ((2268 : Int32) + (S.1 (t + 1) (10 : Int32).toNatClampNeg)) 2308) (stp (sI S (t + 1) ((2268 : Int32) + (S.1 (t + 1) (10 : Int32).toNatClampNeg)).toNatClampNeg ((((S.1 (t + 1) (8 : Int32).toNatClampNeg) * (16 : Int32)) + (a1 * (2 : Int32))) + a2)) fun S4 => ck (inb (10 : Int32) 2308) (ck (inb (10 : Int32) 2308) (stp (sI S4 (t + 1) (10 : Int32).toNatClampNeg ((S4.1 (t + 1) (10 : Int32).toNatClampNeg) + (1 : Int32))) fun S7 => some S7)))))
set_option maxHeartbeats 4000000 in
set_option maxRecDepth 100000 in
theorem gX9_write_59 {x : mX} {F : Nat} {t : Nat} {a1 : Int32} {a2 : Int32}  {R : mS} (ht : kd0 t = 9)  (S : mS)   (h : lX9_write_59 F  t a1 a2 S  = some R) : mG x μX9_write 1 0 0 (mQe R none) 0 0 E0 S 59 [(0, .ref (t)), (1, .int (a1)), (2, .int (a2))] [] := by
  unfold lX9_write_59 at h
  refine mG.aload_n 0 dX9_write_59 rfl ?_
  refine mG.get (v := .ref (t + 1)) dX9_write_60 mfX9_7 ht (lr9_a ht) ?_
  refine mG.sipush (v := 2268) dX9_write_63 (by decide) ?_
  refine mG.aload_n 0 dX9_write_66 rfl ?_
  refine mG.get (v := .ref (t + 1)) dX9_write_67 mfX9_7 ht (lr9_a ht) ?_
  refine mG.bipush (v := 10) dX9_write_70 (by decide) ?_
  obtain ⟨b1, h⟩ := ckp h
  refine mG.iald dX9_write_72 (lk9_a ht) (ll9_a ht) (inbp b1) ?_
  refine mG.iadd dX9_write_73 ?_
  refine mG.aload_n 0 dX9_write_74 rfl ?_
  refine mG.get (v := .ref (t + 1)) dX9_write_75 mfX9_7 ht (lr9_a ht) ?_
  refine mG.bipush (v := 8) dX9_write_78 (by decide) ?_
  obtain ⟨b2, h⟩ := ckp h
  refine mG.iald dX9_write_80 (lk9_a ht) (ll9_a ht) (inbp b2) ?_
  refine mG.bipush (v := 16) dX9_write_81 (by decide) ?_
  refine mG.imul dX9_write_83 ?_
  refine mG.iload_n 1 dX9_write_84 rfl ?_
  refine mG.iconst (v := 2) dX9_write_85 rfl ?_
  refine mG.imul dX9_write_86 ?_
  refine mG.iadd dX9_write_87 ?_
  refine mG.iload_n 2 dX9_write_88 rfl ?_
  refine mG.iadd dX9_write_89 ?_
  obtain ⟨b3, h⟩ := ckp h
  obtain ⟨S4, hS4, h⟩ := stpp h
  refine mG.iast dX9_write_90 (lk9_a ht) (ll9_a ht) (inbp b3) hS4 ?_
  refine mG.aload_n 0 dX9_write_91 rfl ?_
  refine mG.get (v := .ref (t + 1)) dX9_write_92 mfX9_7 ht (lr9_a ht) ?_
  refine mG.bipush (v := 10) dX9_write_95 (by decide) ?_
  refine mG.dup2 dX9_write_97 rfl rfl ?_
  obtain ⟨b5, h⟩ := ckp h
  refine mG.iald dX9_write_98 (lk9_a ht) (ll9_a ht) (inbp b5) ?_
  refine mG.iconst (v := 1) dX9_write_99 rfl ?_
  refine mG.iadd dX9_write_100 ?_
  obtain ⟨b6, h⟩ := ckp h
  obtain ⟨S7, hS7, h⟩ := stpp h
  refine mG.iast dX9_write_101 (lk9_a ht) (ll9_a ht) (inbp b6) hS7 ?_
  obtain rfl := Option.some.inj h
  exact mG.vret dX9_write_102 rfl ⟨rfl, rfl, rfl⟩
def f_X9_write (F : Nat) (S : mS) (t : Nat) (a1 : Int32) (a2 : Int32) : Option mS := ck (inb (10 : Int32) 2308) (if (S.1 (t + 1) (10 : Int32).toNatClampNeg) = (40 : Int32) then (lX9_write_14 F (fun (S : mS)  => lX9_write_59 F  t a1 a2 S ) t a1 a2 F S (1 : Int32)) else (lX9_write_59 F  t a1 a2 S ))
set_option maxHeartbeats 4000000 in
set_option maxRecDepth 100000 in
theorem c_X9_write {F : Nat} {S : mS} {t : Nat} {a1 : Int32} {a2 : Int32} {R : mS} (ht : kd0 t = 9) (h : f_X9_write F S t a1 a2 = some R) : mCt μX9_write 1 0 0 E0 S [.ref (t), .int (a1), .int (a2)] (mQe R none) := by
  unfold f_X9_write at h
  refine mCt.of (by decide) (Nat.le_of_ble_eq_true rfl) ?_
  intro x
  refine mG.aload_n 0 dX9_write_0 rfl ?_
  refine mG.get (v := .ref (t + 1)) dX9_write_1 mfX9_7 ht (lr9_a ht) ?_
  refine mG.bipush (v := 10) dX9_write_4 (by decide) ?_
  obtain ⟨b1, h⟩ := ckp h
  refine mG.iald dX9_write_6 (lk9_a ht) (ll9_a ht) (inbp b1) ?_
  refine mG.bipush (v := 40) dX9_write_7 (by decide) ?_
  refine mG.icmp_ne 59 dX9_write_9 (by decide) (fun c2 => ?_) (fun c2 => ?_)
  · replace h := itn c2 h
    refine mG.sub (lv2 := [(0, .ref (t)), (1, .int (a1)), (2, .int (a2))]) [0, 1, 2] rfl ?_
    exact gX9_write_59 ht   S   h
  · replace h := itp c2 h
    refine mG.iconst (v := 1) dX9_write_12 rfl ?_
    refine mG.istore_n (lv2 := [(3, .int 1), (0, .ref (t)), (1, .int (a1)), (2, .int (a2))]) dX9_write_13 rfl (by decide) rfl ?_
    refine mG.sub (lv2 := [(0, .ref (t)), (1, .int (a1)), (2, .int (a2)), (3, .int 1)]) [1, 2, 3, 0] rfl ?_
    exact gX9_write_14 ht (fun S h => by exact gX9_write_59 ht   S   h) F S (1 : Int32)  h
theorem dX9_knockNow_0 : decode cX9_knockNow 0 = .ok (.aload_n 0, 1) := by decide +kernel
theorem dX9_knockNow_1 : decode cX9_knockNow 1 = .ok (.iload_n 1, 1) := by decide +kernel
theorem dX9_knockNow_2 : decode cX9_knockNow 2 = .ok (.iconst 0, 1) := by decide +kernel
theorem dX9_knockNow_3 : decode cX9_knockNow 3 = .ok (.invokevirtual 73, 3) := by decide +kernel
theorem dX9_knockNow_6 : decode cX9_knockNow 6 = .ok (.aload_n 0, 1) := by decide +kernel
theorem dX9_knockNow_7 : decode cX9_knockNow 7 = .ok (.invokevirtual 320, 3) := by decide +kernel
theorem dX9_knockNow_10 : decode cX9_knockNow 10 = .ok (.invokestatic 80, 3) := by decide +kernel
theorem dX9_knockNow_13 : decode cX9_knockNow 13 = .ok (.ifCond .eq 7, 3) := by decide +kernel
theorem dX9_knockNow_16 : decode cX9_knockNow 16 = .ok (.iconst 1, 1) := by decide +kernel
theorem dX9_knockNow_17 : decode cX9_knockNow 17 = .ok (.goto 4, 3) := by decide +kernel
theorem dX9_knockNow_20 : decode cX9_knockNow 20 = .ok (.iconst 0, 1) := by decide +kernel
theorem dX9_knockNow_21 : decode cX9_knockNow 21 = .ok (.istore_n 2, 1) := by decide +kernel
theorem dX9_knockNow_22 : decode cX9_knockNow 22 = .ok (.aload_n 0, 1) := by decide +kernel
theorem dX9_knockNow_23 : decode cX9_knockNow 23 = .ok (.iload_n 1, 1) := by decide +kernel
theorem dX9_knockNow_24 : decode cX9_knockNow 24 = .ok (.iload_n 2, 1) := by decide +kernel
theorem dX9_knockNow_25 : decode cX9_knockNow 25 = .ok (.invokevirtual 329, 3) := by decide +kernel
theorem dX9_knockNow_28 : decode cX9_knockNow 28 = .ok (.iload_n 2, 1) := by decide +kernel
theorem dX9_knockNow_29 : decode cX9_knockNow 29 = .ok (.iconst 1, 1) := by decide +kernel
theorem dX9_knockNow_30 : decode cX9_knockNow 30 = .ok (.if_icmp .ne 7, 3) := by decide +kernel
theorem dX9_knockNow_33 : decode cX9_knockNow 33 = .ok (.iconst (-1), 1) := by decide +kernel
theorem dX9_knockNow_34 : decode cX9_knockNow 34 = .ok (.goto 16, 3) := by decide +kernel
theorem dX9_knockNow_37 : decode cX9_knockNow 37 = .ok (.aload_n 0, 1) := by decide +kernel
theorem dX9_knockNow_38 : decode cX9_knockNow 38 = .ok (.iload_n 1, 1) := by decide +kernel
theorem dX9_knockNow_39 : decode cX9_knockNow 39 = .ok (.invokevirtual 332, 3) := by decide +kernel
theorem dX9_knockNow_42 : decode cX9_knockNow 42 = .ok (.ifCond .eq 7, 3) := by decide +kernel
theorem dX9_knockNow_45 : decode cX9_knockNow 45 = .ok (.iconst 1, 1) := by decide +kernel
theorem dX9_knockNow_46 : decode cX9_knockNow 46 = .ok (.goto 4, 3) := by decide +kernel
theorem dX9_knockNow_49 : decode cX9_knockNow 49 = .ok (.iconst 0, 1) := by decide +kernel
theorem dX9_knockNow_50 : decode cX9_knockNow 50 = .ok (.istore_n 3, 1) := by decide +kernel
theorem dX9_knockNow_51 : decode cX9_knockNow 51 = .ok (.aload_n 0, 1) := by decide +kernel
theorem dX9_knockNow_52 : decode cX9_knockNow 52 = .ok (.iload_n 1, 1) := by decide +kernel
theorem dX9_knockNow_53 : decode cX9_knockNow 53 = .ok (.iconst 2, 1) := by decide +kernel
theorem dX9_knockNow_54 : decode cX9_knockNow 54 = .ok (.aload_n 0, 1) := by decide +kernel
theorem dX9_knockNow_55 : decode cX9_knockNow 55 = .ok (.iload_n 1, 1) := by decide +kernel
theorem dX9_knockNow_56 : decode cX9_knockNow 56 = .ok (.iconst 2, 1) := by decide +kernel
theorem dX9_knockNow_57 : decode cX9_knockNow 57 = .ok (.invokevirtual 73, 3) := by decide +kernel
theorem dX9_knockNow_60 : decode cX9_knockNow 60 = .ok (.iload_n 3, 1) := by decide +kernel
theorem dX9_knockNow_61 : decode cX9_knockNow 61 = .ok (.iadd, 1) := by decide +kernel
theorem dX9_knockNow_62 : decode cX9_knockNow 62 = .ok (.i2l, 1) := by decide +kernel
theorem dX9_knockNow_63 : decode cX9_knockNow 63 = .ok (.iconst 0, 1) := by decide +kernel
theorem dX9_knockNow_64 : decode cX9_knockNow 64 = .ok (.bipush 99, 2) := by decide +kernel
theorem dX9_knockNow_66 : decode cX9_knockNow 66 = .ok (.invokestatic 299, 3) := by decide +kernel
theorem dX9_knockNow_69 : decode cX9_knockNow 69 = .ok (.invokevirtual 84, 3) := by decide +kernel
theorem dX9_knockNow_72 : decode cX9_knockNow 72 = .ok (.iload_n 2, 1) := by decide +kernel
theorem dX9_knockNow_73 : decode cX9_knockNow 73 = .ok (.ireturn, 1) := by decide +kernel
def lX9_knockNow_21 (F : Nat) (K50 : mS → Int32 → Int32 → Option (mS × Int32)) (t : Nat) (a1 : Int32) (S : mS) (s0 : Int32) : Option (mS × Int32) := bd (f_X9_write F S t a1 s0) fun q1 => if s0 = (1 : Int32) then (K50 q1 s0 (-1 : Int32)) else (bd (f_X9_isLetting F q1 t a1) fun q2 => if q2.2 = true then (K50 q2.1 s0 (1 : Int32)) else (K50 q2.1 s0 (0 : Int32)))
set_option maxHeartbeats 4000000 in
set_option maxRecDepth 100000 in
theorem gX9_knockNow_21 {x : mX} {F : Nat} {t : Nat} {a1 : Int32} {K50 : mS → Int32 → Int32 → Option (mS × Int32)} {R : mS × Int32} (ht : kd0 t = 9) (hK50 : ∀ (S : mS) (v2 : Int32) (s0 : Int32) , K50 S v2 s0 = some R → mG x μX9_knockNow 8 0 0 (mQe R.1 (some (.int R.2))) 0 0 E0 S 50 [(0, .ref (t)), (1, .int (a1)), (2, .int (v2))] [.int (s0)]) (S : mS) (s0 : Int32)  (h : lX9_knockNow_21 F K50 t a1 S s0 = some R) : mG x μX9_knockNow 8 0 0 (mQe R.1 (some (.int R.2))) 0 0 E0 S 21 [(0, .ref (t)), (1, .int (a1))] [.int (s0)] := by
  unfold lX9_knockNow_21 at h
  refine mG.istore_n (lv2 := [(2, .int (s0)), (0, .ref (t)), (1, .int (a1))]) dX9_knockNow_21 rfl (by decide) rfl ?_
  refine mG.aload_n 1 dX9_knockNow_22 rfl ?_
  refine mG.iload_n 2 dX9_knockNow_23 rfl ?_
  refine mG.iload_n 0 dX9_knockNow_24 rfl ?_
  obtain ⟨q1, hq1, h⟩ := bdp h
  refine mG.callV0 (as := [.int (a1), .int (s0)]) (st := []) (S2 := q1) (r := none) dX9_knockNow_25 mvX9_write wk33_16 rfl ht rfl (by decide) (Nat.le_of_ble_eq_true rfl) (c_X9_write ht hq1) ?_
  refine mG.iload_n 0 dX9_knockNow_28 rfl ?_
  refine mG.iconst (v := 1) dX9_knockNow_29 rfl ?_
  refine mG.icmp_ne 37 dX9_knockNow_30 (by decide) (fun c4 => ?_) (fun c4 => ?_)
  · replace h := itn c4 h
    refine mG.aload_n 1 dX9_knockNow_37 rfl ?_
    refine mG.iload_n 2 dX9_knockNow_38 rfl ?_
    obtain ⟨q2, hq2, h⟩ := bdp h
    refine mG.callV0 (as := [.int (a1)]) (st := []) (S2 := q2.1) (r := some (.int (bI (q2.2)))) dX9_knockNow_39 mvX9_isLetting wk33_20 rfl ht rfl (by decide) (Nat.le_of_ble_eq_true rfl) (c_X9_isLetting ht hq2) ?_
    refine mG.ifz_eq (b := q2.2) 49 dX9_knockNow_42 (by decide) (fun c3 => ?_) (fun c3 => ?_)
    · replace h := itn c3 h
      refine mG.iconst (v := 0) dX9_knockNow_49 rfl ?_
      refine mG.sub (lv2 := [(0, .ref (t)), (1, .int (a1)), (2, .int (s0))]) [1, 2, 0] rfl ?_
      exact hK50 q2.1 s0 (0 : Int32)  h
    · replace h := itp c3 h
      refine mG.iconst (v := 1) dX9_knockNow_45 rfl ?_
      refine mG.goto 50 dX9_knockNow_46 (by decide) ?_
      refine mG.sub (lv2 := [(0, .ref (t)), (1, .int (a1)), (2, .int (s0))]) [1, 2, 0] rfl ?_
      exact hK50 q2.1 s0 (1 : Int32)  h
  · replace h := itp c4 h
    refine mG.iconst (v := (-1)) dX9_knockNow_33 rfl ?_
    refine mG.goto 50 dX9_knockNow_34 (by decide) ?_
    refine mG.sub (lv2 := [(0, .ref (t)), (1, .int (a1)), (2, .int (s0))]) [1, 2, 0] rfl ?_
    exact hK50 q1 s0 (-1 : Int32)  h
def lX9_knockNow_50 (F : Nat)  (t : Nat) (a1 : Int32) (S : mS) (v2 : Int32) (s0 : Int32) : Option (mS × Int32) := bd (f_X9_get F S t a1 (2 : Int32)) fun q1 => bd (f_X9_put F S t a1 (2 : Int32) (f_X9_cut S (Int32.toInt64 (q1 + s0)) (0 : Int32) (99 : Int32))) fun q2 => some (q2, v2)
set_option maxHeartbeats 4000000 in
set_option maxRecDepth 100000 in
theorem gX9_knockNow_50 {x : mX} {F : Nat} {t : Nat} {a1 : Int32}  {R : mS × Int32} (ht : kd0 t = 9)  (S : mS) (v2 : Int32) (s0 : Int32)  (h : lX9_knockNow_50 F  t a1 S v2 s0 = some R) : mG x μX9_knockNow 8 0 0 (mQe R.1 (some (.int R.2))) 0 0 E0 S 50 [(0, .ref (t)), (1, .int (a1)), (2, .int (v2))] [.int (s0)] := by
  unfold lX9_knockNow_50 at h
  refine mG.istore_n (lv2 := [(3, .int (s0)), (0, .ref (t)), (1, .int (a1)), (2, .int (v2))]) dX9_knockNow_50 rfl (by decide) rfl ?_
  refine mG.aload_n 1 dX9_knockNow_51 rfl ?_
  refine mG.iload_n 2 dX9_knockNow_52 rfl ?_
  refine mG.iconst (v := 2) dX9_knockNow_53 rfl ?_
  refine mG.aload_n 1 dX9_knockNow_54 rfl ?_
  refine mG.iload_n 2 dX9_knockNow_55 rfl ?_
  refine mG.iconst (v := 2) dX9_knockNow_56 rfl ?_
  obtain ⟨q1, hq1, h⟩ := bdp h
  refine mG.callV0 (as := [.int (a1), .int 2]) (st := [.int 2, .int (a1), .ref (t)]) (S2 := S) (r := some (.int (q1))) dX9_knockNow_57 mvX9_get wk7_23 rfl ht rfl (by decide) (Nat.le_of_ble_eq_true rfl) (c_X9_get ht hq1) ?_
  refine mG.iload_n 0 dX9_knockNow_60 rfl ?_
  refine mG.iadd dX9_knockNow_61 ?_
  refine mG.i2l dX9_knockNow_62 ?_
  refine mG.iconst (v := 0) dX9_knockNow_63 rfl ?_
  refine mG.bipush (v := 99) dX9_knockNow_64 (by decide) ?_
  refine mG.callS0 (as := [.long (Int32.toInt64 (q1 + s0)), .int 0, .int 99]) (st := [.int 2, .int (a1), .ref (t)]) (S2 := S) (r := some (.int (f_X9_cut S (Int32.toInt64 (q1 + s0)) (0 : Int32) (99 : Int32)))) dX9_knockNow_66 mbX9_cut wk36_2 wk36_1 rfl rfl (by decide) (Nat.le_of_ble_eq_true rfl) (c_X9_cut  rfl) ?_
  obtain ⟨q2, hq2, h⟩ := bdp h
  refine mG.callV0 (as := [.int (a1), .int 2, .int (f_X9_cut S (Int32.toInt64 (q1 + s0)) (0 : Int32) (99 : Int32))]) (st := []) (S2 := q2) (r := none) dX9_knockNow_69 mvX9_put wk7_15 rfl ht rfl (by decide) (Nat.le_of_ble_eq_true rfl) (c_X9_put ht hq2) ?_
  refine mG.iload_n 3 dX9_knockNow_72 rfl ?_
  obtain rfl := Option.some.inj h
  exact mG.iret dX9_knockNow_73 rfl ⟨rfl, rfl, rfl⟩
def f_X9_knockNow (F : Nat) (S : mS) (t : Nat) (a1 : Int32) : Option (mS × Int32) := bd (f_X9_get F S t a1 (0 : Int32)) fun q1 => bd (f_X9_date F S t) fun q2 => if (f_X9_has S q1 q2) = true then (lX9_knockNow_21 F (fun (S : mS) (v2 : Int32) (s0 : Int32) => lX9_knockNow_50 F  t a1 S v2 s0) t a1 S (1 : Int32)) else (lX9_knockNow_21 F (fun (S : mS) (v2 : Int32) (s0 : Int32) => lX9_knockNow_50 F  t a1 S v2 s0) t a1 S (0 : Int32))
set_option maxHeartbeats 4000000 in
set_option maxRecDepth 100000 in
theorem c_X9_knockNow {F : Nat} {S : mS} {t : Nat} {a1 : Int32} {R : mS × Int32} (ht : kd0 t = 9) (h : f_X9_knockNow F S t a1 = some R) : mCt μX9_knockNow 8 0 0 E0 S [.ref (t), .int (a1)] (mQe R.1 (some (.int R.2))) := by
  unfold f_X9_knockNow at h
  refine mCt.of (by decide) (Nat.le_of_ble_eq_true rfl) ?_
  intro x
  refine mG.aload_n 0 dX9_knockNow_0 rfl ?_
  refine mG.iload_n 1 dX9_knockNow_1 rfl ?_
  refine mG.iconst (v := 0) dX9_knockNow_2 rfl ?_
  obtain ⟨q1, hq1, h⟩ := bdp h
  refine mG.callV0 (as := [.int (a1), .int 0]) (st := []) (S2 := S) (r := some (.int (q1))) dX9_knockNow_3 mvX9_get wk7_23 rfl ht rfl (by decide) (Nat.le_of_ble_eq_true rfl) (c_X9_get ht hq1) ?_
  refine mG.aload_n 0 dX9_knockNow_6 rfl ?_
  obtain ⟨q2, hq2, h⟩ := bdp h
  refine mG.callV0 (as := []) (st := [.int (q1)]) (S2 := S) (r := some (.int (q2))) dX9_knockNow_7 mvX9_date wk33_12 rfl ht rfl (by decide) (Nat.le_of_ble_eq_true rfl) (c_X9_date ht hq2) ?_
  refine mG.callS0 (as := [.int (q1), .int (q2)]) (st := []) (S2 := S) (r := some (.int (bI (f_X9_has S q1 q2)))) dX9_knockNow_10 mbX9_has wk22_12 wk22_11 rfl rfl (by decide) (Nat.le_of_ble_eq_true rfl) (c_X9_has  rfl) ?_
  refine mG.ifz_eq (b := f_X9_has S q1 q2) 20 dX9_knockNow_13 (by decide) (fun c3 => ?_) (fun c3 => ?_)
  · replace h := itn c3 h
    refine mG.iconst (v := 0) dX9_knockNow_20 rfl ?_
    refine mG.sub (lv2 := [(0, .ref (t)), (1, .int (a1))]) [0, 1] rfl ?_
    exact gX9_knockNow_21 ht (fun S v2 s0 h => by exact gX9_knockNow_50 ht   S v2 s0  h)  S (0 : Int32)  h
  · replace h := itp c3 h
    refine mG.iconst (v := 1) dX9_knockNow_16 rfl ?_
    refine mG.goto 21 dX9_knockNow_17 (by decide) ?_
    refine mG.sub (lv2 := [(0, .ref (t)), (1, .int (a1))]) [0, 1] rfl ?_
    exact gX9_knockNow_21 ht (fun S v2 s0 h => by exact gX9_knockNow_50 ht   S v2 s0  h)  S (1 : Int32)  h
theorem dX9_knock_0 : decode cX9_knock 0 = .ok (.aload_n 0, 1) := by decide +kernel
theorem dX9_knock_1 : decode cX9_knock 1 = .ok (.iload_n 1, 1) := by decide +kernel
theorem dX9_knock_2 : decode cX9_knock 2 = .ok (.invokevirtual 77, 3) := by decide +kernel
theorem dX9_knock_5 : decode cX9_knock 5 = .ok (.ifCond .ne 5, 3) := by decide +kernel
theorem dX9_knock_8 : decode cX9_knock 8 = .ok (.iconst (-1), 1) := by decide +kernel
theorem dX9_knock_9 : decode cX9_knock 9 = .ok (.ireturn, 1) := by decide +kernel
theorem dX9_knock_10 : decode cX9_knock 10 = .ok (.aload_n 0, 1) := by decide +kernel
theorem dX9_knock_11 : decode cX9_knock 11 = .ok (.invokevirtual 335, 3) := by decide +kernel
theorem dX9_knock_14 : decode cX9_knock 14 = .ok (.aload_n 0, 1) := by decide +kernel
theorem dX9_knock_15 : decode cX9_knock 15 = .ok (.iload_n 1, 1) := by decide +kernel
theorem dX9_knock_16 : decode cX9_knock 16 = .ok (.invokevirtual 338, 3) := by decide +kernel
theorem dX9_knock_19 : decode cX9_knock 19 = .ok (.ireturn, 1) := by decide +kernel
def f_X9_knock (F : Nat) (S : mS) (t : Nat) (a1 : Int32) : Option (mS × Int32) := bd (f_X9_isHere F S t a1) fun q1 => if q1 = true then (bd (f_X9_keep F S t) fun q2 => bd (f_X9_knockNow F q2 t a1) fun q3 => some (q3.1, q3.2)) else (some (S, (-1 : Int32)))
set_option maxHeartbeats 4000000 in
set_option maxRecDepth 100000 in
theorem c_X9_knock {F : Nat} {S : mS} {t : Nat} {a1 : Int32} {R : mS × Int32} (ht : kd0 t = 9) (h : f_X9_knock F S t a1 = some R) : mCt μX9_knock 9 0 0 E0 S [.ref (t), .int (a1)] (mQe R.1 (some (.int R.2))) := by
  unfold f_X9_knock at h
  refine mCt.of (by decide) (Nat.le_of_ble_eq_true rfl) ?_
  intro x
  refine mG.aload_n 0 dX9_knock_0 rfl ?_
  refine mG.iload_n 1 dX9_knock_1 rfl ?_
  obtain ⟨q1, hq1, h⟩ := bdp h
  refine mG.callV0 (as := [.int (a1)]) (st := []) (S2 := S) (r := some (.int (bI (q1)))) dX9_knock_2 mvX9_isHere wk32_20 rfl ht rfl (by decide) (Nat.le_of_ble_eq_true rfl) (c_X9_isHere ht hq1) ?_
  refine mG.ifz_ne (b := q1) 10 dX9_knock_5 (by decide) (fun c4 => ?_) (fun c4 => ?_)
  · replace h := itp c4 h
    refine mG.aload_n 0 dX9_knock_10 rfl ?_
    obtain ⟨q2, hq2, h⟩ := bdp h
    refine mG.callV0 (as := []) (st := []) (S2 := q2) (r := none) dX9_knock_11 mvX9_keep wk33_4 rfl ht rfl (by decide) (Nat.le_of_ble_eq_true rfl) (c_X9_keep ht hq2) ?_
    refine mG.aload_n 0 dX9_knock_14 rfl ?_
    refine mG.iload_n 1 dX9_knock_15 rfl ?_
    obtain ⟨q3, hq3, h⟩ := bdp h
    refine mG.callV0 (as := [.int (a1)]) (st := []) (S2 := q3.1) (r := some (.int (q3.2))) dX9_knock_16 mvX9_knockNow wk33_8 rfl ht rfl (by decide) (Nat.le_of_ble_eq_true rfl) (c_X9_knockNow ht hq3) ?_
    obtain rfl := Option.some.inj h
    exact mG.iret dX9_knock_19 rfl ⟨rfl, rfl, rfl⟩
  · replace h := itn c4 h
    refine mG.iconst (v := (-1)) dX9_knock_8 rfl ?_
    obtain rfl := Option.some.inj h
    exact mG.iret dX9_knock_9 rfl ⟨rfl, rfl, rfl⟩
