theorem dX0_keepBetter_0 : decode cX0_keepBetter 0 = .ok (.iload_n 1, 1) := by decide +kernel
theorem dX0_keepBetter_1 : decode cX0_keepBetter 1 = .ok (.aload_n 0, 1) := by decide +kernel
theorem dX0_keepBetter_2 : decode cX0_keepBetter 2 = .ok (.getfield 18, 3) := by decide +kernel
theorem dX0_keepBetter_5 : decode cX0_keepBetter 5 = .ok (.if_icmp .le 23, 3) := by decide +kernel
theorem dX0_keepBetter_8 : decode cX0_keepBetter 8 = .ok (.aload_n 0, 1) := by decide +kernel
theorem dX0_keepBetter_9 : decode cX0_keepBetter 9 = .ok (.iload_n 1, 1) := by decide +kernel
theorem dX0_keepBetter_10 : decode cX0_keepBetter 10 = .ok (.putfield 18, 3) := by decide +kernel
theorem dX0_keepBetter_13 : decode cX0_keepBetter 13 = .ok (.aload_n 0, 1) := by decide +kernel
theorem dX0_keepBetter_14 : decode cX0_keepBetter 14 = .ok (.getfield 15, 3) := by decide +kernel
theorem dX0_keepBetter_17 : decode cX0_keepBetter 17 = .ok (.iconst 0, 1) := by decide +kernel
theorem dX0_keepBetter_18 : decode cX0_keepBetter 18 = .ok (.aload_n 0, 1) := by decide +kernel
theorem dX0_keepBetter_19 : decode cX0_keepBetter 19 = .ok (.getfield 9, 3) := by decide +kernel
theorem dX0_keepBetter_22 : decode cX0_keepBetter 22 = .ok (.iconst 0, 1) := by decide +kernel
theorem dX0_keepBetter_23 : decode cX0_keepBetter 23 = .ok (.bipush 7, 2) := by decide +kernel
theorem dX0_keepBetter_25 : decode cX0_keepBetter 25 = .ok (.invokestatic 48, 3) := by decide +kernel
theorem dX0_keepBetter_28 : decode cX0_keepBetter 28 = .ok (.return_, 1) := by decide +kernel
def f_X0_keepBetter (F : Nat) (S : mS) (t : Nat) (a1 : Int32) : Option mS := if a1 ≤ (S.1 t 0) then (some S) else (stp (sI S t 0 a1) fun S1 => ck (cpo (0 : Int32) (0 : Int32) (7 : Int32) 7 7) (stp (sC S1 (t + 2) (t + 1) (0 : Int32).toNatClampNeg (0 : Int32).toNatClampNeg (7 : Int32).toNatClampNeg) fun S3 => some S3))
set_option maxHeartbeats 4000000 in
set_option maxRecDepth 100000 in
theorem c_X0_keepBetter {F : Nat} {S : mS} {t : Nat} {a1 : Int32} {R : mS} (ht : kd0 t = 0) (h : f_X0_keepBetter F S t a1 = some R) : mCt μX0_keepBetter 1 0 0 E0 S [.ref (t), .int (a1)] (mQe R none) := by
  unfold f_X0_keepBetter at h
  refine mCt.of (by decide) (Nat.le_of_ble_eq_true rfl) ?_
  intro x
  refine mG.iload_n 1 dX0_keepBetter_0 rfl ?_
  refine mG.aload_n 0 dX0_keepBetter_1 rfl ?_
  refine mG.get (v := .int (S.1 t 0)) dX0_keepBetter_2 mfX0_18 ht rfl ?_
  refine mG.icmp_le 28 dX0_keepBetter_5 (by decide) (fun c4 => ?_) (fun c4 => ?_)
  · replace h := itp c4 h
    obtain rfl := Option.some.inj h
    exact mG.vret dX0_keepBetter_28 rfl ⟨rfl, rfl, rfl⟩
  · replace h := itn c4 h
    refine mG.aload_n 0 dX0_keepBetter_8 rfl ?_
    refine mG.iload_n 1 dX0_keepBetter_9 rfl ?_
    obtain ⟨S1, hS1, h⟩ := stpp h
    refine mG.putI dX0_keepBetter_10 mfX0_18 rfl (Or.inl rfl) ht hS1 ?_
    refine mG.aload_n 0 dX0_keepBetter_13 rfl ?_
    refine mG.get (v := .ref (t + 2)) dX0_keepBetter_14 mfX0_15 ht (lr0_with ht) ?_
    refine mG.iconst (v := 0) dX0_keepBetter_17 rfl ?_
    refine mG.aload_n 0 dX0_keepBetter_18 rfl ?_
    refine mG.get (v := .ref (t + 1)) dX0_keepBetter_19 mfX0_9 ht (lr0_best ht) ?_
    refine mG.iconst (v := 0) dX0_keepBetter_22 rfl ?_
    refine mG.bipush (v := 7) dX0_keepBetter_23 (by decide) ?_
    obtain ⟨b2, h⟩ := ckp h
    obtain ⟨S3, hS3, h⟩ := stpp h
    refine mG.acopy dX0_keepBetter_25 wk59_8 (by decide) (Nat.le_of_ble_eq_true rfl) (lk0_with ht) (lk0_best ht) (cpop b2).1 (cpop b2).2.1 (cpop b2).2.2.1 (by rw [show E0.2.2.1 _ = _ from (ll0_with ht)]; exact (cpop b2).2.2.2.1) (by rw [show E0.2.2.1 _ = _ from (ll0_best ht)]; exact (cpop b2).2.2.2.2) hS3 ?_
    obtain rfl := Option.some.inj h
    exact mG.vret dX0_keepBetter_28 rfl ⟨rfl, rfl, rfl⟩
theorem dX0_pairFrom_0 : decode cX0_pairFrom 0 = .ok (.iload_n 2, 1) := by decide +kernel
theorem dX0_pairFrom_1 : decode cX0_pairFrom 1 = .ok (.aload_n 1, 1) := by decide +kernel
theorem dX0_pairFrom_2 : decode cX0_pairFrom 2 = .ok (.getfield 26, 3) := by decide +kernel
theorem dX0_pairFrom_5 : decode cX0_pairFrom 5 = .ok (.if_icmp .ge 9, 3) := by decide +kernel
theorem dX0_pairFrom_8 : decode cX0_pairFrom 8 = .ok (.iload_n 2, 1) := by decide +kernel
theorem dX0_pairFrom_9 : decode cX0_pairFrom 9 = .ok (.bipush 7, 2) := by decide +kernel
theorem dX0_pairFrom_11 : decode cX0_pairFrom 11 = .ok (.if_icmp .lt 9, 3) := by decide +kernel
theorem dX0_pairFrom_14 : decode cX0_pairFrom 14 = .ok (.aload_n 0, 1) := by decide +kernel
theorem dX0_pairFrom_15 : decode cX0_pairFrom 15 = .ok (.iload_n 3, 1) := by decide +kernel
theorem dX0_pairFrom_16 : decode cX0_pairFrom 16 = .ok (.invokevirtual 31, 3) := by decide +kernel
theorem dX0_pairFrom_19 : decode cX0_pairFrom 19 = .ok (.return_, 1) := by decide +kernel
theorem dX0_pairFrom_20 : decode cX0_pairFrom 20 = .ok (.aload_n 0, 1) := by decide +kernel
theorem dX0_pairFrom_21 : decode cX0_pairFrom 21 = .ok (.aload_n 1, 1) := by decide +kernel
theorem dX0_pairFrom_22 : decode cX0_pairFrom 22 = .ok (.iload_n 2, 1) := by decide +kernel
theorem dX0_pairFrom_23 : decode cX0_pairFrom 23 = .ok (.iconst 1, 1) := by decide +kernel
theorem dX0_pairFrom_24 : decode cX0_pairFrom 24 = .ok (.iadd, 1) := by decide +kernel
theorem dX0_pairFrom_25 : decode cX0_pairFrom 25 = .ok (.iload_n 3, 1) := by decide +kernel
theorem dX0_pairFrom_26 : decode cX0_pairFrom 26 = .ok (.invokestatic 22, 3) := by decide +kernel
theorem dX0_pairFrom_29 : decode cX0_pairFrom 29 = .ok (.aload_n 0, 1) := by decide +kernel
theorem dX0_pairFrom_30 : decode cX0_pairFrom 30 = .ok (.getfield 15, 3) := by decide +kernel
theorem dX0_pairFrom_33 : decode cX0_pairFrom 33 = .ok (.iload_n 2, 1) := by decide +kernel
theorem dX0_pairFrom_34 : decode cX0_pairFrom 34 = .ok (.iaload, 1) := by decide +kernel
theorem dX0_pairFrom_35 : decode cX0_pairFrom 35 = .ok (.iconst (-1), 1) := by decide +kernel
theorem dX0_pairFrom_36 : decode cX0_pairFrom 36 = .ok (.if_icmp .ne 11, 3) := by decide +kernel
theorem dX0_pairFrom_39 : decode cX0_pairFrom 39 = .ok (.aload_n 1, 1) := by decide +kernel
theorem dX0_pairFrom_40 : decode cX0_pairFrom 40 = .ok (.iload_n 2, 1) := by decide +kernel
theorem dX0_pairFrom_41 : decode cX0_pairFrom 41 = .ok (.invokevirtual 35, 3) := by decide +kernel
theorem dX0_pairFrom_44 : decode cX0_pairFrom 44 = .ok (.ifCond .ne 4, 3) := by decide +kernel
theorem dX0_pairFrom_47 : decode cX0_pairFrom 47 = .ok (.return_, 1) := by decide +kernel
theorem dX0_pairFrom_48 : decode cX0_pairFrom 48 = .ok (.iload_n 2, 1) := by decide +kernel
theorem dX0_pairFrom_49 : decode cX0_pairFrom 49 = .ok (.iconst 1, 1) := by decide +kernel
theorem dX0_pairFrom_50 : decode cX0_pairFrom 50 = .ok (.iadd, 1) := by decide +kernel
theorem dX0_pairFrom_51 : decode cX0_pairFrom 51 = .ok (.istore 4, 2) := by decide +kernel
theorem dX0_pairFrom_53 : decode cX0_pairFrom 53 = .ok (.iload 4, 2) := by decide +kernel
theorem dX0_pairFrom_55 : decode cX0_pairFrom 55 = .ok (.aload_n 1, 1) := by decide +kernel
theorem dX0_pairFrom_56 : decode cX0_pairFrom 56 = .ok (.getfield 26, 3) := by decide +kernel
theorem dX0_pairFrom_59 : decode cX0_pairFrom 59 = .ok (.if_icmp .ge 98, 3) := by decide +kernel
theorem dX0_pairFrom_62 : decode cX0_pairFrom 62 = .ok (.iload 4, 2) := by decide +kernel
theorem dX0_pairFrom_64 : decode cX0_pairFrom 64 = .ok (.bipush 7, 2) := by decide +kernel
theorem dX0_pairFrom_66 : decode cX0_pairFrom 66 = .ok (.if_icmp .ge 91, 3) := by decide +kernel
theorem dX0_pairFrom_69 : decode cX0_pairFrom 69 = .ok (.aload_n 0, 1) := by decide +kernel
theorem dX0_pairFrom_70 : decode cX0_pairFrom 70 = .ok (.getfield 15, 3) := by decide +kernel
theorem dX0_pairFrom_73 : decode cX0_pairFrom 73 = .ok (.iload 4, 2) := by decide +kernel
theorem dX0_pairFrom_75 : decode cX0_pairFrom 75 = .ok (.iaload, 1) := by decide +kernel
theorem dX0_pairFrom_76 : decode cX0_pairFrom 76 = .ok (.iconst (-1), 1) := by decide +kernel
theorem dX0_pairFrom_77 : decode cX0_pairFrom 77 = .ok (.if_icmp .ne 74, 3) := by decide +kernel
theorem dX0_pairFrom_80 : decode cX0_pairFrom 80 = .ok (.aload_n 1, 1) := by decide +kernel
theorem dX0_pairFrom_81 : decode cX0_pairFrom 81 = .ok (.iload 4, 2) := by decide +kernel
theorem dX0_pairFrom_83 : decode cX0_pairFrom 83 = .ok (.invokevirtual 35, 3) := by decide +kernel
theorem dX0_pairFrom_86 : decode cX0_pairFrom 86 = .ok (.ifCond .eq 65, 3) := by decide +kernel
theorem dX0_pairFrom_89 : decode cX0_pairFrom 89 = .ok (.aload_n 1, 1) := by decide +kernel
theorem dX0_pairFrom_90 : decode cX0_pairFrom 90 = .ok (.getfield 39, 3) := by decide +kernel
theorem dX0_pairFrom_93 : decode cX0_pairFrom 93 = .ok (.iload_n 2, 1) := by decide +kernel
theorem dX0_pairFrom_94 : decode cX0_pairFrom 94 = .ok (.iaload, 1) := by decide +kernel
theorem dX0_pairFrom_95 : decode cX0_pairFrom 95 = .ok (.aload_n 1, 1) := by decide +kernel
theorem dX0_pairFrom_96 : decode cX0_pairFrom 96 = .ok (.getfield 39, 3) := by decide +kernel
theorem dX0_pairFrom_99 : decode cX0_pairFrom 99 = .ok (.iload 4, 2) := by decide +kernel
theorem dX0_pairFrom_101 : decode cX0_pairFrom 101 = .ok (.iaload, 1) := by decide +kernel
theorem dX0_pairFrom_102 : decode cX0_pairFrom 102 = .ok (.iand, 1) := by decide +kernel
theorem dX0_pairFrom_103 : decode cX0_pairFrom 103 = .ok (.invokestatic 42, 3) := by decide +kernel
theorem dX0_pairFrom_106 : decode cX0_pairFrom 106 = .ok (.istore 5, 2) := by decide +kernel
theorem dX0_pairFrom_108 : decode cX0_pairFrom 108 = .ok (.aload_n 0, 1) := by decide +kernel
theorem dX0_pairFrom_109 : decode cX0_pairFrom 109 = .ok (.getfield 15, 3) := by decide +kernel
theorem dX0_pairFrom_112 : decode cX0_pairFrom 112 = .ok (.iload_n 2, 1) := by decide +kernel
theorem dX0_pairFrom_113 : decode cX0_pairFrom 113 = .ok (.iload 4, 2) := by decide +kernel
theorem dX0_pairFrom_115 : decode cX0_pairFrom 115 = .ok (.iastore, 1) := by decide +kernel
theorem dX0_pairFrom_116 : decode cX0_pairFrom 116 = .ok (.aload_n 0, 1) := by decide +kernel
theorem dX0_pairFrom_117 : decode cX0_pairFrom 117 = .ok (.getfield 15, 3) := by decide +kernel
theorem dX0_pairFrom_120 : decode cX0_pairFrom 120 = .ok (.iload 4, 2) := by decide +kernel
theorem dX0_pairFrom_122 : decode cX0_pairFrom 122 = .ok (.iload_n 2, 1) := by decide +kernel
theorem dX0_pairFrom_123 : decode cX0_pairFrom 123 = .ok (.iastore, 1) := by decide +kernel
theorem dX0_pairFrom_124 : decode cX0_pairFrom 124 = .ok (.aload_n 0, 1) := by decide +kernel
theorem dX0_pairFrom_125 : decode cX0_pairFrom 125 = .ok (.aload_n 1, 1) := by decide +kernel
theorem dX0_pairFrom_126 : decode cX0_pairFrom 126 = .ok (.iload_n 2, 1) := by decide +kernel
theorem dX0_pairFrom_127 : decode cX0_pairFrom 127 = .ok (.iconst 1, 1) := by decide +kernel
theorem dX0_pairFrom_128 : decode cX0_pairFrom 128 = .ok (.iadd, 1) := by decide +kernel
theorem dX0_pairFrom_129 : decode cX0_pairFrom 129 = .ok (.iload_n 3, 1) := by decide +kernel
theorem dX0_pairFrom_130 : decode cX0_pairFrom 130 = .ok (.iload 5, 2) := by decide +kernel
theorem dX0_pairFrom_132 : decode cX0_pairFrom 132 = .ok (.iadd, 1) := by decide +kernel
theorem dX0_pairFrom_133 : decode cX0_pairFrom 133 = .ok (.invokestatic 22, 3) := by decide +kernel
theorem dX0_pairFrom_136 : decode cX0_pairFrom 136 = .ok (.aload_n 0, 1) := by decide +kernel
theorem dX0_pairFrom_137 : decode cX0_pairFrom 137 = .ok (.getfield 15, 3) := by decide +kernel
theorem dX0_pairFrom_140 : decode cX0_pairFrom 140 = .ok (.iload_n 2, 1) := by decide +kernel
theorem dX0_pairFrom_141 : decode cX0_pairFrom 141 = .ok (.iconst (-1), 1) := by decide +kernel
theorem dX0_pairFrom_142 : decode cX0_pairFrom 142 = .ok (.iastore, 1) := by decide +kernel
theorem dX0_pairFrom_143 : decode cX0_pairFrom 143 = .ok (.aload_n 0, 1) := by decide +kernel
theorem dX0_pairFrom_144 : decode cX0_pairFrom 144 = .ok (.getfield 15, 3) := by decide +kernel
theorem dX0_pairFrom_147 : decode cX0_pairFrom 147 = .ok (.iload 4, 2) := by decide +kernel
theorem dX0_pairFrom_149 : decode cX0_pairFrom 149 = .ok (.iconst (-1), 1) := by decide +kernel
theorem dX0_pairFrom_150 : decode cX0_pairFrom 150 = .ok (.iastore, 1) := by decide +kernel
theorem dX0_pairFrom_151 : decode cX0_pairFrom 151 = .ok (.iinc 4 1, 3) := by decide +kernel
theorem dX0_pairFrom_154 : decode cX0_pairFrom 154 = .ok (.goto (-101), 3) := by decide +kernel
theorem dX0_pairFrom_157 : decode cX0_pairFrom 157 = .ok (.return_, 1) := by decide +kernel
def lX0_pairFrom_53 (rX0_pairFrom : mS → Nat → Nat → Int32 → Int32 → Option mS) (F : Nat)  (a1 : Nat) (a2 : Nat) (a3 : Int32) (a4 : Int32) : Nat → mS → Int32 → Option mS
  | 0, _, _ => none
  | n + 1, S, v4 => if (S.1 a2 5) ≤ v4 then (some S) else (if (7 : Int32) ≤ v4 then (some S) else (ck (inb v4 7) (if (S.1 (a1 + 2) v4.toNatClampNeg) = (-1 : Int32) then (if (f_X6_lives S a2 v4) = true then (ck (inb a3 7) (ck (inb v4 7) (ck (inb a3 7) (stp (sI S (a1 + 2) a3.toNatClampNeg v4) fun S5 => ck (inb v4 7) (stp (sI S5 (a1 + 2) v4.toNatClampNeg a3) fun S7 => bd (rX0_pairFrom S7 a1 a2 (a3 + (1 : Int32)) (a4 + (f_J6_bitCount_0f7a4 S ((S.1 (a2 + 1) a3.toNatClampNeg) &&& (S.1 (a2 + 1) v4.toNatClampNeg))))) fun q8 => ck (inb a3 7) (stp (sI q8 (a1 + 2) a3.toNatClampNeg (-1 : Int32)) fun S10 => ck (inb v4 7) (stp (sI S10 (a1 + 2) v4.toNatClampNeg (-1 : Int32)) fun S12 => lX0_pairFrom_53 rX0_pairFrom F  a1 a2 a3 a4 n S12 (v4 + 1)))))))) else (lX0_pairFrom_53 rX0_pairFrom F  a1 a2 a3 a4 n S (v4 + 1))) else (lX0_pairFrom_53 rX0_pairFrom F  a1 a2 a3 a4 n S (v4 + 1)))))
set_option maxHeartbeats 4000000 in
set_option maxRecDepth 100000 in
theorem gX0_pairFrom_53 {x : mX} {D0 D : Nat} (hD : D0 + 1 ≤ D) (hD2 : 3 ≤ D) {rX0_pairFrom : mS → Nat → Nat → Int32 → Int32 → Option mS} {F : Nat} {a1 : Nat} {a2 : Nat} {a3 : Int32} {a4 : Int32}   {R : mS} (hrX0_pairFrom : ∀ {S : mS} {a1 : Nat} {a2 : Nat} {a3 : Int32} {a4 : Int32} {R : mS}, kd0 a1 = 0 → kd0 a2 = 6 → rX0_pairFrom S a1 a2 a3 a4 = some R → mCt μX0_pairFrom D0 0 0 E0 S [.ref a1, .ref a2, .int a3, .int a4] (mQe R none)) (ha1 : kd0 a1 = 0) (ha2 : kd0 a2 = 6)  : ∀ (n : Nat) (S : mS) (v4 : Int32), lX0_pairFrom_53 rX0_pairFrom F  a1 a2 a3 a4 n S v4 = some R → mG x μX0_pairFrom D 0 0 (mQe R none) 0 0 E0 S 53 [(0, .ref (a1)), (1, .ref (a2)), (2, .int (a3)), (3, .int (a4)), (4, .int (v4))] [] := by
  intro n
  induction n with
  | zero =>
    intro S v4 h
    cases h
  | succ n ih =>
    intro S v4 h
    unfold lX0_pairFrom_53 at h
    refine mG.iload 4 dX0_pairFrom_53 rfl ?_
    refine mG.aload_n 1 dX0_pairFrom_55 rfl ?_
    refine mG.get (v := .int (S.1 a2 5)) dX0_pairFrom_56 mfX0_26 ha2 rfl ?_
    refine mG.icmp_ge 157 dX0_pairFrom_59 (by decide) (fun c16 => ?_) (fun c16 => ?_)
    · replace h := itp c16 h
      obtain rfl := Option.some.inj h
      exact mG.vret dX0_pairFrom_157 rfl ⟨rfl, rfl, rfl⟩
    · replace h := itn c16 h
      refine mG.iload 4 dX0_pairFrom_62 rfl ?_
      refine mG.bipush (v := 7) dX0_pairFrom_64 (by decide) ?_
      refine mG.icmp_ge 157 dX0_pairFrom_66 (by decide) (fun c15 => ?_) (fun c15 => ?_)
      · replace h := itp c15 h
        obtain rfl := Option.some.inj h
        exact mG.vret dX0_pairFrom_157 rfl ⟨rfl, rfl, rfl⟩
      · replace h := itn c15 h
        refine mG.aload_n 0 dX0_pairFrom_69 rfl ?_
        refine mG.get (v := .ref (a1 + 2)) dX0_pairFrom_70 mfX0_15 ha1 (lr0_with ha1) ?_
        refine mG.iload 4 dX0_pairFrom_73 rfl ?_
        obtain ⟨b1, h⟩ := ckp h
        refine mG.iald dX0_pairFrom_75 (lk0_with ha1) (ll0_with ha1) (inbp b1) ?_
        refine mG.iconst (v := (-1)) dX0_pairFrom_76 rfl ?_
        refine mG.icmp_ne 151 dX0_pairFrom_77 (by decide) (fun c14 => ?_) (fun c14 => ?_)
        · replace h := itn c14 h
          refine mG.iinc 4 (u := v4 + 1) (lv2 := [(4, .int (v4 + 1)), (0, .ref (a1)), (1, .ref (a2)), (2, .int (a3)), (3, .int (a4))]) dX0_pairFrom_151 rfl rfl (by decide) rfl ?_
          refine mG.goto 53 dX0_pairFrom_154 (by decide) ?_
          refine mG.sub (lv2 := [(0, .ref (a1)), (1, .ref (a2)), (2, .int (a3)), (3, .int (a4)), (4, .int (v4 + 1))]) [1, 2, 3, 4, 0] rfl ?_
          exact ih S (v4 + 1)  h
        · replace h := itp c14 h
          refine mG.aload_n 1 dX0_pairFrom_80 rfl ?_
          refine mG.iload 4 dX0_pairFrom_81 rfl ?_
          refine mG.callV0 (as := [.int (v4)]) (st := []) (S2 := S) (r := some (.int (bI (f_X6_lives S a2 v4)))) dX0_pairFrom_83 mvX6_lives wk59_9 rfl ha2 rfl (by omega) (Nat.le_of_ble_eq_true rfl) (c_X6_lives ha2 rfl) ?_
          refine mG.ifz_eq (b := f_X6_lives S a2 v4) 151 dX0_pairFrom_86 (by decide) (fun c13 => ?_) (fun c13 => ?_)
          · replace h := itn c13 h
            refine mG.iinc 4 (u := v4 + 1) (lv2 := [(4, .int (v4 + 1)), (0, .ref (a1)), (1, .ref (a2)), (2, .int (a3)), (3, .int (a4))]) dX0_pairFrom_151 rfl rfl (by decide) rfl ?_
            refine mG.goto 53 dX0_pairFrom_154 (by decide) ?_
            refine mG.sub (lv2 := [(0, .ref (a1)), (1, .ref (a2)), (2, .int (a3)), (3, .int (a4)), (4, .int (v4 + 1))]) [1, 2, 3, 4, 0] rfl ?_
            exact ih S (v4 + 1)  h
          · replace h := itp c13 h
            refine mG.aload_n 1 dX0_pairFrom_89 rfl ?_
            refine mG.get (v := .ref (a2 + 1)) dX0_pairFrom_90 mfX0_39 ha2 (lr6_shut ha2) ?_
            refine mG.iload_n 2 dX0_pairFrom_93 rfl ?_
            obtain ⟨b2, h⟩ := ckp h
            refine mG.iald dX0_pairFrom_94 (lk6_shut ha2) (ll6_shut ha2) (inbp b2) ?_
            refine mG.aload_n 1 dX0_pairFrom_95 rfl ?_
            refine mG.get (v := .ref (a2 + 1)) dX0_pairFrom_96 mfX0_39 ha2 (lr6_shut ha2) ?_
            refine mG.iload 4 dX0_pairFrom_99 rfl ?_
            obtain ⟨b3, h⟩ := ckp h
            refine mG.iald dX0_pairFrom_101 (lk6_shut ha2) (ll6_shut ha2) (inbp b3) ?_
            refine mG.iand dX0_pairFrom_102 ?_
            refine mG.callS0 (as := [.int ((S.1 (a2 + 1) a3.toNatClampNeg) &&& (S.1 (a2 + 1) v4.toNatClampNeg))]) (st := []) (S2 := S) (r := some (.int (f_J6_bitCount_0f7a4 S ((S.1 (a2 + 1) a3.toNatClampNeg) &&& (S.1 (a2 + 1) v4.toNatClampNeg))))) dX0_pairFrom_103 mbJ6_bitCount_0f7a4 wk30_6 wk59_10 rfl rfl (by omega) (Nat.le_of_ble_eq_true rfl) (c_J6_bitCount_0f7a4  rfl) ?_
            refine mG.istore (lv2 := [(5, .int (f_J6_bitCount_0f7a4 S ((S.1 (a2 + 1) a3.toNatClampNeg) &&& (S.1 (a2 + 1) v4.toNatClampNeg)))), (0, .ref (a1)), (1, .ref (a2)), (2, .int (a3)), (3, .int (a4)), (4, .int (v4))]) dX0_pairFrom_106 (by decide) rfl ?_
            refine mG.aload_n 1 dX0_pairFrom_108 rfl ?_
            refine mG.get (v := .ref (a1 + 2)) dX0_pairFrom_109 mfX0_15 ha1 (lr0_with ha1) ?_
            refine mG.iload_n 3 dX0_pairFrom_112 rfl ?_
            refine mG.iload 5 dX0_pairFrom_113 rfl ?_
            obtain ⟨b4, h⟩ := ckp h
            obtain ⟨S5, hS5, h⟩ := stpp h
            refine mG.iast dX0_pairFrom_115 (lk0_with ha1) (ll0_with ha1) (inbp b4) hS5 ?_
            refine mG.aload_n 1 dX0_pairFrom_116 rfl ?_
            refine mG.get (v := .ref (a1 + 2)) dX0_pairFrom_117 mfX0_15 ha1 (lr0_with ha1) ?_
            refine mG.iload 5 dX0_pairFrom_120 rfl ?_
            refine mG.iload_n 3 dX0_pairFrom_122 rfl ?_
            obtain ⟨b6, h⟩ := ckp h
            obtain ⟨S7, hS7, h⟩ := stpp h
            refine mG.iast dX0_pairFrom_123 (lk0_with ha1) (ll0_with ha1) (inbp b6) hS7 ?_
            refine mG.aload_n 1 dX0_pairFrom_124 rfl ?_
            refine mG.aload_n 2 dX0_pairFrom_125 rfl ?_
            refine mG.iload_n 3 dX0_pairFrom_126 rfl ?_
            refine mG.iconst (v := 1) dX0_pairFrom_127 rfl ?_
            refine mG.iadd dX0_pairFrom_128 ?_
            refine mG.iload_n 4 dX0_pairFrom_129 rfl ?_
            refine mG.iload 0 dX0_pairFrom_130 rfl ?_
            refine mG.iadd dX0_pairFrom_132 ?_
            obtain ⟨q8, hq8, h⟩ := bdp h
            refine mG.callS0 (as := [.ref (a1), .ref (a2), .int (a3 + (1 : Int32)), .int (a4 + (f_J6_bitCount_0f7a4 S ((S.1 (a2 + 1) a3.toNatClampNeg) &&& (S.1 (a2 + 1) v4.toNatClampNeg))))]) (st := []) (S2 := q8) (r := none) dX0_pairFrom_133 mbX0_pairFrom wk59_0 wk58_23 rfl rfl (by omega) (Nat.le_of_ble_eq_true rfl) (hrX0_pairFrom ha1 ha2 hq8) ?_
            refine mG.aload_n 1 dX0_pairFrom_136 rfl ?_
            refine mG.get (v := .ref (a1 + 2)) dX0_pairFrom_137 mfX0_15 ha1 (lr0_with ha1) ?_
            refine mG.iload_n 3 dX0_pairFrom_140 rfl ?_
            refine mG.iconst (v := (-1)) dX0_pairFrom_141 rfl ?_
            obtain ⟨b9, h⟩ := ckp h
            obtain ⟨S10, hS10, h⟩ := stpp h
            refine mG.iast dX0_pairFrom_142 (lk0_with ha1) (ll0_with ha1) (inbp b9) hS10 ?_
            refine mG.aload_n 1 dX0_pairFrom_143 rfl ?_
            refine mG.get (v := .ref (a1 + 2)) dX0_pairFrom_144 mfX0_15 ha1 (lr0_with ha1) ?_
            refine mG.iload 5 dX0_pairFrom_147 rfl ?_
            refine mG.iconst (v := (-1)) dX0_pairFrom_149 rfl ?_
            obtain ⟨b11, h⟩ := ckp h
            obtain ⟨S12, hS12, h⟩ := stpp h
            refine mG.iast dX0_pairFrom_150 (lk0_with ha1) (ll0_with ha1) (inbp b11) hS12 ?_
            refine mG.iinc 5 (u := v4 + 1) (lv2 := [(4, .int (v4 + 1)), (5, .int (f_J6_bitCount_0f7a4 S ((S.1 (a2 + 1) a3.toNatClampNeg) &&& (S.1 (a2 + 1) v4.toNatClampNeg)))), (0, .ref (a1)), (1, .ref (a2)), (2, .int (a3)), (3, .int (a4))]) dX0_pairFrom_151 rfl rfl (by decide) rfl ?_
            refine mG.goto 53 dX0_pairFrom_154 (by decide) ?_
            refine mG.sub (lv2 := [(0, .ref (a1)), (1, .ref (a2)), (2, .int (a3)), (3, .int (a4)), (4, .int (v4 + 1))]) [2, 3, 4, 5, 0] rfl ?_
            exact ih S12 (v4 + 1)  h
def b_X0_pairFrom (rX0_pairFrom : mS → Nat → Nat → Int32 → Int32 → Option mS) (F : Nat) (S : mS) (a1 : Nat) (a2 : Nat) (a3 : Int32) (a4 : Int32) : Option mS := if (S.1 a2 5) ≤ a3 then (bd (f_X0_keepBetter F S a1 a4) fun q1 => some q1) else (if a3 < (7 : Int32) then (bd (rX0_pairFrom S a1 a2 (a3 + (1 : Int32)) a4) fun q2 => ck (inb a3 7) (if (q2.1 (a1 + 2) a3.toNatClampNeg) = (-1 : Int32) then (if (f_X6_lives q2 a2 a3) = true then (lX0_pairFrom_53 rX0_pairFrom F  a1 a2 a3 a4 F q2 (a3 + (1 : Int32))) else (some q2)) else (some q2))) else (bd (f_X0_keepBetter F S a1 a4) fun q6 => some q6))
set_option maxHeartbeats 4000000 in
set_option maxRecDepth 100000 in
theorem cb_X0_pairFrom {D0 D : Nat} (hD : D0 + 1 ≤ D) (hD2 : 3 ≤ D) {rX0_pairFrom : mS → Nat → Nat → Int32 → Int32 → Option mS} {F : Nat} {S : mS} {a1 : Nat} {a2 : Nat} {a3 : Int32} {a4 : Int32} {R : mS} (hrX0_pairFrom : ∀ {S : mS} {a1 : Nat} {a2 : Nat} {a3 : Int32} {a4 : Int32} {R : mS}, kd0 a1 = 0 → kd0 a2 = 6 → rX0_pairFrom S a1 a2 a3 a4 = some R → mCt μX0_pairFrom D0 0 0 E0 S [.ref a1, .ref a2, .int a3, .int a4] (mQe R none)) (ha1 : kd0 a1 = 0) (ha2 : kd0 a2 = 6) (h : b_X0_pairFrom rX0_pairFrom F S a1 a2 a3 a4 = some R) : mCt μX0_pairFrom D 0 0 E0 S [.ref (a1), .ref (a2), .int (a3), .int (a4)] (mQe R none) := by
  unfold b_X0_pairFrom at h
  refine mCt.of (by decide) (Nat.le_of_ble_eq_true rfl) ?_
  intro x
  refine mG.iload_n 2 dX0_pairFrom_0 rfl ?_
  refine mG.aload_n 1 dX0_pairFrom_1 rfl ?_
  refine mG.get (v := .int (S.1 a2 5)) dX0_pairFrom_2 mfX0_26 ha2 rfl ?_
  refine mG.icmp_ge 14 dX0_pairFrom_5 (by decide) (fun c8 => ?_) (fun c8 => ?_)
  · replace h := itp c8 h
    refine mG.aload_n 0 dX0_pairFrom_14 rfl ?_
    refine mG.iload_n 3 dX0_pairFrom_15 rfl ?_
    obtain ⟨q1, hq1, h⟩ := bdp h
    refine mG.callV0 (as := [.int (a4)]) (st := []) (S2 := q1) (r := none) dX0_pairFrom_16 mvX0_keepBetter wk59_4 rfl ha1 rfl (by omega) (Nat.le_of_ble_eq_true rfl) (c_X0_keepBetter ha1 hq1) ?_
    obtain rfl := Option.some.inj h
    exact mG.vret dX0_pairFrom_19 rfl ⟨rfl, rfl, rfl⟩
  · replace h := itn c8 h
    refine mG.iload_n 2 dX0_pairFrom_8 rfl ?_
    refine mG.bipush (v := 7) dX0_pairFrom_9 (by decide) ?_
    refine mG.icmp_lt 20 dX0_pairFrom_11 (by decide) (fun c7 => ?_) (fun c7 => ?_)
    · replace h := itp c7 h
      refine mG.aload_n 0 dX0_pairFrom_20 rfl ?_
      refine mG.aload_n 1 dX0_pairFrom_21 rfl ?_
      refine mG.iload_n 2 dX0_pairFrom_22 rfl ?_
      refine mG.iconst (v := 1) dX0_pairFrom_23 rfl ?_
      refine mG.iadd dX0_pairFrom_24 ?_
      refine mG.iload_n 3 dX0_pairFrom_25 rfl ?_
      obtain ⟨q2, hq2, h⟩ := bdp h
      refine mG.callS0 (as := [.ref (a1), .ref (a2), .int (a3 + (1 : Int32)), .int (a4)]) (st := []) (S2 := q2) (r := none) dX0_pairFrom_26 mbX0_pairFrom wk59_0 wk58_23 rfl rfl (by omega) (Nat.le_of_ble_eq_true rfl) (hrX0_pairFrom ha1 ha2 hq2) ?_
      refine mG.aload_n 0 dX0_pairFrom_29 rfl ?_
      refine mG.get (v := .ref (a1 + 2)) dX0_pairFrom_30 mfX0_15 ha1 (lr0_with ha1) ?_
      refine mG.iload_n 2 dX0_pairFrom_33 rfl ?_
      obtain ⟨b3, h⟩ := ckp h
      refine mG.iald dX0_pairFrom_34 (lk0_with ha1) (ll0_with ha1) (inbp b3) ?_
      refine mG.iconst (v := (-1)) dX0_pairFrom_35 rfl ?_
      refine mG.icmp_ne 47 dX0_pairFrom_36 (by decide) (fun c5 => ?_) (fun c5 => ?_)
      · replace h := itn c5 h
        obtain rfl := Option.some.inj h
        exact mG.vret dX0_pairFrom_47 rfl ⟨rfl, rfl, rfl⟩
      · replace h := itp c5 h
        refine mG.aload_n 1 dX0_pairFrom_39 rfl ?_
        refine mG.iload_n 2 dX0_pairFrom_40 rfl ?_
        refine mG.callV0 (as := [.int (a3)]) (st := []) (S2 := q2) (r := some (.int (bI (f_X6_lives q2 a2 a3)))) dX0_pairFrom_41 mvX6_lives wk59_9 rfl ha2 rfl (by omega) (Nat.le_of_ble_eq_true rfl) (c_X6_lives ha2 rfl) ?_
        refine mG.ifz_ne (b := f_X6_lives q2 a2 a3) 48 dX0_pairFrom_44 (by decide) (fun c4 => ?_) (fun c4 => ?_)
        · replace h := itp c4 h
          refine mG.iload_n 2 dX0_pairFrom_48 rfl ?_
          refine mG.iconst (v := 1) dX0_pairFrom_49 rfl ?_
          refine mG.iadd dX0_pairFrom_50 ?_
          refine mG.istore (lv2 := [(4, .int (a3 + (1 : Int32))), (0, .ref (a1)), (1, .ref (a2)), (2, .int (a3)), (3, .int (a4))]) dX0_pairFrom_51 (by decide) rfl ?_
          refine mG.sub (lv2 := [(0, .ref (a1)), (1, .ref (a2)), (2, .int (a3)), (3, .int (a4)), (4, .int (a3 + (1 : Int32)))]) [1, 2, 3, 4, 0] rfl ?_
          exact gX0_pairFrom_53 hD hD2 hrX0_pairFrom ha1 ha2  F q2 (a3 + (1 : Int32))  h
        · replace h := itn c4 h
          obtain rfl := Option.some.inj h
          exact mG.vret dX0_pairFrom_47 rfl ⟨rfl, rfl, rfl⟩
    · replace h := itn c7 h
      refine mG.aload_n 0 dX0_pairFrom_14 rfl ?_
      refine mG.iload_n 3 dX0_pairFrom_15 rfl ?_
      obtain ⟨q6, hq6, h⟩ := bdp h
      refine mG.callV0 (as := [.int (a4)]) (st := []) (S2 := q6) (r := none) dX0_pairFrom_16 mvX0_keepBetter wk59_4 rfl ha1 rfl (by omega) (Nat.le_of_ble_eq_true rfl) (c_X0_keepBetter ha1 hq6) ?_
      obtain rfl := Option.some.inj h
      exact mG.vret dX0_pairFrom_19 rfl ⟨rfl, rfl, rfl⟩
def fD_X0_pairFrom (F : Nat) : Nat → mS → Nat → Nat → Int32 → Int32 → Option mS
  | 0 => fun _ _ _ _ _ => none
  | D + 1 => b_X0_pairFrom (fD_X0_pairFrom F D) F
theorem cD_X0_pairFrom {F : Nat} : ∀ (D : Nat) {S : mS} {a1 : Nat} {a2 : Nat} {a3 : Int32} {a4 : Int32} {R : mS} (ha1 : kd0 a1 = 0) (ha2 : kd0 a2 = 6) (h : fD_X0_pairFrom F D S a1 a2 a3 a4 = some R), mCt μX0_pairFrom (D + 3) 0 0 E0 S [.ref (a1), .ref (a2), .int (a3), .int (a4)] (mQe R none)
  | 0 => fun ha1 ha2 h => by cases h
  | D + 1 => fun ha1 ha2 h => cb_X0_pairFrom (D0 := D + 3) (by omega) (by omega) (fun h0 h1 hh => cD_X0_pairFrom D h0 h1 hh) ha1 ha2 h
def f_X0_pairFrom (F : Nat) (S : mS) (a1 : Nat) (a2 : Nat) (a3 : Int32) (a4 : Int32) : Option mS := fD_X0_pairFrom F 16 S a1 a2 a3 a4
theorem c_X0_pairFrom {F : Nat} {S : mS} {a1 : Nat} {a2 : Nat} {a3 : Int32} {a4 : Int32} {R : mS} (ha1 : kd0 a1 = 0) (ha2 : kd0 a2 = 6) (h : f_X0_pairFrom F S a1 a2 a3 a4 = some R) : mCt μX0_pairFrom 19 0 0 E0 S [.ref (a1), .ref (a2), .int (a3), .int (a4)] (mQe R none) := cD_X0_pairFrom 16 ha1 ha2 h
theorem dX0_choose_0 : decode cX0_choose 0 = .ok (.aload_n 0, 1) := by decide +kernel
theorem dX0_choose_1 : decode cX0_choose 1 = .ok (.iconst (-1), 1) := by decide +kernel
theorem dX0_choose_2 : decode cX0_choose 2 = .ok (.putfield 18, 3) := by decide +kernel
theorem dX0_choose_5 : decode cX0_choose 5 = .ok (.iconst 0, 1) := by decide +kernel
theorem dX0_choose_6 : decode cX0_choose 6 = .ok (.istore_n 2, 1) := by decide +kernel
theorem dX0_choose_7 : decode cX0_choose 7 = .ok (.iload_n 2, 1) := by decide +kernel
theorem dX0_choose_8 : decode cX0_choose 8 = .ok (.bipush 7, 2) := by decide +kernel
theorem dX0_choose_10 : decode cX0_choose 10 = .ok (.if_icmp .ge 16, 3) := by decide +kernel
theorem dX0_choose_13 : decode cX0_choose 13 = .ok (.aload_n 0, 1) := by decide +kernel
theorem dX0_choose_14 : decode cX0_choose 14 = .ok (.getfield 15, 3) := by decide +kernel
theorem dX0_choose_17 : decode cX0_choose 17 = .ok (.iload_n 2, 1) := by decide +kernel
theorem dX0_choose_18 : decode cX0_choose 18 = .ok (.iconst (-1), 1) := by decide +kernel
theorem dX0_choose_19 : decode cX0_choose 19 = .ok (.iastore, 1) := by decide +kernel
theorem dX0_choose_20 : decode cX0_choose 20 = .ok (.iinc 2 1, 3) := by decide +kernel
theorem dX0_choose_23 : decode cX0_choose 23 = .ok (.goto (-16), 3) := by decide +kernel
theorem dX0_choose_26 : decode cX0_choose 26 = .ok (.aload_n 0, 1) := by decide +kernel
theorem dX0_choose_27 : decode cX0_choose 27 = .ok (.aload_n 1, 1) := by decide +kernel
theorem dX0_choose_28 : decode cX0_choose 28 = .ok (.iconst 0, 1) := by decide +kernel
theorem dX0_choose_29 : decode cX0_choose 29 = .ok (.iconst 0, 1) := by decide +kernel
theorem dX0_choose_30 : decode cX0_choose 30 = .ok (.invokestatic 22, 3) := by decide +kernel
theorem dX0_choose_33 : decode cX0_choose 33 = .ok (.return_, 1) := by decide +kernel
def lX0_choose_7 (F : Nat)  (t : Nat) (a1 : Nat) : Nat → mS → Int32 → Option mS
  | 0, _, _ => none
  | n + 1, S, v2 => if (7 : Int32) ≤ v2 then (bd (f_X0_pairFrom F S t a1 (0 : Int32) (0 : Int32)) fun q1 => some q1) else (ck (inb v2 7) (stp (sI S (t + 2) v2.toNatClampNeg (-1 : Int32)) fun S3 => lX0_choose_7 F  t a1 n S3 (v2 + 1)))
set_option maxHeartbeats 4000000 in
set_option maxRecDepth 100000 in
theorem gX0_choose_7 {x : mX} {F : Nat} {t : Nat} {a1 : Nat}   {R : mS} (ht : kd0 t = 0) (ha1 : kd0 a1 = 6)  : ∀ (n : Nat) (S : mS) (v2 : Int32), lX0_choose_7 F  t a1 n S v2 = some R → mG x μX0_choose 20 0 0 (mQe R none) 0 0 E0 S 7 [(0, .ref (t)), (1, .ref (a1)), (2, .int (v2))] [] := by
  intro n
  induction n with
  | zero =>
    intro S v2 h
    cases h
  | succ n ih =>
    intro S v2 h
    unfold lX0_choose_7 at h
    refine mG.iload_n 2 dX0_choose_7 rfl ?_
    refine mG.bipush (v := 7) dX0_choose_8 (by decide) ?_
    refine mG.icmp_ge 26 dX0_choose_10 (by decide) (fun c4 => ?_) (fun c4 => ?_)
    · replace h := itp c4 h
      refine mG.aload_n 0 dX0_choose_26 rfl ?_
      refine mG.aload_n 1 dX0_choose_27 rfl ?_
      refine mG.iconst (v := 0) dX0_choose_28 rfl ?_
      refine mG.iconst (v := 0) dX0_choose_29 rfl ?_
      obtain ⟨q1, hq1, h⟩ := bdp h
      refine mG.callS0 (as := [.ref (t), .ref (a1), .int 0, .int 0]) (st := []) (S2 := q1) (r := none) dX0_choose_30 mbX0_pairFrom wk59_0 wk58_23 rfl rfl (by decide) (Nat.le_of_ble_eq_true rfl) (c_X0_pairFrom ht ha1 hq1) ?_
      obtain rfl := Option.some.inj h
      exact mG.vret dX0_choose_33 rfl ⟨rfl, rfl, rfl⟩
    · replace h := itn c4 h
      refine mG.aload_n 0 dX0_choose_13 rfl ?_
      refine mG.get (v := .ref (t + 2)) dX0_choose_14 mfX0_15 ht (lr0_with ht) ?_
      refine mG.iload_n 2 dX0_choose_17 rfl ?_
      refine mG.iconst (v := (-1)) dX0_choose_18 rfl ?_
      obtain ⟨b2, h⟩ := ckp h
      obtain ⟨S3, hS3, h⟩ := stpp h
      refine mG.iast dX0_choose_19 (lk0_with ht) (ll0_with ht) (inbp b2) hS3 ?_
      refine mG.iinc 2 (u := v2 + 1) (lv2 := [(2, .int (v2 + 1)), (0, .ref (t)), (1, .ref (a1))]) dX0_choose_20 rfl rfl (by decide) rfl ?_
      refine mG.goto 7 dX0_choose_23 (by decide) ?_
      refine mG.sub (lv2 := [(0, .ref (t)), (1, .ref (a1)), (2, .int (v2 + 1))]) [1, 2, 0] rfl ?_
      exact ih S3 (v2 + 1)  h
def f_X0_choose (F : Nat) (S : mS) (t : Nat) (a1 : Nat) : Option mS := stp (sI S t 0 (-1 : Int32)) fun S1 => lX0_choose_7 F  t a1 F S1 (0 : Int32)
set_option maxHeartbeats 4000000 in
set_option maxRecDepth 100000 in
theorem c_X0_choose {F : Nat} {S : mS} {t : Nat} {a1 : Nat} {R : mS} (ht : kd0 t = 0) (ha1 : kd0 a1 = 6) (h : f_X0_choose F S t a1 = some R) : mCt μX0_choose 20 0 0 E0 S [.ref (t), .ref (a1)] (mQe R none) := by
  unfold f_X0_choose at h
  refine mCt.of (by decide) (Nat.le_of_ble_eq_true rfl) ?_
  intro x
  refine mG.aload_n 0 dX0_choose_0 rfl ?_
  refine mG.iconst (v := (-1)) dX0_choose_1 rfl ?_
  obtain ⟨S1, hS1, h⟩ := stpp h
  refine mG.putI dX0_choose_2 mfX0_18 rfl (Or.inl rfl) ht hS1 ?_
  refine mG.iconst (v := 0) dX0_choose_5 rfl ?_
  refine mG.istore_n (lv2 := [(2, .int 0), (0, .ref (t)), (1, .ref (a1))]) dX0_choose_6 rfl (by decide) rfl ?_
  refine mG.sub (lv2 := [(0, .ref (t)), (1, .ref (a1)), (2, .int 0)]) [1, 2, 0] rfl ?_
  exact gX0_choose_7 ht ha1  F S1 (0 : Int32)  h
theorem dX1_canPlace_0 : decode cX1_canPlace 0 = .ok (.iload_n 1, 1) := by decide +kernel
theorem dX1_canPlace_1 : decode cX1_canPlace 1 = .ok (.ifCond .ne 5, 3) := by decide +kernel
theorem dX1_canPlace_4 : decode cX1_canPlace 4 = .ok (.iconst 1, 1) := by decide +kernel
theorem dX1_canPlace_5 : decode cX1_canPlace 5 = .ok (.ireturn, 1) := by decide +kernel
theorem dX1_canPlace_6 : decode cX1_canPlace 6 = .ok (.iload_n 1, 1) := by decide +kernel
theorem dX1_canPlace_7 : decode cX1_canPlace 7 = .ok (.invokestatic 15, 3) := by decide +kernel
theorem dX1_canPlace_10 : decode cX1_canPlace 10 = .ok (.iload_n 3, 1) := by decide +kernel
theorem dX1_canPlace_11 : decode cX1_canPlace 11 = .ok (.iload_n 2, 1) := by decide +kernel
theorem dX1_canPlace_12 : decode cX1_canPlace 12 = .ok (.isub, 1) := by decide +kernel
theorem dX1_canPlace_13 : decode cX1_canPlace 13 = .ok (.if_icmp .le 5, 3) := by decide +kernel
theorem dX1_canPlace_16 : decode cX1_canPlace 16 = .ok (.iconst 0, 1) := by decide +kernel
theorem dX1_canPlace_17 : decode cX1_canPlace 17 = .ok (.ireturn, 1) := by decide +kernel
theorem dX1_canPlace_18 : decode cX1_canPlace 18 = .ok (.aload_n 0, 1) := by decide +kernel
theorem dX1_canPlace_19 : decode cX1_canPlace 19 = .ok (.getfield 29, 3) := by decide +kernel
theorem dX1_canPlace_22 : decode cX1_canPlace 22 = .ok (.iload_n 2, 1) := by decide +kernel
theorem dX1_canPlace_23 : decode cX1_canPlace 23 = .ok (.iadd, 1) := by decide +kernel
theorem dX1_canPlace_24 : decode cX1_canPlace 24 = .ok (.bipush 20, 2) := by decide +kernel
theorem dX1_canPlace_26 : decode cX1_canPlace 26 = .ok (.irem, 1) := by decide +kernel
theorem dX1_canPlace_27 : decode cX1_canPlace 27 = .ok (.istore 5, 2) := by decide +kernel
theorem dX1_canPlace_29 : decode cX1_canPlace 29 = .ok (.iconst 0, 1) := by decide +kernel
theorem dX1_canPlace_30 : decode cX1_canPlace 30 = .ok (.istore 6, 2) := by decide +kernel
theorem dX1_canPlace_32 : decode cX1_canPlace 32 = .ok (.iload 6, 2) := by decide +kernel
theorem dX1_canPlace_34 : decode cX1_canPlace 34 = .ok (.bipush 7, 2) := by decide +kernel
theorem dX1_canPlace_36 : decode cX1_canPlace 36 = .ok (.if_icmp .ge 59, 3) := by decide +kernel
theorem dX1_canPlace_39 : decode cX1_canPlace 39 = .ok (.iload_n 1, 1) := by decide +kernel
theorem dX1_canPlace_40 : decode cX1_canPlace 40 = .ok (.iload 6, 2) := by decide +kernel
theorem dX1_canPlace_42 : decode cX1_canPlace 42 = .ok (.ishr, 1) := by decide +kernel
theorem dX1_canPlace_43 : decode cX1_canPlace 43 = .ok (.iconst 1, 1) := by decide +kernel
theorem dX1_canPlace_44 : decode cX1_canPlace 44 = .ok (.iand, 1) := by decide +kernel
theorem dX1_canPlace_45 : decode cX1_canPlace 45 = .ok (.iconst 1, 1) := by decide +kernel
theorem dX1_canPlace_46 : decode cX1_canPlace 46 = .ok (.if_icmp .ne 43, 3) := by decide +kernel
theorem dX1_canPlace_49 : decode cX1_canPlace 49 = .ok (.aload_n 0, 1) := by decide +kernel
theorem dX1_canPlace_50 : decode cX1_canPlace 50 = .ok (.iload 6, 2) := by decide +kernel
theorem dX1_canPlace_52 : decode cX1_canPlace 52 = .ok (.iload 5, 2) := by decide +kernel
theorem dX1_canPlace_54 : decode cX1_canPlace 54 = .ok (.invokevirtual 34, 3) := by decide +kernel
theorem dX1_canPlace_57 : decode cX1_canPlace 57 = .ok (.ifCond .ne 32, 3) := by decide +kernel
theorem dX1_canPlace_60 : decode cX1_canPlace 60 = .ok (.aload_n 0, 1) := by decide +kernel
theorem dX1_canPlace_61 : decode cX1_canPlace 61 = .ok (.iload_n 1, 1) := by decide +kernel
theorem dX1_canPlace_62 : decode cX1_canPlace 62 = .ok (.iconst 1, 1) := by decide +kernel
theorem dX1_canPlace_63 : decode cX1_canPlace 63 = .ok (.iload 6, 2) := by decide +kernel
theorem dX1_canPlace_65 : decode cX1_canPlace 65 = .ok (.ishl, 1) := by decide +kernel
theorem dX1_canPlace_66 : decode cX1_canPlace 66 = .ok (.iconst (-1), 1) := by decide +kernel
theorem dX1_canPlace_67 : decode cX1_canPlace 67 = .ok (.ixor, 1) := by decide +kernel
theorem dX1_canPlace_68 : decode cX1_canPlace 68 = .ok (.iand, 1) := by decide +kernel
theorem dX1_canPlace_69 : decode cX1_canPlace 69 = .ok (.iload_n 2, 1) := by decide +kernel
theorem dX1_canPlace_70 : decode cX1_canPlace 70 = .ok (.iconst 1, 1) := by decide +kernel
theorem dX1_canPlace_71 : decode cX1_canPlace 71 = .ok (.iadd, 1) := by decide +kernel
theorem dX1_canPlace_72 : decode cX1_canPlace 72 = .ok (.iload_n 3, 1) := by decide +kernel
theorem dX1_canPlace_73 : decode cX1_canPlace 73 = .ok (.aload 4, 2) := by decide +kernel
theorem dX1_canPlace_75 : decode cX1_canPlace 75 = .ok (.invokestatic 25, 3) := by decide +kernel
theorem dX1_canPlace_78 : decode cX1_canPlace 78 = .ok (.ifCond .eq 11, 3) := by decide +kernel
theorem dX1_canPlace_81 : decode cX1_canPlace 81 = .ok (.aload 4, 2) := by decide +kernel
theorem dX1_canPlace_83 : decode cX1_canPlace 83 = .ok (.iload 6, 2) := by decide +kernel
theorem dX1_canPlace_85 : decode cX1_canPlace 85 = .ok (.iload_n 2, 1) := by decide +kernel
theorem dX1_canPlace_86 : decode cX1_canPlace 86 = .ok (.iastore, 1) := by decide +kernel
theorem dX1_canPlace_87 : decode cX1_canPlace 87 = .ok (.iconst 1, 1) := by decide +kernel
theorem dX1_canPlace_88 : decode cX1_canPlace 88 = .ok (.ireturn, 1) := by decide +kernel
theorem dX1_canPlace_89 : decode cX1_canPlace 89 = .ok (.iinc 6 1, 3) := by decide +kernel
theorem dX1_canPlace_92 : decode cX1_canPlace 92 = .ok (.goto (-60), 3) := by decide +kernel
theorem dX1_canPlace_95 : decode cX1_canPlace 95 = .ok (.aload_n 0, 1) := by decide +kernel
theorem dX1_canPlace_96 : decode cX1_canPlace 96 = .ok (.iload_n 1, 1) := by decide +kernel
theorem dX1_canPlace_97 : decode cX1_canPlace 97 = .ok (.iload_n 2, 1) := by decide +kernel
theorem dX1_canPlace_98 : decode cX1_canPlace 98 = .ok (.iconst 1, 1) := by decide +kernel
theorem dX1_canPlace_99 : decode cX1_canPlace 99 = .ok (.iadd, 1) := by decide +kernel
theorem dX1_canPlace_100 : decode cX1_canPlace 100 = .ok (.iload_n 3, 1) := by decide +kernel
theorem dX1_canPlace_101 : decode cX1_canPlace 101 = .ok (.aload 4, 2) := by decide +kernel
theorem dX1_canPlace_103 : decode cX1_canPlace 103 = .ok (.invokestatic 25, 3) := by decide +kernel
theorem dX1_canPlace_106 : decode cX1_canPlace 106 = .ok (.ireturn, 1) := by decide +kernel
def lX1_canPlace_32 (rX1_canPlace : mS → Nat → Int32 → Int32 → Int32 → Nat → Option (mS × Bool)) (F : Nat)  (a1 : Nat) (a2 : Int32) (a3 : Int32) (a4 : Int32) (a5 : Nat) : Nat → mS → Int32 → Int32 → Option (mS × Bool)
  | 0, _, _, _ => none
  | n + 1, S, v5, v6 => if (7 : Int32) ≤ v6 then (bd (rX1_canPlace S a1 a2 (a3 + (1 : Int32)) a4 a5) fun q1 => some (q1.1, q1.2)) else (if ((a2 >>> (v6 &&& 31)) &&& (1 : Int32)) = (1 : Int32) then (bd (f_X6_isShut F S a1 v6 v5) fun q2 => if q2 = true then (lX1_canPlace_32 rX1_canPlace F  a1 a2 a3 a4 a5 n S v5 (v6 + 1)) else (bd (rX1_canPlace S a1 (a2 &&& (((1 : Int32) <<< (v6 &&& 31)) ^^^ (-1 : Int32))) (a3 + (1 : Int32)) a4 a5) fun q3 => if q3.2 = true then (ck (inb v6 7) (stp (sI q3.1 a5 v6.toNatClampNeg a3) fun S5 => some (S5, true))) else (lX1_canPlace_32 rX1_canPlace F  a1 a2 a3 a4 a5 n q3.1 v5 (v6 + 1)))) else (lX1_canPlace_32 rX1_canPlace F  a1 a2 a3 a4 a5 n S v5 (v6 + 1)))
set_option maxHeartbeats 4000000 in
set_option maxRecDepth 100000 in
theorem gX1_canPlace_32 {x : mX} {D0 D : Nat} (hD : D0 + 1 ≤ D) (hD2 : 3 ≤ D) {rX1_canPlace : mS → Nat → Int32 → Int32 → Int32 → Nat → Option (mS × Bool)} {F : Nat} {a1 : Nat} {a2 : Int32} {a3 : Int32} {a4 : Int32} {a5 : Nat}   {R : mS × Bool} (hrX1_canPlace : ∀ {S : mS} {a1 : Nat} {a2 : Int32} {a3 : Int32} {a4 : Int32} {a5 : Nat} {R : mS × Bool}, kd0 a1 = 6 → kd0 a5 = 10 → ln0 a5 = 7 → rX1_canPlace S a1 a2 a3 a4 a5 = some R → mCt μX1_canPlace D0 0 0 E0 S [.ref a1, .int a2, .int a3, .int a4, .ref a5] (mQe R.1 (some (.int (bI R.2))))) (ha1 : kd0 a1 = 6) (ha5 : kd0 a5 = 10) (ga5 : ln0 a5 = 7)  : ∀ (n : Nat) (S : mS) (v5 : Int32) (v6 : Int32), lX1_canPlace_32 rX1_canPlace F  a1 a2 a3 a4 a5 n S v5 v6 = some R → mG x μX1_canPlace D 0 0 (mQe R.1 (some (.int (bI R.2)))) 0 0 E0 S 32 [(0, .ref (a1)), (1, .int (a2)), (2, .int (a3)), (3, .int (a4)), (4, .ref (a5)), (5, .int (v5)), (6, .int (v6))] [] := by
  intro n
  induction n with
  | zero =>
    intro S v5 v6 h
    cases h
  | succ n ih =>
    intro S v5 v6 h
    unfold lX1_canPlace_32 at h
    refine mG.iload 6 dX1_canPlace_32 rfl ?_
    refine mG.bipush (v := 7) dX1_canPlace_34 (by decide) ?_
    refine mG.icmp_ge 95 dX1_canPlace_36 (by decide) (fun c9 => ?_) (fun c9 => ?_)
    · replace h := itp c9 h
      refine mG.aload_n 0 dX1_canPlace_95 rfl ?_
      refine mG.iload_n 1 dX1_canPlace_96 rfl ?_
      refine mG.iload_n 2 dX1_canPlace_97 rfl ?_
      refine mG.iconst (v := 1) dX1_canPlace_98 rfl ?_
      refine mG.iadd dX1_canPlace_99 ?_
      refine mG.iload_n 3 dX1_canPlace_100 rfl ?_
      refine mG.aload 4 dX1_canPlace_101 rfl ?_
      obtain ⟨q1, hq1, h⟩ := bdp h
      refine mG.callS0 (as := [.ref (a1), .int (a2), .int (a3 + (1 : Int32)), .int (a4), .ref (a5)]) (st := []) (S2 := q1.1) (r := some (.int (bI (q1.2)))) dX1_canPlace_103 mbX1_canPlace wk57_0 wk56_23 rfl rfl (by omega) (Nat.le_of_ble_eq_true rfl) (hrX1_canPlace ha1 ha5 ga5 hq1) ?_
      obtain rfl := Option.some.inj h
      exact mG.zret (b := q1.2) dX1_canPlace_106 rfl rfl ⟨rfl, rfl, rfl⟩
    · replace h := itn c9 h
      refine mG.iload_n 1 dX1_canPlace_39 rfl ?_
      refine mG.iload 6 dX1_canPlace_40 rfl ?_
      refine mG.ishr dX1_canPlace_42 ?_
      refine mG.iconst (v := 1) dX1_canPlace_43 rfl ?_
      refine mG.iand dX1_canPlace_44 ?_
      refine mG.iconst (v := 1) dX1_canPlace_45 rfl ?_
      refine mG.icmp_ne 89 dX1_canPlace_46 (by decide) (fun c8 => ?_) (fun c8 => ?_)
      · replace h := itn c8 h
        refine mG.iinc 6 (u := v6 + 1) (lv2 := [(6, .int (v6 + 1)), (0, .ref (a1)), (1, .int (a2)), (2, .int (a3)), (3, .int (a4)), (4, .ref (a5)), (5, .int (v5))]) dX1_canPlace_89 rfl rfl (by decide) rfl ?_
        refine mG.goto 32 dX1_canPlace_92 (by decide) ?_
        refine mG.sub (lv2 := [(0, .ref (a1)), (1, .int (a2)), (2, .int (a3)), (3, .int (a4)), (4, .ref (a5)), (5, .int (v5)), (6, .int (v6 + 1))]) [1, 2, 3, 4, 5, 6, 0] rfl ?_
        exact ih S v5 (v6 + 1)  h
      · replace h := itp c8 h
        refine mG.aload_n 0 dX1_canPlace_49 rfl ?_
        refine mG.iload 6 dX1_canPlace_50 rfl ?_
        refine mG.iload 5 dX1_canPlace_52 rfl ?_
        obtain ⟨q2, hq2, h⟩ := bdp h
        refine mG.callV0 (as := [.int (v6), .int (v5)]) (st := []) (S2 := S) (r := some (.int (bI (q2)))) dX1_canPlace_54 mvX6_isShut wk57_3 rfl ha1 rfl (by omega) (Nat.le_of_ble_eq_true rfl) (c_X6_isShut ha1 hq2) ?_
        refine mG.ifz_ne (b := q2) 89 dX1_canPlace_57 (by decide) (fun c7 => ?_) (fun c7 => ?_)
        · replace h := itp c7 h
          refine mG.iinc 6 (u := v6 + 1) (lv2 := [(6, .int (v6 + 1)), (0, .ref (a1)), (1, .int (a2)), (2, .int (a3)), (3, .int (a4)), (4, .ref (a5)), (5, .int (v5))]) dX1_canPlace_89 rfl rfl (by decide) rfl ?_
          refine mG.goto 32 dX1_canPlace_92 (by decide) ?_
          refine mG.sub (lv2 := [(0, .ref (a1)), (1, .int (a2)), (2, .int (a3)), (3, .int (a4)), (4, .ref (a5)), (5, .int (v5)), (6, .int (v6 + 1))]) [1, 2, 3, 4, 5, 6, 0] rfl ?_
          exact ih S v5 (v6 + 1)  h
        · replace h := itn c7 h
          refine mG.aload_n 0 dX1_canPlace_60 rfl ?_
          refine mG.iload_n 1 dX1_canPlace_61 rfl ?_
          refine mG.iconst (v := 1) dX1_canPlace_62 rfl ?_
          refine mG.iload 6 dX1_canPlace_63 rfl ?_
          refine mG.ishl dX1_canPlace_65 ?_
          refine mG.iconst (v := (-1)) dX1_canPlace_66 rfl ?_
          refine mG.ixor dX1_canPlace_67 ?_
          refine mG.iand dX1_canPlace_68 ?_
          refine mG.iload_n 2 dX1_canPlace_69 rfl ?_
          refine mG.iconst (v := 1) dX1_canPlace_70 rfl ?_
          refine mG.iadd dX1_canPlace_71 ?_
          refine mG.iload_n 3 dX1_canPlace_72 rfl ?_
          refine mG.aload 4 dX1_canPlace_73 rfl ?_
          obtain ⟨q3, hq3, h⟩ := bdp h
          refine mG.callS0 (as := [.ref (a1), .int (a2 &&& (((1 : Int32) <<< (v6 &&& 31)) ^^^ (-1 : Int32))), .int (a3 + (1 : Int32)), .int (a4), .ref (a5)]) (st := []) (S2 := q3.1) (r := some (.int (bI (q3.2)))) dX1_canPlace_75 mbX1_canPlace wk57_0 wk56_23 rfl rfl (by omega) (Nat.le_of_ble_eq_true rfl) (hrX1_canPlace ha1 ha5 ga5 hq3) ?_
          refine mG.ifz_eq (b := q3.2) 89 dX1_canPlace_78 (by decide) (fun c6 => ?_) (fun c6 => ?_)
          · replace h := itn c6 h
            refine mG.iinc 6 (u := v6 + 1) (lv2 := [(6, .int (v6 + 1)), (0, .ref (a1)), (1, .int (a2)), (2, .int (a3)), (3, .int (a4)), (4, .ref (a5)), (5, .int (v5))]) dX1_canPlace_89 rfl rfl (by decide) rfl ?_
            refine mG.goto 32 dX1_canPlace_92 (by decide) ?_
            refine mG.sub (lv2 := [(0, .ref (a1)), (1, .int (a2)), (2, .int (a3)), (3, .int (a4)), (4, .ref (a5)), (5, .int (v5)), (6, .int (v6 + 1))]) [1, 2, 3, 4, 5, 6, 0] rfl ?_
            exact ih q3.1 v5 (v6 + 1)  h
          · replace h := itp c6 h
            refine mG.aload 4 dX1_canPlace_81 rfl ?_
            refine mG.iload 6 dX1_canPlace_83 rfl ?_
            refine mG.iload_n 2 dX1_canPlace_85 rfl ?_
            obtain ⟨b4, h⟩ := ckp h
            obtain ⟨S5, hS5, h⟩ := stpp h
            refine mG.iast dX1_canPlace_86 ha5 ga5 (inbp b4) hS5 ?_
            refine mG.iconst (v := 1) dX1_canPlace_87 rfl ?_
            obtain rfl := Option.some.inj h
            exact mG.zret (b := true) dX1_canPlace_88 rfl rfl ⟨rfl, rfl, rfl⟩
def b_X1_canPlace (rX1_canPlace : mS → Nat → Int32 → Int32 → Int32 → Nat → Option (mS × Bool)) (F : Nat) (S : mS) (a1 : Nat) (a2 : Int32) (a3 : Int32) (a4 : Int32) (a5 : Nat) : Option (mS × Bool) := if a2 = 0 then (some (S, true)) else (if (f_J6_bitCount_0f7a4 S a2) ≤ (a4 - a3) then (lX1_canPlace_32 rX1_canPlace F  a1 a2 a3 a4 a5 F S (((S.1 a1 7) + a3) - ((S.1 a1 7) + a3) / (20 : Int32) * (20 : Int32)) (0 : Int32)) else (some (S, false)))
set_option maxHeartbeats 4000000 in
set_option maxRecDepth 100000 in
theorem cb_X1_canPlace {D0 D : Nat} (hD : D0 + 1 ≤ D) (hD2 : 3 ≤ D) {rX1_canPlace : mS → Nat → Int32 → Int32 → Int32 → Nat → Option (mS × Bool)} {F : Nat} {S : mS} {a1 : Nat} {a2 : Int32} {a3 : Int32} {a4 : Int32} {a5 : Nat} {R : mS × Bool} (hrX1_canPlace : ∀ {S : mS} {a1 : Nat} {a2 : Int32} {a3 : Int32} {a4 : Int32} {a5 : Nat} {R : mS × Bool}, kd0 a1 = 6 → kd0 a5 = 10 → ln0 a5 = 7 → rX1_canPlace S a1 a2 a3 a4 a5 = some R → mCt μX1_canPlace D0 0 0 E0 S [.ref a1, .int a2, .int a3, .int a4, .ref a5] (mQe R.1 (some (.int (bI R.2))))) (ha1 : kd0 a1 = 6) (ha5 : kd0 a5 = 10) (ga5 : ln0 a5 = 7) (h : b_X1_canPlace rX1_canPlace F S a1 a2 a3 a4 a5 = some R) : mCt μX1_canPlace D 0 0 E0 S [.ref (a1), .int (a2), .int (a3), .int (a4), .ref (a5)] (mQe R.1 (some (.int (bI R.2)))) := by
  unfold b_X1_canPlace at h
  refine mCt.of (by decide) (Nat.le_of_ble_eq_true rfl) ?_
  intro x
  refine mG.iload_n 1 dX1_canPlace_0 rfl ?_
  refine mG.if_ne 6 dX1_canPlace_1 (by decide) (fun c2 => ?_) (fun c2 => ?_)
  · replace h := itn c2 h
    refine mG.iload_n 1 dX1_canPlace_6 rfl ?_
    refine mG.callS0 (as := [.int (a2)]) (st := []) (S2 := S) (r := some (.int (f_J6_bitCount_0f7a4 S a2))) dX1_canPlace_7 mbJ6_bitCount_0f7a4 wk30_6 wk56_22 rfl rfl (by omega) (Nat.le_of_ble_eq_true rfl) (c_J6_bitCount_0f7a4  rfl) ?_
    refine mG.iload_n 3 dX1_canPlace_10 rfl ?_
    refine mG.iload_n 2 dX1_canPlace_11 rfl ?_
    refine mG.isub dX1_canPlace_12 ?_
    refine mG.icmp_le 18 dX1_canPlace_13 (by decide) (fun c1 => ?_) (fun c1 => ?_)
    · replace h := itp c1 h
      refine mG.aload_n 0 dX1_canPlace_18 rfl ?_
      refine mG.get (v := .int (S.1 a1 7)) dX1_canPlace_19 mfX1_29 ha1 rfl ?_
      refine mG.iload_n 2 dX1_canPlace_22 rfl ?_
      refine mG.iadd dX1_canPlace_23 ?_
      refine mG.bipush (v := 20) dX1_canPlace_24 (by decide) ?_
      refine mG.irem dX1_canPlace_26 (by decide) ?_
      refine mG.istore (lv2 := [(5, .int (((S.1 a1 7) + a3) - ((S.1 a1 7) + a3) / (20 : Int32) * (20 : Int32))), (0, .ref (a1)), (1, .int (a2)), (2, .int (a3)), (3, .int (a4)), (4, .ref (a5))]) dX1_canPlace_27 (by decide) rfl ?_
      refine mG.iconst (v := 0) dX1_canPlace_29 rfl ?_
      refine mG.istore (lv2 := [(6, .int 0), (5, .int (((S.1 a1 7) + a3) - ((S.1 a1 7) + a3) / (20 : Int32) * (20 : Int32))), (0, .ref (a1)), (1, .int (a2)), (2, .int (a3)), (3, .int (a4)), (4, .ref (a5))]) dX1_canPlace_30 (by decide) rfl ?_
      refine mG.sub (lv2 := [(0, .ref (a1)), (1, .int (a2)), (2, .int (a3)), (3, .int (a4)), (4, .ref (a5)), (5, .int (((S.1 a1 7) + a3) - ((S.1 a1 7) + a3) / (20 : Int32) * (20 : Int32))), (6, .int 0)]) [2, 3, 4, 5, 6, 1, 0] rfl ?_
      exact gX1_canPlace_32 hD hD2 hrX1_canPlace ha1 ha5 ga5  F S (((S.1 a1 7) + a3) - ((S.1 a1 7) + a3) / (20 : Int32) * (20 : Int32)) (0 : Int32)  h
    · replace h := itn c1 h
      refine mG.iconst (v := 0) dX1_canPlace_16 rfl ?_
      obtain rfl := Option.some.inj h
      exact mG.zret (b := false) dX1_canPlace_17 rfl rfl ⟨rfl, rfl, rfl⟩
  · replace h := itp c2 h
    refine mG.iconst (v := 1) dX1_canPlace_4 rfl ?_
    obtain rfl := Option.some.inj h
    exact mG.zret (b := true) dX1_canPlace_5 rfl rfl ⟨rfl, rfl, rfl⟩
def fD_X1_canPlace (F : Nat) : Nat → mS → Nat → Int32 → Int32 → Int32 → Nat → Option (mS × Bool)
  | 0 => fun _ _ _ _ _ _ => none
  | D + 1 => b_X1_canPlace (fD_X1_canPlace F D) F
theorem cD_X1_canPlace {F : Nat} : ∀ (D : Nat) {S : mS} {a1 : Nat} {a2 : Int32} {a3 : Int32} {a4 : Int32} {a5 : Nat} {R : mS × Bool} (ha1 : kd0 a1 = 6) (ha5 : kd0 a5 = 10) (ga5 : ln0 a5 = 7) (h : fD_X1_canPlace F D S a1 a2 a3 a4 a5 = some R), mCt μX1_canPlace (D + 3) 0 0 E0 S [.ref (a1), .int (a2), .int (a3), .int (a4), .ref (a5)] (mQe R.1 (some (.int (bI R.2))))
  | 0 => fun ha1 ha5 ga5 h => by cases h
  | D + 1 => fun ha1 ha5 ga5 h => cb_X1_canPlace (D0 := D + 3) (by omega) (by omega) (fun h0 h1 h2 hh => cD_X1_canPlace D h0 h1 h2 hh) ha1 ha5 ga5 h
def f_X1_canPlace (F : Nat) (S : mS) (a1 : Nat) (a2 : Int32) (a3 : Int32) (a4 : Int32) (a5 : Nat) : Option (mS × Bool) := fD_X1_canPlace F 32 S a1 a2 a3 a4 a5
theorem c_X1_canPlace {F : Nat} {S : mS} {a1 : Nat} {a2 : Int32} {a3 : Int32} {a4 : Int32} {a5 : Nat} {R : mS × Bool} (ha1 : kd0 a1 = 6) (ha5 : kd0 a5 = 10) (ga5 : ln0 a5 = 7) (h : f_X1_canPlace F S a1 a2 a3 a4 a5 = some R) : mCt μX1_canPlace 35 0 0 E0 S [.ref (a1), .int (a2), .int (a3), .int (a4), .ref (a5)] (mQe R.1 (some (.int (bI R.2)))) := cD_X1_canPlace 32 ha1 ha5 ga5 h
theorem dX1_plan_0 : decode cX1_plan 0 = .ok (.aload_n 0, 1) := by decide +kernel
theorem dX1_plan_1 : decode cX1_plan 1 = .ok (.iload_n 2, 1) := by decide +kernel
theorem dX1_plan_2 : decode cX1_plan 2 = .ok (.invokestatic 15, 3) := by decide +kernel
theorem dX1_plan_5 : decode cX1_plan 5 = .ok (.putfield 21, 3) := by decide +kernel
theorem dX1_plan_8 : decode cX1_plan 8 = .ok (.aload_n 0, 1) := by decide +kernel
theorem dX1_plan_9 : decode cX1_plan 9 = .ok (.getfield 21, 3) := by decide +kernel
theorem dX1_plan_12 : decode cX1_plan 12 = .ok (.bipush 20, 2) := by decide +kernel
theorem dX1_plan_14 : decode cX1_plan 14 = .ok (.if_icmp .ge 33, 3) := by decide +kernel
theorem dX1_plan_17 : decode cX1_plan 17 = .ok (.aload_n 1, 1) := by decide +kernel
theorem dX1_plan_18 : decode cX1_plan 18 = .ok (.iload_n 2, 1) := by decide +kernel
theorem dX1_plan_19 : decode cX1_plan 19 = .ok (.iconst 0, 1) := by decide +kernel
theorem dX1_plan_20 : decode cX1_plan 20 = .ok (.aload_n 0, 1) := by decide +kernel
theorem dX1_plan_21 : decode cX1_plan 21 = .ok (.getfield 21, 3) := by decide +kernel
theorem dX1_plan_24 : decode cX1_plan 24 = .ok (.aload_n 0, 1) := by decide +kernel
theorem dX1_plan_25 : decode cX1_plan 25 = .ok (.getfield 9, 3) := by decide +kernel
theorem dX1_plan_28 : decode cX1_plan 28 = .ok (.invokestatic 25, 3) := by decide +kernel
theorem dX1_plan_31 : decode cX1_plan 31 = .ok (.ifCond .ne 16, 3) := by decide +kernel
theorem dX1_plan_34 : decode cX1_plan 34 = .ok (.aload_n 0, 1) := by decide +kernel
theorem dX1_plan_35 : decode cX1_plan 35 = .ok (.dup, 1) := by decide +kernel
theorem dX1_plan_36 : decode cX1_plan 36 = .ok (.getfield 21, 3) := by decide +kernel
theorem dX1_plan_39 : decode cX1_plan 39 = .ok (.iconst 1, 1) := by decide +kernel
theorem dX1_plan_40 : decode cX1_plan 40 = .ok (.iadd, 1) := by decide +kernel
theorem dX1_plan_41 : decode cX1_plan 41 = .ok (.putfield 21, 3) := by decide +kernel
theorem dX1_plan_44 : decode cX1_plan 44 = .ok (.goto (-36), 3) := by decide +kernel
theorem dX1_plan_47 : decode cX1_plan 47 = .ok (.return_, 1) := by decide +kernel
def lX1_plan_8 (F : Nat)  (t : Nat) (a1 : Nat) (a2 : Int32) : Nat → mS → Option mS
  | 0, _ => none
  | n + 1, S => if (20 : Int32) ≤ (S.1 t 1) then (some S) else (bd (f_X1_canPlace F S a1 a2 (0 : Int32) (S.1 t 1) (t + 1)) fun q1 => if q1.2 = true then (some q1.1) else (stp (sI q1.1 t 1 ((q1.1.1 t 1) + (1 : Int32))) fun S2 => lX1_plan_8 F  t a1 a2 n S2 ))
set_option maxHeartbeats 4000000 in
set_option maxRecDepth 100000 in
theorem gX1_plan_8 {x : mX} {F : Nat} {t : Nat} {a1 : Nat} {a2 : Int32}   {R : mS} (ht : kd0 t = 1) (ha1 : kd0 a1 = 6)  : ∀ (n : Nat) (S : mS), lX1_plan_8 F  t a1 a2 n S  = some R → mG x μX1_plan 36 0 0 (mQe R none) 0 0 E0 S 8 [(0, .ref (t)), (1, .ref (a1)), (2, .int (a2))] [] := by
  intro n
  induction n with
  | zero =>
    intro S h
    cases h
  | succ n ih =>
    intro S h
    unfold lX1_plan_8 at h
    refine mG.aload_n 0 dX1_plan_8 rfl ?_
    refine mG.get (v := .int (S.1 t 1)) dX1_plan_9 mfX1_21 ht rfl ?_
    refine mG.bipush (v := 20) dX1_plan_12 (by decide) ?_
    refine mG.icmp_ge 47 dX1_plan_14 (by decide) (fun c4 => ?_) (fun c4 => ?_)
    · replace h := itp c4 h
      obtain rfl := Option.some.inj h
      exact mG.vret dX1_plan_47 rfl ⟨rfl, rfl, rfl⟩
    · replace h := itn c4 h
      refine mG.aload_n 1 dX1_plan_17 rfl ?_
      refine mG.iload_n 2 dX1_plan_18 rfl ?_
      refine mG.iconst (v := 0) dX1_plan_19 rfl ?_
      refine mG.aload_n 0 dX1_plan_20 rfl ?_
      refine mG.get (v := .int (S.1 t 1)) dX1_plan_21 mfX1_21 ht rfl ?_
      refine mG.aload_n 0 dX1_plan_24 rfl ?_
      refine mG.get (v := .ref (t + 1)) dX1_plan_25 mfX1_9 ht (lr1_dayOf ht) ?_
      obtain ⟨q1, hq1, h⟩ := bdp h
      refine mG.callS0 (as := [.ref (a1), .int (a2), .int 0, .int (S.1 t 1), .ref (t + 1)]) (st := []) (S2 := q1.1) (r := some (.int (bI (q1.2)))) dX1_plan_28 mbX1_canPlace wk57_0 wk56_23 rfl rfl (by decide) (Nat.le_of_ble_eq_true rfl) (c_X1_canPlace ha1 (lk1_dayOf ht) (ll1_dayOf ht) hq1) ?_
      refine mG.ifz_ne (b := q1.2) 47 dX1_plan_31 (by decide) (fun c3 => ?_) (fun c3 => ?_)
      · replace h := itp c3 h
        obtain rfl := Option.some.inj h
        exact mG.vret dX1_plan_47 rfl ⟨rfl, rfl, rfl⟩
      · replace h := itn c3 h
        refine mG.aload_n 0 dX1_plan_34 rfl ?_
        refine mG.dup dX1_plan_35 rfl ?_
        refine mG.get (v := .int (q1.1.1 t 1)) dX1_plan_36 mfX1_21 ht rfl ?_
        refine mG.iconst (v := 1) dX1_plan_39 rfl ?_
        refine mG.iadd dX1_plan_40 ?_
        obtain ⟨S2, hS2, h⟩ := stpp h
        refine mG.putI dX1_plan_41 mfX1_21 rfl (Or.inl rfl) ht hS2 ?_
        refine mG.goto 8 dX1_plan_44 (by decide) ?_
        refine mG.sub (lv2 := [(0, .ref (t)), (1, .ref (a1)), (2, .int (a2))]) [0, 1, 2] rfl ?_
        exact ih S2   h
def f_X1_plan (F : Nat) (S : mS) (t : Nat) (a1 : Nat) (a2 : Int32) : Option mS := stp (sI S t 1 (f_J6_bitCount_0f7a4 S a2)) fun S1 => lX1_plan_8 F  t a1 a2 F S1 
set_option maxHeartbeats 4000000 in
set_option maxRecDepth 100000 in
theorem c_X1_plan {F : Nat} {S : mS} {t : Nat} {a1 : Nat} {a2 : Int32} {R : mS} (ht : kd0 t = 1) (ha1 : kd0 a1 = 6) (h : f_X1_plan F S t a1 a2 = some R) : mCt μX1_plan 36 0 0 E0 S [.ref (t), .ref (a1), .int (a2)] (mQe R none) := by
  unfold f_X1_plan at h
  refine mCt.of (by decide) (Nat.le_of_ble_eq_true rfl) ?_
  intro x
  refine mG.aload_n 0 dX1_plan_0 rfl ?_
  refine mG.iload_n 2 dX1_plan_1 rfl ?_
  refine mG.callS0 (as := [.int (a2)]) (st := [.ref (t)]) (S2 := S) (r := some (.int (f_J6_bitCount_0f7a4 S a2))) dX1_plan_2 mbJ6_bitCount_0f7a4 wk30_6 wk56_22 rfl rfl (by decide) (Nat.le_of_ble_eq_true rfl) (c_J6_bitCount_0f7a4  rfl) ?_
  obtain ⟨S1, hS1, h⟩ := stpp h
  refine mG.putI dX1_plan_5 mfX1_21 rfl (Or.inl rfl) ht hS1 ?_
  refine mG.sub (lv2 := [(0, .ref (t)), (1, .ref (a1)), (2, .int (a2))]) [0, 1, 2] rfl ?_
  exact gX1_plan_8 ht ha1  F S1   h
theorem dX2_note_0 : decode cX2_note 0 = .ok (.iload_n 2, 1) := by decide +kernel
theorem dX2_note_1 : decode cX2_note 1 = .ok (.ifCond .eq 18, 3) := by decide +kernel
theorem dX2_note_4 : decode cX2_note 4 = .ok (.aload_n 0, 1) := by decide +kernel
theorem dX2_note_5 : decode cX2_note 5 = .ok (.dup, 1) := by decide +kernel
theorem dX2_note_6 : decode cX2_note 6 = .ok (.getfield 9, 3) := by decide +kernel
theorem dX2_note_9 : decode cX2_note 9 = .ok (.iconst 1, 1) := by decide +kernel
theorem dX2_note_10 : decode cX2_note 10 = .ok (.iload_n 1, 1) := by decide +kernel
theorem dX2_note_11 : decode cX2_note 11 = .ok (.ishl, 1) := by decide +kernel
theorem dX2_note_12 : decode cX2_note 12 = .ok (.ior, 1) := by decide +kernel
theorem dX2_note_13 : decode cX2_note 13 = .ok (.putfield 9, 3) := by decide +kernel
theorem dX2_note_16 : decode cX2_note 16 = .ok (.goto 15, 3) := by decide +kernel
theorem dX2_note_19 : decode cX2_note 19 = .ok (.aload_n 0, 1) := by decide +kernel
theorem dX2_note_20 : decode cX2_note 20 = .ok (.dup, 1) := by decide +kernel
theorem dX2_note_21 : decode cX2_note 21 = .ok (.getfield 15, 3) := by decide +kernel
theorem dX2_note_24 : decode cX2_note 24 = .ok (.iconst 1, 1) := by decide +kernel
theorem dX2_note_25 : decode cX2_note 25 = .ok (.iload_n 1, 1) := by decide +kernel
theorem dX2_note_26 : decode cX2_note 26 = .ok (.ishl, 1) := by decide +kernel
theorem dX2_note_27 : decode cX2_note 27 = .ok (.ior, 1) := by decide +kernel
theorem dX2_note_28 : decode cX2_note 28 = .ok (.putfield 15, 3) := by decide +kernel
theorem dX2_note_31 : decode cX2_note 31 = .ok (.return_, 1) := by decide +kernel
def f_X2_note (F : Nat) (S : mS) (t : Nat) (a1 : Int32) (a2 : Int32) : Option mS := if a2 = 0 then (stp (sI S t 2 ((S.1 t 2) ||| ((1 : Int32) <<< (a1 &&& 31)))) fun S1 => some S1) else (stp (sI S t 1 ((S.1 t 1) ||| ((1 : Int32) <<< (a1 &&& 31)))) fun S2 => some S2)
set_option maxHeartbeats 4000000 in
set_option maxRecDepth 100000 in
theorem c_X2_note {F : Nat} {S : mS} {t : Nat} {a1 : Int32} {a2 : Int32} {R : mS} (ht : kd0 t = 2) (h : f_X2_note F S t a1 a2 = some R) : mCt μX2_note 1 0 0 E0 S [.ref (t), .int (a1), .int (a2)] (mQe R none) := by
  unfold f_X2_note at h
  refine mCt.of (by decide) (Nat.le_of_ble_eq_true rfl) ?_
  intro x
  refine mG.iload_n 2 dX2_note_0 rfl ?_
  refine mG.if_eq 19 dX2_note_1 (by decide) (fun c3 => ?_) (fun c3 => ?_)
  · replace h := itp c3 h
    refine mG.aload_n 0 dX2_note_19 rfl ?_
    refine mG.dup dX2_note_20 rfl ?_
    refine mG.get (v := .int (S.1 t 2)) dX2_note_21 mfX2_15 ht rfl ?_
    refine mG.iconst (v := 1) dX2_note_24 rfl ?_
    refine mG.iload_n 1 dX2_note_25 rfl ?_
    refine mG.ishl dX2_note_26 ?_
    refine mG.ior dX2_note_27 ?_
    obtain ⟨S1, hS1, h⟩ := stpp h
    refine mG.putI dX2_note_28 mfX2_15 rfl (Or.inl rfl) ht hS1 ?_
    obtain rfl := Option.some.inj h
    exact mG.vret dX2_note_31 rfl ⟨rfl, rfl, rfl⟩
  · replace h := itn c3 h
    refine mG.aload_n 0 dX2_note_4 rfl ?_
    refine mG.dup dX2_note_5 rfl ?_
    refine mG.get (v := .int (S.1 t 1)) dX2_note_6 mfX2_9 ht rfl ?_
    refine mG.iconst (v := 1) dX2_note_9 rfl ?_
    refine mG.iload_n 1 dX2_note_10 rfl ?_
    refine mG.ishl dX2_note_11 ?_
    refine mG.ior dX2_note_12 ?_
    obtain ⟨S2, hS2, h⟩ := stpp h
    refine mG.putI dX2_note_13 mfX2_9 rfl (Or.inl rfl) ht hS2 ?_
    refine mG.goto 31 dX2_note_16 (by decide) ?_
    obtain rfl := Option.some.inj h
    exact mG.vret dX2_note_31 rfl ⟨rfl, rfl, rfl⟩
theorem dX2_choices_0 : decode cX2_choices 0 = .ok (.iload_n 1, 1) := by decide +kernel
theorem dX2_choices_1 : decode cX2_choices 1 = .ok (.tableswitch 56 0 3 #[31, 33, 35, 43], 31) := by decide +kernel
theorem dX2_choices_32 : decode cX2_choices 32 = .ok (.iconst 1, 1) := by decide +kernel
theorem dX2_choices_33 : decode cX2_choices 33 = .ok (.ireturn, 1) := by decide +kernel
theorem dX2_choices_34 : decode cX2_choices 34 = .ok (.iload_n 0, 1) := by decide +kernel
theorem dX2_choices_35 : decode cX2_choices 35 = .ok (.ireturn, 1) := by decide +kernel
theorem dX2_choices_36 : decode cX2_choices 36 = .ok (.iload_n 0, 1) := by decide +kernel
theorem dX2_choices_37 : decode cX2_choices 37 = .ok (.iload_n 0, 1) := by decide +kernel
theorem dX2_choices_38 : decode cX2_choices 38 = .ok (.iconst 1, 1) := by decide +kernel
theorem dX2_choices_39 : decode cX2_choices 39 = .ok (.isub, 1) := by decide +kernel
theorem dX2_choices_40 : decode cX2_choices 40 = .ok (.imul, 1) := by decide +kernel
theorem dX2_choices_41 : decode cX2_choices 41 = .ok (.iconst 2, 1) := by decide +kernel
theorem dX2_choices_42 : decode cX2_choices 42 = .ok (.idiv, 1) := by decide +kernel
theorem dX2_choices_43 : decode cX2_choices 43 = .ok (.ireturn, 1) := by decide +kernel
theorem dX2_choices_44 : decode cX2_choices 44 = .ok (.iload_n 0, 1) := by decide +kernel
theorem dX2_choices_45 : decode cX2_choices 45 = .ok (.iload_n 0, 1) := by decide +kernel
theorem dX2_choices_46 : decode cX2_choices 46 = .ok (.iconst 1, 1) := by decide +kernel
theorem dX2_choices_47 : decode cX2_choices 47 = .ok (.isub, 1) := by decide +kernel
theorem dX2_choices_48 : decode cX2_choices 48 = .ok (.imul, 1) := by decide +kernel
theorem dX2_choices_49 : decode cX2_choices 49 = .ok (.iload_n 0, 1) := by decide +kernel
theorem dX2_choices_50 : decode cX2_choices 50 = .ok (.iconst 2, 1) := by decide +kernel
theorem dX2_choices_51 : decode cX2_choices 51 = .ok (.isub, 1) := by decide +kernel
theorem dX2_choices_52 : decode cX2_choices 52 = .ok (.imul, 1) := by decide +kernel
theorem dX2_choices_53 : decode cX2_choices 53 = .ok (.bipush 6, 2) := by decide +kernel
theorem dX2_choices_55 : decode cX2_choices 55 = .ok (.idiv, 1) := by decide +kernel
theorem dX2_choices_56 : decode cX2_choices 56 = .ok (.ireturn, 1) := by decide +kernel
theorem dX2_choices_57 : decode cX2_choices 57 = .ok (.iconst 0, 1) := by decide +kernel
theorem dX2_choices_58 : decode cX2_choices 58 = .ok (.ireturn, 1) := by decide +kernel
def f_X2_choices (S0 : mS) (a1 : Int32) (a2 : Int32) : Int32 := if a2 = (0 : Int32) then ((1 : Int32)) else (if a2 = (1 : Int32) then (a1) else (if a2 = (2 : Int32) then ((a1 * (a1 - (1 : Int32))) / (2 : Int32)) else (if a2 = (3 : Int32) then (((a1 * (a1 - (1 : Int32))) * (a1 - (2 : Int32))) / (6 : Int32)) else ((0 : Int32)))))
set_option maxHeartbeats 4000000 in
set_option maxRecDepth 100000 in
theorem c_X2_choices {S0 : mS} {a1 : Int32} {a2 : Int32} {R : Int32}  (h : f_X2_choices S0 a1 a2 = R) : mCt μX2_choices 1 0 0 E0 S0 [.int (a1), .int (a2)] (mQe S0 (some (.int R))) := by
  unfold f_X2_choices at h
  refine mCt.of (by decide) (Nat.le_of_ble_eq_true rfl) ?_
  intro x
  refine mG.iload_n 1 dX2_choices_0 rfl ?_
  by_cases c1 : a2 = (0 : Int32)
  · replace h := itp c1 h
    refine mG.tblIn (31) 32 dX2_choices_1 (by rw [c1]; decide) (by rw [c1]; decide) (by rw [c1]; decide) (by decide) ?_
    refine mG.iconst (v := 1) dX2_choices_32 rfl ?_
    subst h
    exact mG.iret dX2_choices_33 rfl ⟨rfl, rfl, rfl⟩
  replace h := itn c1 h
  by_cases c2 : a2 = (1 : Int32)
  · replace h := itp c2 h
    refine mG.tblIn (33) 34 dX2_choices_1 (by rw [c2]; decide) (by rw [c2]; decide) (by rw [c2]; decide) (by decide) ?_
    refine mG.iload_n 0 dX2_choices_34 rfl ?_
    subst h
    exact mG.iret dX2_choices_35 rfl ⟨rfl, rfl, rfl⟩
  replace h := itn c2 h
  by_cases c3 : a2 = (2 : Int32)
  · replace h := itp c3 h
    refine mG.tblIn (35) 36 dX2_choices_1 (by rw [c3]; decide) (by rw [c3]; decide) (by rw [c3]; decide) (by decide) ?_
    refine mG.iload_n 0 dX2_choices_36 rfl ?_
    refine mG.iload_n 0 dX2_choices_37 rfl ?_
    refine mG.iconst (v := 1) dX2_choices_38 rfl ?_
    refine mG.isub dX2_choices_39 ?_
    refine mG.imul dX2_choices_40 ?_
    refine mG.iconst (v := 2) dX2_choices_41 rfl ?_
    refine mG.idiv dX2_choices_42 (by decide) ?_
    subst h
    exact mG.iret dX2_choices_43 rfl ⟨rfl, rfl, rfl⟩
  replace h := itn c3 h
  by_cases c4 : a2 = (3 : Int32)
  · replace h := itp c4 h
    refine mG.tblIn (43) 44 dX2_choices_1 (by rw [c4]; decide) (by rw [c4]; decide) (by rw [c4]; decide) (by decide) ?_
    refine mG.iload_n 0 dX2_choices_44 rfl ?_
    refine mG.iload_n 0 dX2_choices_45 rfl ?_
    refine mG.iconst (v := 1) dX2_choices_46 rfl ?_
    refine mG.isub dX2_choices_47 ?_
    refine mG.imul dX2_choices_48 ?_
    refine mG.iload_n 0 dX2_choices_49 rfl ?_
    refine mG.iconst (v := 2) dX2_choices_50 rfl ?_
    refine mG.isub dX2_choices_51 ?_
    refine mG.imul dX2_choices_52 ?_
    refine mG.bipush (v := 6) dX2_choices_53 (by decide) ?_
    refine mG.idiv dX2_choices_55 (by decide) ?_
    subst h
    exact mG.iret dX2_choices_56 rfl ⟨rfl, rfl, rfl⟩
  replace h := itn c4 h
  refine mG.tblOut 57 dX2_choices_1 (by have e0 : Int32.toInt a2 ≠ 0 := fun q => c1 (Int32.toInt_inj.mp (q.trans (by decide))); have e1 : Int32.toInt a2 ≠ 1 := fun q => c2 (Int32.toInt_inj.mp (q.trans (by decide))); have e2 : Int32.toInt a2 ≠ 2 := fun q => c3 (Int32.toInt_inj.mp (q.trans (by decide))); have e3 : Int32.toInt a2 ≠ 3 := fun q => c4 (Int32.toInt_inj.mp (q.trans (by decide))); omega) (by decide) ?_
  refine mG.iconst (v := 0) dX2_choices_57 rfl ?_
  subst h
  exact mG.iret dX2_choices_58 rfl ⟨rfl, rfl, rfl⟩
theorem dX2_lookAt_0 : decode cX2_lookAt 0 = .ok (.aload_n 0, 1) := by decide +kernel
theorem dX2_lookAt_1 : decode cX2_lookAt 1 = .ok (.iconst 0, 1) := by decide +kernel
theorem dX2_lookAt_2 : decode cX2_lookAt 2 = .ok (.putfield 9, 3) := by decide +kernel
theorem dX2_lookAt_5 : decode cX2_lookAt 5 = .ok (.aload_n 0, 1) := by decide +kernel
theorem dX2_lookAt_6 : decode cX2_lookAt 6 = .ok (.iconst 0, 1) := by decide +kernel
theorem dX2_lookAt_7 : decode cX2_lookAt 7 = .ok (.putfield 15, 3) := by decide +kernel
theorem dX2_lookAt_10 : decode cX2_lookAt 10 = .ok (.iconst 0, 1) := by decide +kernel
theorem dX2_lookAt_11 : decode cX2_lookAt 11 = .ok (.istore 4, 2) := by decide +kernel
theorem dX2_lookAt_13 : decode cX2_lookAt 13 = .ok (.iload 4, 2) := by decide +kernel
theorem dX2_lookAt_15 : decode cX2_lookAt 15 = .ok (.aload_n 1, 1) := by decide +kernel
theorem dX2_lookAt_16 : decode cX2_lookAt 16 = .ok (.getfield 18, 3) := by decide +kernel
theorem dX2_lookAt_19 : decode cX2_lookAt 19 = .ok (.getfield 24, 3) := by decide +kernel
theorem dX2_lookAt_22 : decode cX2_lookAt 22 = .ok (.if_icmp .ge 47, 3) := by decide +kernel
theorem dX2_lookAt_25 : decode cX2_lookAt 25 = .ok (.aload_n 1, 1) := by decide +kernel
theorem dX2_lookAt_26 : decode cX2_lookAt 26 = .ok (.getfield 18, 3) := by decide +kernel
theorem dX2_lookAt_29 : decode cX2_lookAt 29 = .ok (.iload 4, 2) := by decide +kernel
theorem dX2_lookAt_31 : decode cX2_lookAt 31 = .ok (.invokevirtual 29, 3) := by decide +kernel
theorem dX2_lookAt_34 : decode cX2_lookAt 34 = .ok (.iload_n 2, 1) := by decide +kernel
theorem dX2_lookAt_35 : decode cX2_lookAt 35 = .ok (.if_icmp .ne 28, 3) := by decide +kernel
theorem dX2_lookAt_38 : decode cX2_lookAt 38 = .ok (.aload_n 0, 1) := by decide +kernel
theorem dX2_lookAt_39 : decode cX2_lookAt 39 = .ok (.aload_n 1, 1) := by decide +kernel
theorem dX2_lookAt_40 : decode cX2_lookAt 40 = .ok (.getfield 18, 3) := by decide +kernel
theorem dX2_lookAt_43 : decode cX2_lookAt 43 = .ok (.iload 4, 2) := by decide +kernel
theorem dX2_lookAt_45 : decode cX2_lookAt 45 = .ok (.invokevirtual 33, 3) := by decide +kernel
theorem dX2_lookAt_48 : decode cX2_lookAt 48 = .ok (.bipush 20, 2) := by decide +kernel
theorem dX2_lookAt_50 : decode cX2_lookAt 50 = .ok (.irem, 1) := by decide +kernel
theorem dX2_lookAt_51 : decode cX2_lookAt 51 = .ok (.aload_n 1, 1) := by decide +kernel
theorem dX2_lookAt_52 : decode cX2_lookAt 52 = .ok (.getfield 18, 3) := by decide +kernel
theorem dX2_lookAt_55 : decode cX2_lookAt 55 = .ok (.iload 4, 2) := by decide +kernel
theorem dX2_lookAt_57 : decode cX2_lookAt 57 = .ok (.invokevirtual 36, 3) := by decide +kernel
theorem dX2_lookAt_60 : decode cX2_lookAt 60 = .ok (.invokevirtual 40, 3) := by decide +kernel
theorem dX2_lookAt_63 : decode cX2_lookAt 63 = .ok (.iinc 4 1, 3) := by decide +kernel
theorem dX2_lookAt_66 : decode cX2_lookAt 66 = .ok (.goto (-53), 3) := by decide +kernel
theorem dX2_lookAt_69 : decode cX2_lookAt 69 = .ok (.iconst 0, 1) := by decide +kernel
theorem dX2_lookAt_70 : decode cX2_lookAt 70 = .ok (.istore 4, 2) := by decide +kernel
theorem dX2_lookAt_72 : decode cX2_lookAt 72 = .ok (.iload 4, 2) := by decide +kernel
theorem dX2_lookAt_74 : decode cX2_lookAt 74 = .ok (.aload_n 1, 1) := by decide +kernel
theorem dX2_lookAt_75 : decode cX2_lookAt 75 = .ok (.getfield 44, 3) := by decide +kernel
theorem dX2_lookAt_78 : decode cX2_lookAt 78 = .ok (.if_icmp .ge 47, 3) := by decide +kernel
theorem dX2_lookAt_81 : decode cX2_lookAt 81 = .ok (.aload_n 1, 1) := by decide +kernel
theorem dX2_lookAt_82 : decode cX2_lookAt 82 = .ok (.getfield 47, 3) := by decide +kernel
theorem dX2_lookAt_85 : decode cX2_lookAt 85 = .ok (.iload 4, 2) := by decide +kernel
theorem dX2_lookAt_87 : decode cX2_lookAt 87 = .ok (.iaload, 1) := by decide +kernel
theorem dX2_lookAt_88 : decode cX2_lookAt 88 = .ok (.iload_n 2, 1) := by decide +kernel
theorem dX2_lookAt_89 : decode cX2_lookAt 89 = .ok (.if_icmp .ne 30, 3) := by decide +kernel
theorem dX2_lookAt_92 : decode cX2_lookAt 92 = .ok (.aload_n 0, 1) := by decide +kernel
theorem dX2_lookAt_93 : decode cX2_lookAt 93 = .ok (.aload_n 1, 1) := by decide +kernel
theorem dX2_lookAt_94 : decode cX2_lookAt 94 = .ok (.getfield 51, 3) := by decide +kernel
theorem dX2_lookAt_97 : decode cX2_lookAt 97 = .ok (.iload 4, 2) := by decide +kernel
theorem dX2_lookAt_99 : decode cX2_lookAt 99 = .ok (.iaload, 1) := by decide +kernel
theorem dX2_lookAt_100 : decode cX2_lookAt 100 = .ok (.aload_n 1, 1) := by decide +kernel
theorem dX2_lookAt_101 : decode cX2_lookAt 101 = .ok (.getfield 54, 3) := by decide +kernel
theorem dX2_lookAt_104 : decode cX2_lookAt 104 = .ok (.iload 4, 2) := by decide +kernel
theorem dX2_lookAt_106 : decode cX2_lookAt 106 = .ok (.iaload, 1) := by decide +kernel
theorem dX2_lookAt_107 : decode cX2_lookAt 107 = .ok (.iconst 1, 1) := by decide +kernel
theorem dX2_lookAt_108 : decode cX2_lookAt 108 = .ok (.if_icmp .ne 7, 3) := by decide +kernel
theorem dX2_lookAt_111 : decode cX2_lookAt 111 = .ok (.iconst 1, 1) := by decide +kernel
theorem dX2_lookAt_112 : decode cX2_lookAt 112 = .ok (.goto 4, 3) := by decide +kernel
theorem dX2_lookAt_115 : decode cX2_lookAt 115 = .ok (.iconst 0, 1) := by decide +kernel
theorem dX2_lookAt_116 : decode cX2_lookAt 116 = .ok (.invokevirtual 40, 3) := by decide +kernel
theorem dX2_lookAt_119 : decode cX2_lookAt 119 = .ok (.iinc 4 1, 3) := by decide +kernel
theorem dX2_lookAt_122 : decode cX2_lookAt 122 = .ok (.goto (-50), 3) := by decide +kernel
theorem dX2_lookAt_125 : decode cX2_lookAt 125 = .ok (.aload_n 0, 1) := by decide +kernel
theorem dX2_lookAt_126 : decode cX2_lookAt 126 = .ok (.bipush 20, 2) := by decide +kernel
theorem dX2_lookAt_128 : decode cX2_lookAt 128 = .ok (.aload_n 0, 1) := by decide +kernel
theorem dX2_lookAt_129 : decode cX2_lookAt 129 = .ok (.getfield 9, 3) := by decide +kernel
theorem dX2_lookAt_132 : decode cX2_lookAt 132 = .ok (.aload_n 0, 1) := by decide +kernel
theorem dX2_lookAt_133 : decode cX2_lookAt 133 = .ok (.getfield 15, 3) := by decide +kernel
theorem dX2_lookAt_136 : decode cX2_lookAt 136 = .ok (.ior, 1) := by decide +kernel
theorem dX2_lookAt_137 : decode cX2_lookAt 137 = .ok (.invokestatic 57, 3) := by decide +kernel
theorem dX2_lookAt_140 : decode cX2_lookAt 140 = .ok (.isub, 1) := by decide +kernel
theorem dX2_lookAt_141 : decode cX2_lookAt 141 = .ok (.putfield 62, 3) := by decide +kernel
theorem dX2_lookAt_144 : decode cX2_lookAt 144 = .ok (.aload_n 0, 1) := by decide +kernel
theorem dX2_lookAt_145 : decode cX2_lookAt 145 = .ok (.iload_n 3, 1) := by decide +kernel
theorem dX2_lookAt_146 : decode cX2_lookAt 146 = .ok (.aload_n 0, 1) := by decide +kernel
theorem dX2_lookAt_147 : decode cX2_lookAt 147 = .ok (.getfield 9, 3) := by decide +kernel
theorem dX2_lookAt_150 : decode cX2_lookAt 150 = .ok (.invokestatic 57, 3) := by decide +kernel
theorem dX2_lookAt_153 : decode cX2_lookAt 153 = .ok (.isub, 1) := by decide +kernel
theorem dX2_lookAt_154 : decode cX2_lookAt 154 = .ok (.putfield 65, 3) := by decide +kernel
theorem dX2_lookAt_157 : decode cX2_lookAt 157 = .ok (.aload_n 0, 1) := by decide +kernel
theorem dX2_lookAt_158 : decode cX2_lookAt 158 = .ok (.aload_n 0, 1) := by decide +kernel
theorem dX2_lookAt_159 : decode cX2_lookAt 159 = .ok (.getfield 9, 3) := by decide +kernel
theorem dX2_lookAt_162 : decode cX2_lookAt 162 = .ok (.aload_n 0, 1) := by decide +kernel
theorem dX2_lookAt_163 : decode cX2_lookAt 163 = .ok (.getfield 15, 3) := by decide +kernel
theorem dX2_lookAt_166 : decode cX2_lookAt 166 = .ok (.iand, 1) := by decide +kernel
theorem dX2_lookAt_167 : decode cX2_lookAt 167 = .ok (.ifCond .eq 7, 3) := by decide +kernel
theorem dX2_lookAt_170 : decode cX2_lookAt 170 = .ok (.iconst 0, 1) := by decide +kernel
theorem dX2_lookAt_171 : decode cX2_lookAt 171 = .ok (.goto 14, 3) := by decide +kernel
theorem dX2_lookAt_174 : decode cX2_lookAt 174 = .ok (.aload_n 0, 1) := by decide +kernel
theorem dX2_lookAt_175 : decode cX2_lookAt 175 = .ok (.getfield 62, 3) := by decide +kernel
theorem dX2_lookAt_178 : decode cX2_lookAt 178 = .ok (.aload_n 0, 1) := by decide +kernel
theorem dX2_lookAt_179 : decode cX2_lookAt 179 = .ok (.getfield 65, 3) := by decide +kernel
theorem dX2_lookAt_182 : decode cX2_lookAt 182 = .ok (.invokestatic 68, 3) := by decide +kernel
theorem dX2_lookAt_185 : decode cX2_lookAt 185 = .ok (.putfield 72, 3) := by decide +kernel
theorem dX2_lookAt_188 : decode cX2_lookAt 188 = .ok (.return_, 1) := by decide +kernel
def lX2_lookAt_13 (F : Nat) (K72 : mS → Int32 → Option mS) (t : Nat) (a1 : Nat) (a2 : Int32) (a3 : Int32) : Nat → mS → Int32 → Option mS
  | 0, _, _ => none
  | n + 1, S, v4 => if (S.1 (a1 + 1) 4) ≤ v4 then (K72 S (0 : Int32)) else (bd (f_X6_houseOfKnock F S (a1 + 1) v4) fun q1 => if q1 = a2 then (bd (f_X6_dayOfKnock F S (a1 + 1) v4) fun q2 => bd (f_X6_wasShut F S (a1 + 1) v4) fun q3 => bd (f_X2_note F S t (q2 - q2 / (20 : Int32) * (20 : Int32)) (bI (q3))) fun q4 => lX2_lookAt_13 F K72 t a1 a2 a3 n q4 (v4 + 1)) else (lX2_lookAt_13 F K72 t a1 a2 a3 n S (v4 + 1)))
set_option maxHeartbeats 4000000 in
set_option maxRecDepth 100000 in
theorem gX2_lookAt_13 {x : mX} {F : Nat} {t : Nat} {a1 : Nat} {a2 : Int32} {a3 : Int32}  {K72 : mS → Int32 → Option mS} {R : mS} (ht : kd0 t = 2) (ha1 : kd0 a1 = 7) (hK72 : ∀ (S : mS) (v4 : Int32) , K72 S v4 = some R → mG x μX2_lookAt 3 0 0 (mQe R none) 0 0 E0 S 72 [(0, .ref (t)), (1, .ref (a1)), (2, .int (a2)), (3, .int (a3)), (4, .int (v4))] []) : ∀ (n : Nat) (S : mS) (v4 : Int32), lX2_lookAt_13 F K72 t a1 a2 a3 n S v4 = some R → mG x μX2_lookAt 3 0 0 (mQe R none) 0 0 E0 S 13 [(0, .ref (t)), (1, .ref (a1)), (2, .int (a2)), (3, .int (a3)), (4, .int (v4))] [] := by
  intro n
  induction n with
  | zero =>
    intro S v4 h
    cases h
  | succ n ih =>
    intro S v4 h
    unfold lX2_lookAt_13 at h
    refine mG.iload 4 dX2_lookAt_13 rfl ?_
    refine mG.aload_n 1 dX2_lookAt_15 rfl ?_
    refine mG.get (v := .ref (a1 + 1)) dX2_lookAt_16 mfX2_18 ha1 (lr7_town ha1) ?_
    refine mG.get (v := .int (S.1 (a1 + 1) 4)) dX2_lookAt_19 mfX2_24 (lk7_town ha1) rfl ?_
    refine mG.icmp_ge 69 dX2_lookAt_22 (by decide) (fun c6 => ?_) (fun c6 => ?_)
    · replace h := itp c6 h
      refine mG.iconst (v := 0) dX2_lookAt_69 rfl ?_
      refine mG.istore (lv2 := [(4, .int 0), (0, .ref (t)), (1, .ref (a1)), (2, .int (a2)), (3, .int (a3))]) dX2_lookAt_70 (by decide) rfl ?_
      refine mG.sub (lv2 := [(0, .ref (t)), (1, .ref (a1)), (2, .int (a2)), (3, .int (a3)), (4, .int 0)]) [1, 2, 3, 4, 0] rfl ?_
      exact hK72 S (0 : Int32)  h
    · replace h := itn c6 h
      refine mG.aload_n 1 dX2_lookAt_25 rfl ?_
      refine mG.get (v := .ref (a1 + 1)) dX2_lookAt_26 mfX2_18 ha1 (lr7_town ha1) ?_
      refine mG.iload 4 dX2_lookAt_29 rfl ?_
      obtain ⟨q1, hq1, h⟩ := bdp h
      refine mG.callV0 (as := [.int (v4)]) (st := []) (S2 := S) (r := some (.int (q1))) dX2_lookAt_31 mvX6_houseOfKnock wk52_6 rfl (lk7_town ha1) rfl (by decide) (Nat.le_of_ble_eq_true rfl) (c_X6_houseOfKnock (lk7_town ha1) hq1) ?_
      refine mG.iload_n 2 dX2_lookAt_34 rfl ?_
      refine mG.icmp_ne 63 dX2_lookAt_35 (by decide) (fun c5 => ?_) (fun c5 => ?_)
      · replace h := itn c5 h
        refine mG.iinc 4 (u := v4 + 1) (lv2 := [(4, .int (v4 + 1)), (0, .ref (t)), (1, .ref (a1)), (2, .int (a2)), (3, .int (a3))]) dX2_lookAt_63 rfl rfl (by decide) rfl ?_
        refine mG.goto 13 dX2_lookAt_66 (by decide) ?_
        refine mG.sub (lv2 := [(0, .ref (t)), (1, .ref (a1)), (2, .int (a2)), (3, .int (a3)), (4, .int (v4 + 1))]) [1, 2, 3, 4, 0] rfl ?_
        exact ih S (v4 + 1)  h
      · replace h := itp c5 h
        refine mG.aload_n 0 dX2_lookAt_38 rfl ?_
        refine mG.aload_n 1 dX2_lookAt_39 rfl ?_
        refine mG.get (v := .ref (a1 + 1)) dX2_lookAt_40 mfX2_18 ha1 (lr7_town ha1) ?_
        refine mG.iload 4 dX2_lookAt_43 rfl ?_
        obtain ⟨q2, hq2, h⟩ := bdp h
        refine mG.callV0 (as := [.int (v4)]) (st := [.ref (t)]) (S2 := S) (r := some (.int (q2))) dX2_lookAt_45 mvX6_dayOfKnock wk52_7 rfl (lk7_town ha1) rfl (by decide) (Nat.le_of_ble_eq_true rfl) (c_X6_dayOfKnock (lk7_town ha1) hq2) ?_
        refine mG.bipush (v := 20) dX2_lookAt_48 (by decide) ?_
        refine mG.irem dX2_lookAt_50 (by decide) ?_
        refine mG.aload_n 1 dX2_lookAt_51 rfl ?_
        refine mG.get (v := .ref (a1 + 1)) dX2_lookAt_52 mfX2_18 ha1 (lr7_town ha1) ?_
        refine mG.iload 4 dX2_lookAt_55 rfl ?_
        obtain ⟨q3, hq3, h⟩ := bdp h
        refine mG.callV0 (as := [.int (v4)]) (st := [.int (q2 - q2 / (20 : Int32) * (20 : Int32)), .ref (t)]) (S2 := S) (r := some (.int (bI (q3)))) dX2_lookAt_57 mvX6_wasShut wk52_8 rfl (lk7_town ha1) rfl (by decide) (Nat.le_of_ble_eq_true rfl) (c_X6_wasShut (lk7_town ha1) hq3) ?_
        obtain ⟨q4, hq4, h⟩ := bdp h
        refine mG.callV0 (as := [.int (q2 - q2 / (20 : Int32) * (20 : Int32)), .int (bI (q3))]) (st := []) (S2 := q4) (r := none) dX2_lookAt_60 mvX2_note wk52_9 rfl ht rfl (by decide) (Nat.le_of_ble_eq_true rfl) (c_X2_note ht hq4) ?_
        refine mG.iinc 4 (u := v4 + 1) (lv2 := [(4, .int (v4 + 1)), (0, .ref (t)), (1, .ref (a1)), (2, .int (a2)), (3, .int (a3))]) dX2_lookAt_63 rfl rfl (by decide) rfl ?_
        refine mG.goto 13 dX2_lookAt_66 (by decide) ?_
        refine mG.sub (lv2 := [(0, .ref (t)), (1, .ref (a1)), (2, .int (a2)), (3, .int (a3)), (4, .int (v4 + 1))]) [1, 2, 3, 4, 0] rfl ?_
        exact ih q4 (v4 + 1)  h
def lX2_lookAt_72 (F : Nat)  (t : Nat) (a1 : Nat) (a2 : Int32) (a3 : Int32) : Nat → mS → Int32 → Option mS
  | 0, _, _ => none
  | n + 1, S, v4 => if (S.1 a1 9) ≤ v4 then (stp (sI S t 3 ((20 : Int32) - (f_J6_bitCount_0f7a4 S ((S.1 t 1) ||| (S.1 t 2))))) fun S1 => stp (sI S1 t 4 (a3 - (f_J6_bitCount_0f7a4 S1 (S1.1 t 1)))) fun S2 => if ((S2.1 t 1) &&& (S2.1 t 2)) = 0 then (stp (sI S2 t 0 (f_X2_choices S2 (S2.1 t 3) (S2.1 t 4))) fun S3 => some S3) else (stp (sI S2 t 0 (0 : Int32)) fun S4 => some S4)) else (ck (inb v4 8) (if (S.1 (a1 + 7) v4.toNatClampNeg) = a2 then (ck (inb v4 8) (ck (inb v4 8) (if (S.1 (a1 + 9) v4.toNatClampNeg) = (1 : Int32) then (bd (f_X2_note F S t (S.1 (a1 + 8) v4.toNatClampNeg) (1 : Int32)) fun q10 => lX2_lookAt_72 F  t a1 a2 a3 n q10 (v4 + 1)) else (bd (f_X2_note F S t (S.1 (a1 + 8) v4.toNatClampNeg) (0 : Int32)) fun q9 => lX2_lookAt_72 F  t a1 a2 a3 n q9 (v4 + 1))))) else (lX2_lookAt_72 F  t a1 a2 a3 n S (v4 + 1))))
set_option maxHeartbeats 4000000 in
set_option maxRecDepth 100000 in
theorem gX2_lookAt_72 {x : mX} {F : Nat} {t : Nat} {a1 : Nat} {a2 : Int32} {a3 : Int32}   {R : mS} (ht : kd0 t = 2) (ha1 : kd0 a1 = 7)  : ∀ (n : Nat) (S : mS) (v4 : Int32), lX2_lookAt_72 F  t a1 a2 a3 n S v4 = some R → mG x μX2_lookAt 3 0 0 (mQe R none) 0 0 E0 S 72 [(0, .ref (t)), (1, .ref (a1)), (2, .int (a2)), (3, .int (a3)), (4, .int (v4))] [] := by
  intro n
  induction n with
  | zero =>
    intro S v4 h
    cases h
  | succ n ih =>
    intro S v4 h
    unfold lX2_lookAt_72 at h
    refine mG.iload 4 dX2_lookAt_72 rfl ?_
    refine mG.aload_n 1 dX2_lookAt_74 rfl ?_
    refine mG.get (v := .int (S.1 a1 9)) dX2_lookAt_75 mfX2_44 ha1 rfl ?_
    refine mG.icmp_ge 125 dX2_lookAt_78 (by decide) (fun c13 => ?_) (fun c13 => ?_)
    · replace h := itp c13 h
      refine mG.aload_n 0 dX2_lookAt_125 rfl ?_
      refine mG.bipush (v := 20) dX2_lookAt_126 (by decide) ?_
      refine mG.aload_n 0 dX2_lookAt_128 rfl ?_
      refine mG.get (v := .int (S.1 t 1)) dX2_lookAt_129 mfX2_9 ht rfl ?_
      refine mG.aload_n 0 dX2_lookAt_132 rfl ?_
      refine mG.get (v := .int (S.1 t 2)) dX2_lookAt_133 mfX2_15 ht rfl ?_
      refine mG.ior dX2_lookAt_136 ?_
      refine mG.callS0 (as := [.int ((S.1 t 1) ||| (S.1 t 2))]) (st := [.int 20, .ref (t)]) (S2 := S) (r := some (.int (f_J6_bitCount_0f7a4 S ((S.1 t 1) ||| (S.1 t 2))))) dX2_lookAt_137 mbJ6_bitCount_0f7a4 wk30_6 wk52_13 rfl rfl (by decide) (Nat.le_of_ble_eq_true rfl) (c_J6_bitCount_0f7a4  rfl) ?_
      refine mG.isub dX2_lookAt_140 ?_
      obtain ⟨S1, hS1, h⟩ := stpp h
      refine mG.putI dX2_lookAt_141 mfX2_62 rfl (Or.inl rfl) ht hS1 ?_
      refine mG.aload_n 0 dX2_lookAt_144 rfl ?_
      refine mG.iload_n 3 dX2_lookAt_145 rfl ?_
      refine mG.aload_n 0 dX2_lookAt_146 rfl ?_
      refine mG.get (v := .int (S1.1 t 1)) dX2_lookAt_147 mfX2_9 ht rfl ?_
      refine mG.callS0 (as := [.int (S1.1 t 1)]) (st := [.int (a3), .ref (t)]) (S2 := S1) (r := some (.int (f_J6_bitCount_0f7a4 S1 (S1.1 t 1)))) dX2_lookAt_150 mbJ6_bitCount_0f7a4 wk30_6 wk52_13 rfl rfl (by decide) (Nat.le_of_ble_eq_true rfl) (c_J6_bitCount_0f7a4  rfl) ?_
      refine mG.isub dX2_lookAt_153 ?_
      obtain ⟨S2, hS2, h⟩ := stpp h
      refine mG.putI dX2_lookAt_154 mfX2_65 rfl (Or.inl rfl) ht hS2 ?_
      refine mG.aload_n 0 dX2_lookAt_157 rfl ?_
      refine mG.aload_n 0 dX2_lookAt_158 rfl ?_
      refine mG.get (v := .int (S2.1 t 1)) dX2_lookAt_159 mfX2_9 ht rfl ?_
      refine mG.aload_n 0 dX2_lookAt_162 rfl ?_
      refine mG.get (v := .int (S2.1 t 2)) dX2_lookAt_163 mfX2_15 ht rfl ?_
      refine mG.iand dX2_lookAt_166 ?_
      refine mG.if_eq 174 dX2_lookAt_167 (by decide) (fun c5 => ?_) (fun c5 => ?_)
      · replace h := itp c5 h
        refine mG.aload_n 0 dX2_lookAt_174 rfl ?_
        refine mG.get (v := .int (S2.1 t 3)) dX2_lookAt_175 mfX2_62 ht rfl ?_
        refine mG.aload_n 0 dX2_lookAt_178 rfl ?_
        refine mG.get (v := .int (S2.1 t 4)) dX2_lookAt_179 mfX2_65 ht rfl ?_
        refine mG.callS0 (as := [.int (S2.1 t 3), .int (S2.1 t 4)]) (st := [.ref (t)]) (S2 := S2) (r := some (.int (f_X2_choices S2 (S2.1 t 3) (S2.1 t 4)))) dX2_lookAt_182 mbX2_choices wk52_15 wk52_14 rfl rfl (by decide) (Nat.le_of_ble_eq_true rfl) (c_X2_choices  rfl) ?_
        obtain ⟨S3, hS3, h⟩ := stpp h
        refine mG.putI dX2_lookAt_185 mfX2_72 rfl (Or.inl rfl) ht hS3 ?_
        obtain rfl := Option.some.inj h
        exact mG.vret dX2_lookAt_188 rfl ⟨rfl, rfl, rfl⟩
      · replace h := itn c5 h
        refine mG.iconst (v := 0) dX2_lookAt_170 rfl ?_
        refine mG.goto 185 dX2_lookAt_171 (by decide) ?_
        obtain ⟨S4, hS4, h⟩ := stpp h
        refine mG.putI dX2_lookAt_185 mfX2_72 rfl (Or.inl rfl) ht hS4 ?_
        obtain rfl := Option.some.inj h
        exact mG.vret dX2_lookAt_188 rfl ⟨rfl, rfl, rfl⟩
    · replace h := itn c13 h
      refine mG.aload_n 1 dX2_lookAt_81 rfl ?_
      refine mG.get (v := .ref (a1 + 7)) dX2_lookAt_82 mfX2_47 ha1 (lr7_seenHouse ha1) ?_
      refine mG.iload 4 dX2_lookAt_85 rfl ?_
      obtain ⟨b6, h⟩ := ckp h
      refine mG.iald dX2_lookAt_87 (lk7_seenHouse ha1) (ll7_seenHouse ha1) (inbp b6) ?_
      refine mG.iload_n 2 dX2_lookAt_88 rfl ?_
      refine mG.icmp_ne 119 dX2_lookAt_89 (by decide) (fun c12 => ?_) (fun c12 => ?_)
      · replace h := itn c12 h
        refine mG.iinc 4 (u := v4 + 1) (lv2 := [(4, .int (v4 + 1)), (0, .ref (t)), (1, .ref (a1)), (2, .int (a2)), (3, .int (a3))]) dX2_lookAt_119 rfl rfl (by decide) rfl ?_
        refine mG.goto 72 dX2_lookAt_122 (by decide) ?_
        refine mG.sub (lv2 := [(0, .ref (t)), (1, .ref (a1)), (2, .int (a2)), (3, .int (a3)), (4, .int (v4 + 1))]) [1, 2, 3, 4, 0] rfl ?_
        exact ih S (v4 + 1)  h
      · replace h := itp c12 h
        refine mG.aload_n 0 dX2_lookAt_92 rfl ?_
        refine mG.aload_n 1 dX2_lookAt_93 rfl ?_
        refine mG.get (v := .ref (a1 + 8)) dX2_lookAt_94 mfX2_51 ha1 (lr7_seenDate ha1) ?_
        refine mG.iload 4 dX2_lookAt_97 rfl ?_
        obtain ⟨b7, h⟩ := ckp h
        refine mG.iald dX2_lookAt_99 (lk7_seenDate ha1) (ll7_seenDate ha1) (inbp b7) ?_
        refine mG.aload_n 1 dX2_lookAt_100 rfl ?_
        refine mG.get (v := .ref (a1 + 9)) dX2_lookAt_101 mfX2_54 ha1 (lr7_seenShut ha1) ?_
        refine mG.iload 4 dX2_lookAt_104 rfl ?_
        obtain ⟨b8, h⟩ := ckp h
        refine mG.iald dX2_lookAt_106 (lk7_seenShut ha1) (ll7_seenShut ha1) (inbp b8) ?_
        refine mG.iconst (v := 1) dX2_lookAt_107 rfl ?_
        refine mG.icmp_ne 115 dX2_lookAt_108 (by decide) (fun c11 => ?_) (fun c11 => ?_)
        · replace h := itn c11 h
          refine mG.iconst (v := 0) dX2_lookAt_115 rfl ?_
          obtain ⟨q9, hq9, h⟩ := bdp h
          refine mG.callV0 (as := [.int (S.1 (a1 + 8) v4.toNatClampNeg), .int 0]) (st := []) (S2 := q9) (r := none) dX2_lookAt_116 mvX2_note wk52_9 rfl ht rfl (by decide) (Nat.le_of_ble_eq_true rfl) (c_X2_note ht hq9) ?_
          refine mG.iinc 4 (u := v4 + 1) (lv2 := [(4, .int (v4 + 1)), (0, .ref (t)), (1, .ref (a1)), (2, .int (a2)), (3, .int (a3))]) dX2_lookAt_119 rfl rfl (by decide) rfl ?_
          refine mG.goto 72 dX2_lookAt_122 (by decide) ?_
          refine mG.sub (lv2 := [(0, .ref (t)), (1, .ref (a1)), (2, .int (a2)), (3, .int (a3)), (4, .int (v4 + 1))]) [1, 2, 3, 4, 0] rfl ?_
          exact ih q9 (v4 + 1)  h
        · replace h := itp c11 h
          refine mG.iconst (v := 1) dX2_lookAt_111 rfl ?_
          refine mG.goto 116 dX2_lookAt_112 (by decide) ?_
          obtain ⟨q10, hq10, h⟩ := bdp h
          refine mG.callV0 (as := [.int (S.1 (a1 + 8) v4.toNatClampNeg), .int 1]) (st := []) (S2 := q10) (r := none) dX2_lookAt_116 mvX2_note wk52_9 rfl ht rfl (by decide) (Nat.le_of_ble_eq_true rfl) (c_X2_note ht hq10) ?_
          refine mG.iinc 4 (u := v4 + 1) (lv2 := [(4, .int (v4 + 1)), (0, .ref (t)), (1, .ref (a1)), (2, .int (a2)), (3, .int (a3))]) dX2_lookAt_119 rfl rfl (by decide) rfl ?_
          refine mG.goto 72 dX2_lookAt_122 (by decide) ?_
          refine mG.sub (lv2 := [(0, .ref (t)), (1, .ref (a1)), (2, .int (a2)), (3, .int (a3)), (4, .int (v4 + 1))]) [1, 2, 3, 4, 0] rfl ?_
          exact ih q10 (v4 + 1)  h
def f_X2_lookAt (F : Nat) (S : mS) (t : Nat) (a1 : Nat) (a2 : Int32) (a3 : Int32) : Option mS := stp (sI S t 1 (0 : Int32)) fun S1 => stp (sI S1 t 2 (0 : Int32)) fun S2 => lX2_lookAt_13 F (fun (S : mS) (v4 : Int32) => lX2_lookAt_72 F  t a1 a2 a3 F S v4) t a1 a2 a3 F S2 (0 : Int32)
set_option maxHeartbeats 4000000 in
set_option maxRecDepth 100000 in
theorem c_X2_lookAt {F : Nat} {S : mS} {t : Nat} {a1 : Nat} {a2 : Int32} {a3 : Int32} {R : mS} (ht : kd0 t = 2) (ha1 : kd0 a1 = 7) (h : f_X2_lookAt F S t a1 a2 a3 = some R) : mCt μX2_lookAt 3 0 0 E0 S [.ref (t), .ref (a1), .int (a2), .int (a3)] (mQe R none) := by
  unfold f_X2_lookAt at h
  refine mCt.of (by decide) (Nat.le_of_ble_eq_true rfl) ?_
  intro x
  refine mG.aload_n 0 dX2_lookAt_0 rfl ?_
  refine mG.iconst (v := 0) dX2_lookAt_1 rfl ?_
  obtain ⟨S1, hS1, h⟩ := stpp h
  refine mG.putI dX2_lookAt_2 mfX2_9 rfl (Or.inl rfl) ht hS1 ?_
  refine mG.aload_n 0 dX2_lookAt_5 rfl ?_
  refine mG.iconst (v := 0) dX2_lookAt_6 rfl ?_
  obtain ⟨S2, hS2, h⟩ := stpp h
  refine mG.putI dX2_lookAt_7 mfX2_15 rfl (Or.inl rfl) ht hS2 ?_
  refine mG.iconst (v := 0) dX2_lookAt_10 rfl ?_
  refine mG.istore (lv2 := [(4, .int 0), (0, .ref (t)), (1, .ref (a1)), (2, .int (a2)), (3, .int (a3))]) dX2_lookAt_11 (by decide) rfl ?_
  refine mG.sub (lv2 := [(0, .ref (t)), (1, .ref (a1)), (2, .int (a2)), (3, .int (a3)), (4, .int 0)]) [1, 2, 3, 4, 0] rfl ?_
  exact gX2_lookAt_13 ht ha1 (fun S v4 h => by exact gX2_lookAt_72 ht ha1  F S v4  h) F S2 (0 : Int32)  h
theorem dX2_countWith_0 : decode cX2_countWith 0 = .ok (.aload_n 0, 1) := by decide +kernel
theorem dX2_countWith_1 : decode cX2_countWith 1 = .ok (.getfield 72, 3) := by decide +kernel
theorem dX2_countWith_4 : decode cX2_countWith 4 = .ok (.ifCond .eq 15, 3) := by decide +kernel
theorem dX2_countWith_7 : decode cX2_countWith 7 = .ok (.aload_n 0, 1) := by decide +kernel
theorem dX2_countWith_8 : decode cX2_countWith 8 = .ok (.getfield 15, 3) := by decide +kernel
theorem dX2_countWith_11 : decode cX2_countWith 11 = .ok (.iload_n 1, 1) := by decide +kernel
theorem dX2_countWith_12 : decode cX2_countWith 12 = .ok (.ishr, 1) := by decide +kernel
theorem dX2_countWith_13 : decode cX2_countWith 13 = .ok (.iconst 1, 1) := by decide +kernel
theorem dX2_countWith_14 : decode cX2_countWith 14 = .ok (.iand, 1) := by decide +kernel
theorem dX2_countWith_15 : decode cX2_countWith 15 = .ok (.iconst 1, 1) := by decide +kernel
theorem dX2_countWith_16 : decode cX2_countWith 16 = .ok (.if_icmp .ne 5, 3) := by decide +kernel
theorem dX2_countWith_19 : decode cX2_countWith 19 = .ok (.iconst 0, 1) := by decide +kernel
theorem dX2_countWith_20 : decode cX2_countWith 20 = .ok (.ireturn, 1) := by decide +kernel
theorem dX2_countWith_21 : decode cX2_countWith 21 = .ok (.aload_n 0, 1) := by decide +kernel
theorem dX2_countWith_22 : decode cX2_countWith 22 = .ok (.getfield 9, 3) := by decide +kernel
theorem dX2_countWith_25 : decode cX2_countWith 25 = .ok (.iload_n 1, 1) := by decide +kernel
theorem dX2_countWith_26 : decode cX2_countWith 26 = .ok (.ishr, 1) := by decide +kernel
theorem dX2_countWith_27 : decode cX2_countWith 27 = .ok (.iconst 1, 1) := by decide +kernel
theorem dX2_countWith_28 : decode cX2_countWith 28 = .ok (.iand, 1) := by decide +kernel
theorem dX2_countWith_29 : decode cX2_countWith 29 = .ok (.iconst 1, 1) := by decide +kernel
theorem dX2_countWith_30 : decode cX2_countWith 30 = .ok (.if_icmp .ne 8, 3) := by decide +kernel
theorem dX2_countWith_33 : decode cX2_countWith 33 = .ok (.aload_n 0, 1) := by decide +kernel
theorem dX2_countWith_34 : decode cX2_countWith 34 = .ok (.getfield 72, 3) := by decide +kernel
theorem dX2_countWith_37 : decode cX2_countWith 37 = .ok (.ireturn, 1) := by decide +kernel
theorem dX2_countWith_38 : decode cX2_countWith 38 = .ok (.aload_n 0, 1) := by decide +kernel
theorem dX2_countWith_39 : decode cX2_countWith 39 = .ok (.getfield 65, 3) := by decide +kernel
theorem dX2_countWith_42 : decode cX2_countWith 42 = .ok (.ifCond .ne 7, 3) := by decide +kernel
theorem dX2_countWith_45 : decode cX2_countWith 45 = .ok (.iconst 0, 1) := by decide +kernel
theorem dX2_countWith_46 : decode cX2_countWith 46 = .ok (.goto 18, 3) := by decide +kernel
theorem dX2_countWith_49 : decode cX2_countWith 49 = .ok (.aload_n 0, 1) := by decide +kernel
theorem dX2_countWith_50 : decode cX2_countWith 50 = .ok (.getfield 62, 3) := by decide +kernel
theorem dX2_countWith_53 : decode cX2_countWith 53 = .ok (.iconst 1, 1) := by decide +kernel
theorem dX2_countWith_54 : decode cX2_countWith 54 = .ok (.isub, 1) := by decide +kernel
theorem dX2_countWith_55 : decode cX2_countWith 55 = .ok (.aload_n 0, 1) := by decide +kernel
theorem dX2_countWith_56 : decode cX2_countWith 56 = .ok (.getfield 65, 3) := by decide +kernel
theorem dX2_countWith_59 : decode cX2_countWith 59 = .ok (.iconst 1, 1) := by decide +kernel
theorem dX2_countWith_60 : decode cX2_countWith 60 = .ok (.isub, 1) := by decide +kernel
theorem dX2_countWith_61 : decode cX2_countWith 61 = .ok (.invokestatic 68, 3) := by decide +kernel
theorem dX2_countWith_64 : decode cX2_countWith 64 = .ok (.ireturn, 1) := by decide +kernel
def f_X2_countWith (S0 : mS) (t : Nat) (a1 : Int32) : Int32 := if (S0.1 t 0) = 0 then ((0 : Int32)) else (if (((S0.1 t 2) >>> (a1 &&& 31)) &&& (1 : Int32)) = (1 : Int32) then ((0 : Int32)) else (if (((S0.1 t 1) >>> (a1 &&& 31)) &&& (1 : Int32)) = (1 : Int32) then (S0.1 t 0) else (if (S0.1 t 4) = 0 then ((0 : Int32)) else (f_X2_choices S0 ((S0.1 t 3) - (1 : Int32)) ((S0.1 t 4) - (1 : Int32))))))
set_option maxHeartbeats 4000000 in
set_option maxRecDepth 100000 in
theorem c_X2_countWith {S0 : mS} {t : Nat} {a1 : Int32} {R : Int32} (ht : kd0 t = 2) (h : f_X2_countWith S0 t a1 = R) : mCt μX2_countWith 2 0 0 E0 S0 [.ref (t), .int (a1)] (mQe S0 (some (.int R))) := by
  unfold f_X2_countWith at h
  refine mCt.of (by decide) (Nat.le_of_ble_eq_true rfl) ?_
  intro x
  refine mG.aload_n 0 dX2_countWith_0 rfl ?_
  refine mG.get (v := .int (S0.1 t 0)) dX2_countWith_1 mfX2_72 ht rfl ?_
  refine mG.if_eq 19 dX2_countWith_4 (by decide) (fun c4 => ?_) (fun c4 => ?_)
  · replace h := itp c4 h
    refine mG.iconst (v := 0) dX2_countWith_19 rfl ?_
    subst h
    exact mG.iret dX2_countWith_20 rfl ⟨rfl, rfl, rfl⟩
  · replace h := itn c4 h
    refine mG.aload_n 0 dX2_countWith_7 rfl ?_
    refine mG.get (v := .int (S0.1 t 2)) dX2_countWith_8 mfX2_15 ht rfl ?_
    refine mG.iload_n 1 dX2_countWith_11 rfl ?_
    refine mG.ishr dX2_countWith_12 ?_
    refine mG.iconst (v := 1) dX2_countWith_13 rfl ?_
    refine mG.iand dX2_countWith_14 ?_
    refine mG.iconst (v := 1) dX2_countWith_15 rfl ?_
    refine mG.icmp_ne 21 dX2_countWith_16 (by decide) (fun c3 => ?_) (fun c3 => ?_)
    · replace h := itn c3 h
      refine mG.aload_n 0 dX2_countWith_21 rfl ?_
      refine mG.get (v := .int (S0.1 t 1)) dX2_countWith_22 mfX2_9 ht rfl ?_
      refine mG.iload_n 1 dX2_countWith_25 rfl ?_
      refine mG.ishr dX2_countWith_26 ?_
      refine mG.iconst (v := 1) dX2_countWith_27 rfl ?_
      refine mG.iand dX2_countWith_28 ?_
      refine mG.iconst (v := 1) dX2_countWith_29 rfl ?_
      refine mG.icmp_ne 38 dX2_countWith_30 (by decide) (fun c2 => ?_) (fun c2 => ?_)
      · replace h := itn c2 h
        refine mG.aload_n 0 dX2_countWith_38 rfl ?_
        refine mG.get (v := .int (S0.1 t 4)) dX2_countWith_39 mfX2_65 ht rfl ?_
        refine mG.if_ne 49 dX2_countWith_42 (by decide) (fun c1 => ?_) (fun c1 => ?_)
        · replace h := itn c1 h
          refine mG.aload_n 0 dX2_countWith_49 rfl ?_
          refine mG.get (v := .int (S0.1 t 3)) dX2_countWith_50 mfX2_62 ht rfl ?_
          refine mG.iconst (v := 1) dX2_countWith_53 rfl ?_
          refine mG.isub dX2_countWith_54 ?_
          refine mG.aload_n 0 dX2_countWith_55 rfl ?_
          refine mG.get (v := .int (S0.1 t 4)) dX2_countWith_56 mfX2_65 ht rfl ?_
          refine mG.iconst (v := 1) dX2_countWith_59 rfl ?_
          refine mG.isub dX2_countWith_60 ?_
          refine mG.callS0 (as := [.int ((S0.1 t 3) - (1 : Int32)), .int ((S0.1 t 4) - (1 : Int32))]) (st := []) (S2 := S0) (r := some (.int (f_X2_choices S0 ((S0.1 t 3) - (1 : Int32)) ((S0.1 t 4) - (1 : Int32))))) dX2_countWith_61 mbX2_choices wk52_15 wk52_14 rfl rfl (by decide) (Nat.le_of_ble_eq_true rfl) (c_X2_choices  rfl) ?_
          subst h
          exact mG.iret dX2_countWith_64 rfl ⟨rfl, rfl, rfl⟩
        · replace h := itp c1 h
          refine mG.iconst (v := 0) dX2_countWith_45 rfl ?_
          refine mG.goto 64 dX2_countWith_46 (by decide) ?_
          subst h
          exact mG.iret dX2_countWith_64 rfl ⟨rfl, rfl, rfl⟩
      · replace h := itp c2 h
        refine mG.aload_n 0 dX2_countWith_33 rfl ?_
        refine mG.get (v := .int (S0.1 t 0)) dX2_countWith_34 mfX2_72 ht rfl ?_
        subst h
        exact mG.iret dX2_countWith_37 rfl ⟨rfl, rfl, rfl⟩
    · replace h := itp c3 h
      refine mG.iconst (v := 0) dX2_countWith_19 rfl ?_
      subst h
      exact mG.iret dX2_countWith_20 rfl ⟨rfl, rfl, rfl⟩
theorem dX2_offHalf_0 : decode cX2_offHalf 0 = .ok (.iconst 2, 1) := by decide +kernel
theorem dX2_offHalf_1 : decode cX2_offHalf 1 = .ok (.aload_n 0, 1) := by decide +kernel
theorem dX2_offHalf_2 : decode cX2_offHalf 2 = .ok (.iload_n 1, 1) := by decide +kernel
theorem dX2_offHalf_3 : decode cX2_offHalf 3 = .ok (.invokevirtual 75, 3) := by decide +kernel
theorem dX2_offHalf_6 : decode cX2_offHalf 6 = .ok (.imul, 1) := by decide +kernel
theorem dX2_offHalf_7 : decode cX2_offHalf 7 = .ok (.aload_n 0, 1) := by decide +kernel
theorem dX2_offHalf_8 : decode cX2_offHalf 8 = .ok (.getfield 72, 3) := by decide +kernel
theorem dX2_offHalf_11 : decode cX2_offHalf 11 = .ok (.isub, 1) := by decide +kernel
theorem dX2_offHalf_12 : decode cX2_offHalf 12 = .ok (.invokestatic 78, 3) := by decide +kernel
theorem dX2_offHalf_15 : decode cX2_offHalf 15 = .ok (.ireturn, 1) := by decide +kernel
def f_X2_offHalf (S0 : mS) (t : Nat) (a1 : Int32) : Int32 := iabs (((2 : Int32) * (f_X2_countWith S0 t a1)) - (S0.1 t 0))
set_option maxHeartbeats 4000000 in
set_option maxRecDepth 100000 in
theorem c_X2_offHalf {S0 : mS} {t : Nat} {a1 : Int32} {R : Int32} (ht : kd0 t = 2) (h : f_X2_offHalf S0 t a1 = R) : mCt μX2_offHalf 3 0 0 E0 S0 [.ref (t), .int (a1)] (mQe S0 (some (.int R))) := by
  unfold f_X2_offHalf at h
  refine mCt.of (by decide) (Nat.le_of_ble_eq_true rfl) ?_
  intro x
  refine mG.iconst (v := 2) dX2_offHalf_0 rfl ?_
  refine mG.aload_n 0 dX2_offHalf_1 rfl ?_
  refine mG.iload_n 1 dX2_offHalf_2 rfl ?_
  refine mG.callV0 (as := [.int (a1)]) (st := [.int 2]) (S2 := S0) (r := some (.int (f_X2_countWith S0 t a1))) dX2_offHalf_3 mvX2_countWith wk52_21 rfl ht rfl (by decide) (Nat.le_of_ble_eq_true rfl) (c_X2_countWith ht rfl) ?_
  refine mG.imul dX2_offHalf_6 ?_
  refine mG.aload_n 0 dX2_offHalf_7 rfl ?_
  refine mG.get (v := .int (S0.1 t 0)) dX2_offHalf_8 mfX2_72 ht rfl ?_
  refine mG.isub dX2_offHalf_11 ?_
  refine mG.mabs dX2_offHalf_12 wk54_21 (by decide) (Nat.le_of_ble_eq_true rfl) (Nat.le_refl _) (Nat.le_refl _) ?_
  subst h
  exact mG.iret dX2_offHalf_15 rfl ⟨rfl, rfl, rfl⟩
theorem dX2_inAll_0 : decode cX2_inAll 0 = .ok (.iconst 0, 1) := by decide +kernel
theorem dX2_inAll_1 : decode cX2_inAll 1 = .ok (.istore_n 1, 1) := by decide +kernel
theorem dX2_inAll_2 : decode cX2_inAll 2 = .ok (.iconst 0, 1) := by decide +kernel
theorem dX2_inAll_3 : decode cX2_inAll 3 = .ok (.istore_n 2, 1) := by decide +kernel
theorem dX2_inAll_4 : decode cX2_inAll 4 = .ok (.iload_n 2, 1) := by decide +kernel
theorem dX2_inAll_5 : decode cX2_inAll 5 = .ok (.bipush 20, 2) := by decide +kernel
theorem dX2_inAll_7 : decode cX2_inAll 7 = .ok (.if_icmp .ge 34, 3) := by decide +kernel
theorem dX2_inAll_10 : decode cX2_inAll 10 = .ok (.aload_n 0, 1) := by decide +kernel
theorem dX2_inAll_11 : decode cX2_inAll 11 = .ok (.getfield 72, 3) := by decide +kernel
theorem dX2_inAll_14 : decode cX2_inAll 14 = .ok (.ifCond .le 21, 3) := by decide +kernel
theorem dX2_inAll_17 : decode cX2_inAll 17 = .ok (.aload_n 0, 1) := by decide +kernel
theorem dX2_inAll_18 : decode cX2_inAll 18 = .ok (.iload_n 2, 1) := by decide +kernel
theorem dX2_inAll_19 : decode cX2_inAll 19 = .ok (.invokevirtual 75, 3) := by decide +kernel
theorem dX2_inAll_22 : decode cX2_inAll 22 = .ok (.aload_n 0, 1) := by decide +kernel
theorem dX2_inAll_23 : decode cX2_inAll 23 = .ok (.getfield 72, 3) := by decide +kernel
theorem dX2_inAll_26 : decode cX2_inAll 26 = .ok (.if_icmp .ne 9, 3) := by decide +kernel
theorem dX2_inAll_29 : decode cX2_inAll 29 = .ok (.iload_n 1, 1) := by decide +kernel
theorem dX2_inAll_30 : decode cX2_inAll 30 = .ok (.iconst 1, 1) := by decide +kernel
theorem dX2_inAll_31 : decode cX2_inAll 31 = .ok (.iload_n 2, 1) := by decide +kernel
theorem dX2_inAll_32 : decode cX2_inAll 32 = .ok (.ishl, 1) := by decide +kernel
theorem dX2_inAll_33 : decode cX2_inAll 33 = .ok (.ior, 1) := by decide +kernel
theorem dX2_inAll_34 : decode cX2_inAll 34 = .ok (.istore_n 1, 1) := by decide +kernel
theorem dX2_inAll_35 : decode cX2_inAll 35 = .ok (.iinc 2 1, 3) := by decide +kernel
theorem dX2_inAll_38 : decode cX2_inAll 38 = .ok (.goto (-34), 3) := by decide +kernel
theorem dX2_inAll_41 : decode cX2_inAll 41 = .ok (.iload_n 1, 1) := by decide +kernel
theorem dX2_inAll_42 : decode cX2_inAll 42 = .ok (.ireturn, 1) := by decide +kernel
def lX2_inAll_4 (F : Nat)  (t : Nat) : Nat → mS → Int32 → Int32 → Option Int32
  | 0, _, _, _ => none
  | n + 1, S0, v1, v2 => if (20 : Int32) ≤ v2 then (some v1) else (if (S0.1 t 0) ≤ 0 then (lX2_inAll_4 F  t n S0 v1 (v2 + 1)) else (if (f_X2_countWith S0 t v2) = (S0.1 t 0) then (lX2_inAll_4 F  t n S0 (v1 ||| ((1 : Int32) <<< (v2 &&& 31))) (v2 + 1)) else (lX2_inAll_4 F  t n S0 v1 (v2 + 1))))
set_option maxHeartbeats 4000000 in
set_option maxRecDepth 100000 in
theorem gX2_inAll_4 {x : mX} {F : Nat} {t : Nat} {S0 : mS}   {R : Int32} (ht : kd0 t = 2)  : ∀ (n : Nat) (v1 : Int32) (v2 : Int32), lX2_inAll_4 F  t n S0 v1 v2 = some R → mG x μX2_inAll 3 0 0 (mQe S0 (some (.int R))) 0 0 E0 S0 4 [(0, .ref (t)), (1, .int (v1)), (2, .int (v2))] [] := by
  intro n
  induction n with
  | zero =>
    intro v1 v2 h
    cases h
  | succ n ih =>
    intro v1 v2 h
    unfold lX2_inAll_4 at h
    refine mG.iload_n 2 dX2_inAll_4 rfl ?_
    refine mG.bipush (v := 20) dX2_inAll_5 (by decide) ?_
    refine mG.icmp_ge 41 dX2_inAll_7 (by decide) (fun c3 => ?_) (fun c3 => ?_)
    · replace h := itp c3 h
      refine mG.iload_n 1 dX2_inAll_41 rfl ?_
      obtain rfl := Option.some.inj h
      exact mG.iret dX2_inAll_42 rfl ⟨rfl, rfl, rfl⟩
    · replace h := itn c3 h
      refine mG.aload_n 0 dX2_inAll_10 rfl ?_
      refine mG.get (v := .int (S0.1 t 0)) dX2_inAll_11 mfX2_72 ht rfl ?_
      refine mG.if_le 35 dX2_inAll_14 (by decide) (fun c2 => ?_) (fun c2 => ?_)
      · replace h := itp c2 h
        refine mG.iinc 2 (u := v2 + 1) (lv2 := [(2, .int (v2 + 1)), (0, .ref (t)), (1, .int (v1))]) dX2_inAll_35 rfl rfl (by decide) rfl ?_
        refine mG.goto 4 dX2_inAll_38 (by decide) ?_
        refine mG.sub (lv2 := [(0, .ref (t)), (1, .int (v1)), (2, .int (v2 + 1))]) [1, 2, 0] rfl ?_
        exact ih  v1 (v2 + 1)  h
      · replace h := itn c2 h
        refine mG.aload_n 0 dX2_inAll_17 rfl ?_
        refine mG.iload_n 2 dX2_inAll_18 rfl ?_
        refine mG.callV0 (as := [.int (v2)]) (st := []) (S2 := S0) (r := some (.int (f_X2_countWith S0 t v2))) dX2_inAll_19 mvX2_countWith wk52_21 rfl ht rfl (by decide) (Nat.le_of_ble_eq_true rfl) (c_X2_countWith ht rfl) ?_
        refine mG.aload_n 0 dX2_inAll_22 rfl ?_
        refine mG.get (v := .int (S0.1 t 0)) dX2_inAll_23 mfX2_72 ht rfl ?_
        refine mG.icmp_ne 35 dX2_inAll_26 (by decide) (fun c1 => ?_) (fun c1 => ?_)
        · replace h := itn c1 h
          refine mG.iinc 2 (u := v2 + 1) (lv2 := [(2, .int (v2 + 1)), (0, .ref (t)), (1, .int (v1))]) dX2_inAll_35 rfl rfl (by decide) rfl ?_
          refine mG.goto 4 dX2_inAll_38 (by decide) ?_
          refine mG.sub (lv2 := [(0, .ref (t)), (1, .int (v1)), (2, .int (v2 + 1))]) [1, 2, 0] rfl ?_
          exact ih  v1 (v2 + 1)  h
        · replace h := itp c1 h
          refine mG.iload_n 1 dX2_inAll_29 rfl ?_
          refine mG.iconst (v := 1) dX2_inAll_30 rfl ?_
          refine mG.iload_n 2 dX2_inAll_31 rfl ?_
          refine mG.ishl dX2_inAll_32 ?_
          refine mG.ior dX2_inAll_33 ?_
          refine mG.istore_n (lv2 := [(1, .int (v1 ||| ((1 : Int32) <<< (v2 &&& 31)))), (0, .ref (t)), (2, .int (v2))]) dX2_inAll_34 rfl (by decide) rfl ?_
          refine mG.iinc 2 (u := v2 + 1) (lv2 := [(2, .int (v2 + 1)), (1, .int (v1 ||| ((1 : Int32) <<< (v2 &&& 31)))), (0, .ref (t))]) dX2_inAll_35 rfl rfl (by decide) rfl ?_
          refine mG.goto 4 dX2_inAll_38 (by decide) ?_
          refine mG.sub (lv2 := [(0, .ref (t)), (1, .int (v1 ||| ((1 : Int32) <<< (v2 &&& 31)))), (2, .int (v2 + 1))]) [2, 1, 0] rfl ?_
          exact ih  (v1 ||| ((1 : Int32) <<< (v2 &&& 31))) (v2 + 1)  h
def f_X2_inAll (F : Nat) (S0 : mS) (t : Nat) : Option Int32 := lX2_inAll_4 F  t F S0 (0 : Int32) (0 : Int32)
set_option maxHeartbeats 4000000 in
set_option maxRecDepth 100000 in
theorem c_X2_inAll {F : Nat} {S0 : mS} {t : Nat} {R : Int32} (ht : kd0 t = 2) (h : f_X2_inAll F S0 t = some R) : mCt μX2_inAll 3 0 0 E0 S0 [.ref (t)] (mQe S0 (some (.int R))) := by
  unfold f_X2_inAll at h
  refine mCt.of (by decide) (Nat.le_of_ble_eq_true rfl) ?_
  intro x
  refine mG.iconst (v := 0) dX2_inAll_0 rfl ?_
  refine mG.istore_n (lv2 := [(1, .int 0), (0, .ref (t))]) dX2_inAll_1 rfl (by decide) rfl ?_
  refine mG.iconst (v := 0) dX2_inAll_2 rfl ?_
  refine mG.istore_n (lv2 := [(2, .int 0), (1, .int 0), (0, .ref (t))]) dX2_inAll_3 rfl (by decide) rfl ?_
  refine mG.sub (lv2 := [(0, .ref (t)), (1, .int 0), (2, .int 0)]) [2, 1, 0] rfl ?_
  exact gX2_inAll_4 ht  F  (0 : Int32) (0 : Int32)  h
theorem dX7_copyFrom_0 : decode cX7_copyFrom 0 = .ok (.aload_n 0, 1) := by decide +kernel
theorem dX7_copyFrom_1 : decode cX7_copyFrom 1 = .ok (.getfield 12, 3) := by decide +kernel
theorem dX7_copyFrom_4 : decode cX7_copyFrom 4 = .ok (.aload_n 1, 1) := by decide +kernel
theorem dX7_copyFrom_5 : decode cX7_copyFrom 5 = .ok (.getfield 12, 3) := by decide +kernel
theorem dX7_copyFrom_8 : decode cX7_copyFrom 8 = .ok (.invokevirtual 42, 3) := by decide +kernel
theorem dX7_copyFrom_11 : decode cX7_copyFrom 11 = .ok (.iconst 0, 1) := by decide +kernel
theorem dX7_copyFrom_12 : decode cX7_copyFrom 12 = .ok (.istore_n 2, 1) := by decide +kernel
theorem dX7_copyFrom_13 : decode cX7_copyFrom 13 = .ok (.iload_n 2, 1) := by decide +kernel
theorem dX7_copyFrom_14 : decode cX7_copyFrom 14 = .ok (.bipush 30, 2) := by decide +kernel
theorem dX7_copyFrom_16 : decode cX7_copyFrom 16 = .ok (.if_icmp .ge 24, 3) := by decide +kernel
theorem dX7_copyFrom_19 : decode cX7_copyFrom 19 = .ok (.aload_n 0, 1) := by decide +kernel
theorem dX7_copyFrom_20 : decode cX7_copyFrom 20 = .ok (.getfield 18, 3) := by decide +kernel
theorem dX7_copyFrom_23 : decode cX7_copyFrom 23 = .ok (.iload_n 2, 1) := by decide +kernel
theorem dX7_copyFrom_24 : decode cX7_copyFrom 24 = .ok (.aaload, 1) := by decide +kernel
theorem dX7_copyFrom_25 : decode cX7_copyFrom 25 = .ok (.aload_n 1, 1) := by decide +kernel
theorem dX7_copyFrom_26 : decode cX7_copyFrom 26 = .ok (.getfield 18, 3) := by decide +kernel
theorem dX7_copyFrom_29 : decode cX7_copyFrom 29 = .ok (.iload_n 2, 1) := by decide +kernel
theorem dX7_copyFrom_30 : decode cX7_copyFrom 30 = .ok (.aaload, 1) := by decide +kernel
theorem dX7_copyFrom_31 : decode cX7_copyFrom 31 = .ok (.invokevirtual 42, 3) := by decide +kernel
theorem dX7_copyFrom_34 : decode cX7_copyFrom 34 = .ok (.iinc 2 1, 3) := by decide +kernel
theorem dX7_copyFrom_37 : decode cX7_copyFrom 37 = .ok (.goto (-24), 3) := by decide +kernel
theorem dX7_copyFrom_40 : decode cX7_copyFrom 40 = .ok (.aload_n 0, 1) := by decide +kernel
theorem dX7_copyFrom_41 : decode cX7_copyFrom 41 = .ok (.aload_n 1, 1) := by decide +kernel
theorem dX7_copyFrom_42 : decode cX7_copyFrom 42 = .ok (.getfield 46, 3) := by decide +kernel
theorem dX7_copyFrom_45 : decode cX7_copyFrom 45 = .ok (.putfield 46, 3) := by decide +kernel
theorem dX7_copyFrom_48 : decode cX7_copyFrom 48 = .ok (.aload_n 0, 1) := by decide +kernel
theorem dX7_copyFrom_49 : decode cX7_copyFrom 49 = .ok (.aload_n 1, 1) := by decide +kernel
theorem dX7_copyFrom_50 : decode cX7_copyFrom 50 = .ok (.getfield 49, 3) := by decide +kernel
theorem dX7_copyFrom_53 : decode cX7_copyFrom 53 = .ok (.putfield 49, 3) := by decide +kernel
theorem dX7_copyFrom_56 : decode cX7_copyFrom 56 = .ok (.aload_n 0, 1) := by decide +kernel
theorem dX7_copyFrom_57 : decode cX7_copyFrom 57 = .ok (.aload_n 1, 1) := by decide +kernel
theorem dX7_copyFrom_58 : decode cX7_copyFrom 58 = .ok (.getfield 52, 3) := by decide +kernel
theorem dX7_copyFrom_61 : decode cX7_copyFrom 61 = .ok (.putfield 52, 3) := by decide +kernel
theorem dX7_copyFrom_64 : decode cX7_copyFrom 64 = .ok (.aload_n 0, 1) := by decide +kernel
theorem dX7_copyFrom_65 : decode cX7_copyFrom 65 = .ok (.aload_n 1, 1) := by decide +kernel
theorem dX7_copyFrom_66 : decode cX7_copyFrom 66 = .ok (.getfield 22, 3) := by decide +kernel
theorem dX7_copyFrom_69 : decode cX7_copyFrom 69 = .ok (.putfield 22, 3) := by decide +kernel
theorem dX7_copyFrom_72 : decode cX7_copyFrom 72 = .ok (.aload_n 1, 1) := by decide +kernel
theorem dX7_copyFrom_73 : decode cX7_copyFrom 73 = .ok (.getfield 26, 3) := by decide +kernel
theorem dX7_copyFrom_76 : decode cX7_copyFrom 76 = .ok (.iconst 0, 1) := by decide +kernel
theorem dX7_copyFrom_77 : decode cX7_copyFrom 77 = .ok (.aload_n 0, 1) := by decide +kernel
theorem dX7_copyFrom_78 : decode cX7_copyFrom 78 = .ok (.getfield 26, 3) := by decide +kernel
theorem dX7_copyFrom_81 : decode cX7_copyFrom 81 = .ok (.iconst 0, 1) := by decide +kernel
theorem dX7_copyFrom_82 : decode cX7_copyFrom 82 = .ok (.bipush 8, 2) := by decide +kernel
theorem dX7_copyFrom_84 : decode cX7_copyFrom 84 = .ok (.invokestatic 55, 3) := by decide +kernel
theorem dX7_copyFrom_87 : decode cX7_copyFrom 87 = .ok (.aload_n 1, 1) := by decide +kernel
theorem dX7_copyFrom_88 : decode cX7_copyFrom 88 = .ok (.getfield 30, 3) := by decide +kernel
theorem dX7_copyFrom_91 : decode cX7_copyFrom 91 = .ok (.iconst 0, 1) := by decide +kernel
theorem dX7_copyFrom_92 : decode cX7_copyFrom 92 = .ok (.aload_n 0, 1) := by decide +kernel
theorem dX7_copyFrom_93 : decode cX7_copyFrom 93 = .ok (.getfield 30, 3) := by decide +kernel
theorem dX7_copyFrom_96 : decode cX7_copyFrom 96 = .ok (.iconst 0, 1) := by decide +kernel
theorem dX7_copyFrom_97 : decode cX7_copyFrom 97 = .ok (.bipush 8, 2) := by decide +kernel
theorem dX7_copyFrom_99 : decode cX7_copyFrom 99 = .ok (.invokestatic 55, 3) := by decide +kernel
theorem dX7_copyFrom_102 : decode cX7_copyFrom 102 = .ok (.aload_n 1, 1) := by decide +kernel
theorem dX7_copyFrom_103 : decode cX7_copyFrom 103 = .ok (.getfield 33, 3) := by decide +kernel
theorem dX7_copyFrom_106 : decode cX7_copyFrom 106 = .ok (.iconst 0, 1) := by decide +kernel
theorem dX7_copyFrom_107 : decode cX7_copyFrom 107 = .ok (.aload_n 0, 1) := by decide +kernel
theorem dX7_copyFrom_108 : decode cX7_copyFrom 108 = .ok (.getfield 33, 3) := by decide +kernel
theorem dX7_copyFrom_111 : decode cX7_copyFrom 111 = .ok (.iconst 0, 1) := by decide +kernel
theorem dX7_copyFrom_112 : decode cX7_copyFrom 112 = .ok (.bipush 8, 2) := by decide +kernel
theorem dX7_copyFrom_114 : decode cX7_copyFrom 114 = .ok (.invokestatic 55, 3) := by decide +kernel
theorem dX7_copyFrom_117 : decode cX7_copyFrom 117 = .ok (.aload_n 0, 1) := by decide +kernel
theorem dX7_copyFrom_118 : decode cX7_copyFrom 118 = .ok (.aload_n 1, 1) := by decide +kernel
theorem dX7_copyFrom_119 : decode cX7_copyFrom 119 = .ok (.getfield 61, 3) := by decide +kernel
theorem dX7_copyFrom_122 : decode cX7_copyFrom 122 = .ok (.putfield 61, 3) := by decide +kernel
theorem dX7_copyFrom_125 : decode cX7_copyFrom 125 = .ok (.aload_n 1, 1) := by decide +kernel
theorem dX7_copyFrom_126 : decode cX7_copyFrom 126 = .ok (.getfield 36, 3) := by decide +kernel
theorem dX7_copyFrom_129 : decode cX7_copyFrom 129 = .ok (.iconst 0, 1) := by decide +kernel
theorem dX7_copyFrom_130 : decode cX7_copyFrom 130 = .ok (.aload_n 0, 1) := by decide +kernel
theorem dX7_copyFrom_131 : decode cX7_copyFrom 131 = .ok (.getfield 36, 3) := by decide +kernel
theorem dX7_copyFrom_134 : decode cX7_copyFrom 134 = .ok (.iconst 0, 1) := by decide +kernel
theorem dX7_copyFrom_135 : decode cX7_copyFrom 135 = .ok (.bipush 8, 2) := by decide +kernel
theorem dX7_copyFrom_137 : decode cX7_copyFrom 137 = .ok (.invokestatic 55, 3) := by decide +kernel
theorem dX7_copyFrom_140 : decode cX7_copyFrom 140 = .ok (.aload_n 1, 1) := by decide +kernel
theorem dX7_copyFrom_141 : decode cX7_copyFrom 141 = .ok (.getfield 39, 3) := by decide +kernel
theorem dX7_copyFrom_144 : decode cX7_copyFrom 144 = .ok (.iconst 0, 1) := by decide +kernel
theorem dX7_copyFrom_145 : decode cX7_copyFrom 145 = .ok (.aload_n 0, 1) := by decide +kernel
theorem dX7_copyFrom_146 : decode cX7_copyFrom 146 = .ok (.getfield 39, 3) := by decide +kernel
theorem dX7_copyFrom_149 : decode cX7_copyFrom 149 = .ok (.iconst 0, 1) := by decide +kernel
theorem dX7_copyFrom_150 : decode cX7_copyFrom 150 = .ok (.bipush 8, 2) := by decide +kernel
theorem dX7_copyFrom_152 : decode cX7_copyFrom 152 = .ok (.invokestatic 55, 3) := by decide +kernel
theorem dX7_copyFrom_155 : decode cX7_copyFrom 155 = .ok (.aload_n 0, 1) := by decide +kernel
theorem dX7_copyFrom_156 : decode cX7_copyFrom 156 = .ok (.aload_n 1, 1) := by decide +kernel
theorem dX7_copyFrom_157 : decode cX7_copyFrom 157 = .ok (.getfield 64, 3) := by decide +kernel
theorem dX7_copyFrom_160 : decode cX7_copyFrom 160 = .ok (.putfield 64, 3) := by decide +kernel
theorem dX7_copyFrom_163 : decode cX7_copyFrom 163 = .ok (.return_, 1) := by decide +kernel
def lX7_copyFrom_13 (F : Nat)  (t : Nat) (a1 : Nat) : Nat → mS → Int32 → Option mS
  | 0, _, _ => none
  | n + 1, S, v2 => if (30 : Int32) ≤ v2 then (stp (sI S t 2 (S.1 a1 2)) fun S1 => stp (sI S1 t 3 (S1.1 a1 3)) fun S2 => stp (sI S2 t 4 (S2.1 a1 4)) fun S3 => stp (sI S3 t 5 (S3.1 a1 5)) fun S4 => ck (cpo (0 : Int32) (0 : Int32) (8 : Int32) 8 8) (stp (sC S4 (a1 + 7) (t + 7) (0 : Int32).toNatClampNeg (0 : Int32).toNatClampNeg (8 : Int32).toNatClampNeg) fun S6 => ck (cpo (0 : Int32) (0 : Int32) (8 : Int32) 8 8) (stp (sC S6 (a1 + 8) (t + 8) (0 : Int32).toNatClampNeg (0 : Int32).toNatClampNeg (8 : Int32).toNatClampNeg) fun S8 => ck (cpo (0 : Int32) (0 : Int32) (8 : Int32) 8 8) (stp (sC S8 (a1 + 9) (t + 9) (0 : Int32).toNatClampNeg (0 : Int32).toNatClampNeg (8 : Int32).toNatClampNeg) fun S10 => stp (sI S10 t 9 (S10.1 a1 9)) fun S11 => ck (cpo (0 : Int32) (0 : Int32) (8 : Int32) 8 8) (stp (sC S11 (a1 + 10) (t + 10) (0 : Int32).toNatClampNeg (0 : Int32).toNatClampNeg (8 : Int32).toNatClampNeg) fun S13 => ck (cpo (0 : Int32) (0 : Int32) (8 : Int32) 8 8) (stp (sC S13 (a1 + 11) (t + 11) (0 : Int32).toNatClampNeg (0 : Int32).toNatClampNeg (8 : Int32).toNatClampNeg) fun S15 => stp (sI S15 t 12 (S15.1 a1 12)) fun S16 => some S16)))))) else (ck (inb v2 30) (ck (inb v2 30) (bd (f_X6_copyFrom F S (t + 6 + 6 + 5 * v2.toNatClampNeg) (a1 + 6 + 6 + 5 * v2.toNatClampNeg)) fun q19 => lX7_copyFrom_13 F  t a1 n q19 (v2 + 1))))
set_option maxHeartbeats 4000000 in
set_option maxRecDepth 100000 in
theorem gX7_copyFrom_13 {x : mX} {F : Nat} {t : Nat} {a1 : Nat}   {R : mS} (ht : kd0 t = 7) (ha1 : kd0 a1 = 7)  : ∀ (n : Nat) (S : mS) (v2 : Int32), lX7_copyFrom_13 F  t a1 n S v2 = some R → mG x μX7_copyFrom 3 0 0 (mQe R none) 0 0 E0 S 13 [(0, .ref (t)), (1, .ref (a1)), (2, .int (v2))] [] := by
  intro n
  induction n with
  | zero =>
    intro S v2 h
    cases h
  | succ n ih =>
    intro S v2 h
    unfold lX7_copyFrom_13 at h
    refine mG.iload_n 2 dX7_copyFrom_13 rfl ?_
    refine mG.bipush (v := 30) dX7_copyFrom_14 (by decide) ?_
    refine mG.icmp_ge 40 dX7_copyFrom_16 (by decide) (fun c20 => ?_) (fun c20 => ?_)
    · replace h := itp c20 h
      refine mG.aload_n 0 dX7_copyFrom_40 rfl ?_
      refine mG.aload_n 1 dX7_copyFrom_41 rfl ?_
      refine mG.get (v := .int (S.1 a1 2)) dX7_copyFrom_42 mfX7_46 ha1 rfl ?_
      obtain ⟨S1, hS1, h⟩ := stpp h
      refine mG.putI dX7_copyFrom_45 mfX7_46 rfl (Or.inl rfl) ht hS1 ?_
      refine mG.aload_n 0 dX7_copyFrom_48 rfl ?_
      refine mG.aload_n 1 dX7_copyFrom_49 rfl ?_
      refine mG.get (v := .int (S1.1 a1 3)) dX7_copyFrom_50 mfX7_49 ha1 rfl ?_
      obtain ⟨S2, hS2, h⟩ := stpp h
      refine mG.putI dX7_copyFrom_53 mfX7_49 rfl (Or.inl rfl) ht hS2 ?_
      refine mG.aload_n 0 dX7_copyFrom_56 rfl ?_
      refine mG.aload_n 1 dX7_copyFrom_57 rfl ?_
      refine mG.get (v := .int (S2.1 a1 4)) dX7_copyFrom_58 mfX7_52 ha1 rfl ?_
      obtain ⟨S3, hS3, h⟩ := stpp h
      refine mG.putI dX7_copyFrom_61 mfX7_52 rfl (Or.inl rfl) ht hS3 ?_
      refine mG.aload_n 0 dX7_copyFrom_64 rfl ?_
      refine mG.aload_n 1 dX7_copyFrom_65 rfl ?_
      refine mG.get (v := .int (S3.1 a1 5)) dX7_copyFrom_66 mfX7_22 ha1 rfl ?_
      obtain ⟨S4, hS4, h⟩ := stpp h
      refine mG.putI dX7_copyFrom_69 mfX7_22 rfl (Or.inl rfl) ht hS4 ?_
      refine mG.aload_n 1 dX7_copyFrom_72 rfl ?_
      refine mG.get (v := .ref (a1 + 7)) dX7_copyFrom_73 mfX7_26 ha1 (lr7_seenHouse ha1) ?_
      refine mG.iconst (v := 0) dX7_copyFrom_76 rfl ?_
      refine mG.aload_n 0 dX7_copyFrom_77 rfl ?_
      refine mG.get (v := .ref (t + 7)) dX7_copyFrom_78 mfX7_26 ht (lr7_seenHouse ht) ?_
      refine mG.iconst (v := 0) dX7_copyFrom_81 rfl ?_
      refine mG.bipush (v := 8) dX7_copyFrom_82 (by decide) ?_
      obtain ⟨b5, h⟩ := ckp h
      obtain ⟨S6, hS6, h⟩ := stpp h
      refine mG.acopy dX7_copyFrom_84 wk65_6 (by decide) (Nat.le_of_ble_eq_true rfl) (lk7_seenHouse ha1) (lk7_seenHouse ht) (cpop b5).1 (cpop b5).2.1 (cpop b5).2.2.1 (by rw [show E0.2.2.1 _ = _ from (ll7_seenHouse ha1)]; exact (cpop b5).2.2.2.1) (by rw [show E0.2.2.1 _ = _ from (ll7_seenHouse ht)]; exact (cpop b5).2.2.2.2) hS6 ?_
      refine mG.aload_n 1 dX7_copyFrom_87 rfl ?_
      refine mG.get (v := .ref (a1 + 8)) dX7_copyFrom_88 mfX7_30 ha1 (lr7_seenDate ha1) ?_
      refine mG.iconst (v := 0) dX7_copyFrom_91 rfl ?_
      refine mG.aload_n 0 dX7_copyFrom_92 rfl ?_
      refine mG.get (v := .ref (t + 8)) dX7_copyFrom_93 mfX7_30 ht (lr7_seenDate ht) ?_
      refine mG.iconst (v := 0) dX7_copyFrom_96 rfl ?_
      refine mG.bipush (v := 8) dX7_copyFrom_97 (by decide) ?_
      obtain ⟨b7, h⟩ := ckp h
      obtain ⟨S8, hS8, h⟩ := stpp h
      refine mG.acopy dX7_copyFrom_99 wk65_6 (by decide) (Nat.le_of_ble_eq_true rfl) (lk7_seenDate ha1) (lk7_seenDate ht) (cpop b7).1 (cpop b7).2.1 (cpop b7).2.2.1 (by rw [show E0.2.2.1 _ = _ from (ll7_seenDate ha1)]; exact (cpop b7).2.2.2.1) (by rw [show E0.2.2.1 _ = _ from (ll7_seenDate ht)]; exact (cpop b7).2.2.2.2) hS8 ?_
      refine mG.aload_n 1 dX7_copyFrom_102 rfl ?_
      refine mG.get (v := .ref (a1 + 9)) dX7_copyFrom_103 mfX7_33 ha1 (lr7_seenShut ha1) ?_
      refine mG.iconst (v := 0) dX7_copyFrom_106 rfl ?_
      refine mG.aload_n 0 dX7_copyFrom_107 rfl ?_
      refine mG.get (v := .ref (t + 9)) dX7_copyFrom_108 mfX7_33 ht (lr7_seenShut ht) ?_
      refine mG.iconst (v := 0) dX7_copyFrom_111 rfl ?_
      refine mG.bipush (v := 8) dX7_copyFrom_112 (by decide) ?_
      obtain ⟨b9, h⟩ := ckp h
      obtain ⟨S10, hS10, h⟩ := stpp h
      refine mG.acopy dX7_copyFrom_114 wk65_6 (by decide) (Nat.le_of_ble_eq_true rfl) (lk7_seenShut ha1) (lk7_seenShut ht) (cpop b9).1 (cpop b9).2.1 (cpop b9).2.2.1 (by rw [show E0.2.2.1 _ = _ from (ll7_seenShut ha1)]; exact (cpop b9).2.2.2.1) (by rw [show E0.2.2.1 _ = _ from (ll7_seenShut ht)]; exact (cpop b9).2.2.2.2) hS10 ?_
      refine mG.aload_n 0 dX7_copyFrom_117 rfl ?_
      refine mG.aload_n 1 dX7_copyFrom_118 rfl ?_
      refine mG.get (v := .int (S10.1 a1 9)) dX7_copyFrom_119 mfX7_61 ha1 rfl ?_
      obtain ⟨S11, hS11, h⟩ := stpp h
      refine mG.putI dX7_copyFrom_122 mfX7_61 rfl (Or.inl rfl) ht hS11 ?_
      refine mG.aload_n 1 dX7_copyFrom_125 rfl ?_
      refine mG.get (v := .ref (a1 + 10)) dX7_copyFrom_126 mfX7_36 ha1 (lr7_gossipFrom ha1) ?_
      refine mG.iconst (v := 0) dX7_copyFrom_129 rfl ?_
      refine mG.aload_n 0 dX7_copyFrom_130 rfl ?_
      refine mG.get (v := .ref (t + 10)) dX7_copyFrom_131 mfX7_36 ht (lr7_gossipFrom ht) ?_
      refine mG.iconst (v := 0) dX7_copyFrom_134 rfl ?_
      refine mG.bipush (v := 8) dX7_copyFrom_135 (by decide) ?_
      obtain ⟨b12, h⟩ := ckp h
      obtain ⟨S13, hS13, h⟩ := stpp h
      refine mG.acopy dX7_copyFrom_137 wk65_6 (by decide) (Nat.le_of_ble_eq_true rfl) (lk7_gossipFrom ha1) (lk7_gossipFrom ht) (cpop b12).1 (cpop b12).2.1 (cpop b12).2.2.1 (by rw [show E0.2.2.1 _ = _ from (ll7_gossipFrom ha1)]; exact (cpop b12).2.2.2.1) (by rw [show E0.2.2.1 _ = _ from (ll7_gossipFrom ht)]; exact (cpop b12).2.2.2.2) hS13 ?_
      refine mG.aload_n 1 dX7_copyFrom_140 rfl ?_
      refine mG.get (v := .ref (a1 + 11)) dX7_copyFrom_141 mfX7_39 ha1 (lr7_gossipTo ha1) ?_
      refine mG.iconst (v := 0) dX7_copyFrom_144 rfl ?_
      refine mG.aload_n 0 dX7_copyFrom_145 rfl ?_
      refine mG.get (v := .ref (t + 11)) dX7_copyFrom_146 mfX7_39 ht (lr7_gossipTo ht) ?_
      refine mG.iconst (v := 0) dX7_copyFrom_149 rfl ?_
      refine mG.bipush (v := 8) dX7_copyFrom_150 (by decide) ?_
      obtain ⟨b14, h⟩ := ckp h
      obtain ⟨S15, hS15, h⟩ := stpp h
      refine mG.acopy dX7_copyFrom_152 wk65_6 (by decide) (Nat.le_of_ble_eq_true rfl) (lk7_gossipTo ha1) (lk7_gossipTo ht) (cpop b14).1 (cpop b14).2.1 (cpop b14).2.2.1 (by rw [show E0.2.2.1 _ = _ from (ll7_gossipTo ha1)]; exact (cpop b14).2.2.2.1) (by rw [show E0.2.2.1 _ = _ from (ll7_gossipTo ht)]; exact (cpop b14).2.2.2.2) hS15 ?_
      refine mG.aload_n 0 dX7_copyFrom_155 rfl ?_
      refine mG.aload_n 1 dX7_copyFrom_156 rfl ?_
      refine mG.get (v := .int (S15.1 a1 12)) dX7_copyFrom_157 mfX7_64 ha1 rfl ?_
      obtain ⟨S16, hS16, h⟩ := stpp h
      refine mG.putI dX7_copyFrom_160 mfX7_64 rfl (Or.inl rfl) ht hS16 ?_
      obtain rfl := Option.some.inj h
      exact mG.vret dX7_copyFrom_163 rfl ⟨rfl, rfl, rfl⟩
    · replace h := itn c20 h
      refine mG.aload_n 0 dX7_copyFrom_19 rfl ?_
      refine mG.get (v := .ref (t + 6)) dX7_copyFrom_20 mfX7_18 ht (lr7_steps ht) ?_
      refine mG.iload_n 2 dX7_copyFrom_23 rfl ?_
      obtain ⟨b17, h⟩ := ckp h
      refine mG.aald13 (u := t + 6 + 6 + 5 * v2.toNatClampNeg) dX7_copyFrom_24 (lk7_steps ht) (ll7_steps ht) (inbp b17) (la13 (lk7_steps ht) _ (inbN (inbp b17))) ?_
      refine mG.aload_n 1 dX7_copyFrom_25 rfl ?_
      refine mG.get (v := .ref (a1 + 6)) dX7_copyFrom_26 mfX7_18 ha1 (lr7_steps ha1) ?_
      refine mG.iload_n 2 dX7_copyFrom_29 rfl ?_
      obtain ⟨b18, h⟩ := ckp h
      refine mG.aald13 (u := a1 + 6 + 6 + 5 * v2.toNatClampNeg) dX7_copyFrom_30 (lk7_steps ha1) (ll7_steps ha1) (inbp b18) (la13 (lk7_steps ha1) _ (inbN (inbp b18))) ?_
      obtain ⟨q19, hq19, h⟩ := bdp h
      refine mG.callV0 (as := [.ref (a1 + 6 + 6 + 5 * v2.toNatClampNeg)]) (st := []) (S2 := q19) (r := none) dX7_copyFrom_31 mvX6_copyFrom wk28_2 rfl (lay13 (lk7_steps ht) (inbN (inbp b17))) rfl (by decide) (Nat.le_of_ble_eq_true rfl) (c_X6_copyFrom (lay13 (lk7_steps ht) (inbN (inbp b17))) (lay13 (lk7_steps ha1) (inbN (inbp b18))) hq19) ?_
      refine mG.iinc 2 (u := v2 + 1) (lv2 := [(2, .int (v2 + 1)), (0, .ref (t)), (1, .ref (a1))]) dX7_copyFrom_34 rfl rfl (by decide) rfl ?_
      refine mG.goto 13 dX7_copyFrom_37 (by decide) ?_
      refine mG.sub (lv2 := [(0, .ref (t)), (1, .ref (a1)), (2, .int (v2 + 1))]) [1, 2, 0] rfl ?_
      exact ih q19 (v2 + 1)  h
def f_X7_copyFrom (F : Nat) (S : mS) (t : Nat) (a1 : Nat) : Option mS := bd (f_X6_copyFrom F S (t + 1) (a1 + 1)) fun q1 => lX7_copyFrom_13 F  t a1 F q1 (0 : Int32)
set_option maxHeartbeats 4000000 in
set_option maxRecDepth 100000 in
theorem c_X7_copyFrom {F : Nat} {S : mS} {t : Nat} {a1 : Nat} {R : mS} (ht : kd0 t = 7) (ha1 : kd0 a1 = 7) (h : f_X7_copyFrom F S t a1 = some R) : mCt μX7_copyFrom 3 0 0 E0 S [.ref (t), .ref (a1)] (mQe R none) := by
  unfold f_X7_copyFrom at h
  refine mCt.of (by decide) (Nat.le_of_ble_eq_true rfl) ?_
  intro x
  refine mG.aload_n 0 dX7_copyFrom_0 rfl ?_
  refine mG.get (v := .ref (t + 1)) dX7_copyFrom_1 mfX7_12 ht (lr7_town ht) ?_
  refine mG.aload_n 1 dX7_copyFrom_4 rfl ?_
  refine mG.get (v := .ref (a1 + 1)) dX7_copyFrom_5 mfX7_12 ha1 (lr7_town ha1) ?_
  obtain ⟨q1, hq1, h⟩ := bdp h
  refine mG.callV0 (as := [.ref (a1 + 1)]) (st := []) (S2 := q1) (r := none) dX7_copyFrom_8 mvX6_copyFrom wk28_2 rfl (lk7_town ht) rfl (by decide) (Nat.le_of_ble_eq_true rfl) (c_X6_copyFrom (lk7_town ht) (lk7_town ha1) hq1) ?_
  refine mG.iconst (v := 0) dX7_copyFrom_11 rfl ?_
  refine mG.istore_n (lv2 := [(2, .int 0), (0, .ref (t)), (1, .ref (a1))]) dX7_copyFrom_12 rfl (by decide) rfl ?_
  refine mG.sub (lv2 := [(0, .ref (t)), (1, .ref (a1)), (2, .int 0)]) [1, 2, 0] rfl ?_
  exact gX7_copyFrom_13 ht ha1  F q1 (0 : Int32)  h
theorem dX7_keepStep_0 : decode cX7_keepStep 0 = .ok (.aload_n 0, 1) := by decide +kernel
theorem dX7_keepStep_1 : decode cX7_keepStep 1 = .ok (.getfield 18, 3) := by decide +kernel
theorem dX7_keepStep_4 : decode cX7_keepStep 4 = .ok (.aload_n 0, 1) := by decide +kernel
theorem dX7_keepStep_5 : decode cX7_keepStep 5 = .ok (.getfield 46, 3) := by decide +kernel
theorem dX7_keepStep_8 : decode cX7_keepStep 8 = .ok (.aload_n 0, 1) := by decide +kernel
theorem dX7_keepStep_9 : decode cX7_keepStep 9 = .ok (.getfield 49, 3) := by decide +kernel
theorem dX7_keepStep_12 : decode cX7_keepStep 12 = .ok (.iadd, 1) := by decide +kernel
theorem dX7_keepStep_13 : decode cX7_keepStep 13 = .ok (.bipush 30, 2) := by decide +kernel
theorem dX7_keepStep_15 : decode cX7_keepStep 15 = .ok (.irem, 1) := by decide +kernel
theorem dX7_keepStep_16 : decode cX7_keepStep 16 = .ok (.aaload, 1) := by decide +kernel
theorem dX7_keepStep_17 : decode cX7_keepStep 17 = .ok (.aload_n 0, 1) := by decide +kernel
theorem dX7_keepStep_18 : decode cX7_keepStep 18 = .ok (.getfield 12, 3) := by decide +kernel
theorem dX7_keepStep_21 : decode cX7_keepStep 21 = .ok (.invokevirtual 42, 3) := by decide +kernel
theorem dX7_keepStep_24 : decode cX7_keepStep 24 = .ok (.aload_n 0, 1) := by decide +kernel
theorem dX7_keepStep_25 : decode cX7_keepStep 25 = .ok (.getfield 49, 3) := by decide +kernel
theorem dX7_keepStep_28 : decode cX7_keepStep 28 = .ok (.bipush 30, 2) := by decide +kernel
theorem dX7_keepStep_30 : decode cX7_keepStep 30 = .ok (.if_icmp .ge 16, 3) := by decide +kernel
theorem dX7_keepStep_33 : decode cX7_keepStep 33 = .ok (.aload_n 0, 1) := by decide +kernel
theorem dX7_keepStep_34 : decode cX7_keepStep 34 = .ok (.dup, 1) := by decide +kernel
theorem dX7_keepStep_35 : decode cX7_keepStep 35 = .ok (.getfield 49, 3) := by decide +kernel
theorem dX7_keepStep_38 : decode cX7_keepStep 38 = .ok (.iconst 1, 1) := by decide +kernel
theorem dX7_keepStep_39 : decode cX7_keepStep 39 = .ok (.iadd, 1) := by decide +kernel
theorem dX7_keepStep_40 : decode cX7_keepStep 40 = .ok (.putfield 49, 3) := by decide +kernel
theorem dX7_keepStep_43 : decode cX7_keepStep 43 = .ok (.goto 16, 3) := by decide +kernel
theorem dX7_keepStep_46 : decode cX7_keepStep 46 = .ok (.aload_n 0, 1) := by decide +kernel
theorem dX7_keepStep_47 : decode cX7_keepStep 47 = .ok (.aload_n 0, 1) := by decide +kernel
theorem dX7_keepStep_48 : decode cX7_keepStep 48 = .ok (.getfield 46, 3) := by decide +kernel
theorem dX7_keepStep_51 : decode cX7_keepStep 51 = .ok (.iconst 1, 1) := by decide +kernel
theorem dX7_keepStep_52 : decode cX7_keepStep 52 = .ok (.iadd, 1) := by decide +kernel
theorem dX7_keepStep_53 : decode cX7_keepStep 53 = .ok (.bipush 30, 2) := by decide +kernel
theorem dX7_keepStep_55 : decode cX7_keepStep 55 = .ok (.irem, 1) := by decide +kernel
theorem dX7_keepStep_56 : decode cX7_keepStep 56 = .ok (.putfield 46, 3) := by decide +kernel
theorem dX7_keepStep_59 : decode cX7_keepStep 59 = .ok (.return_, 1) := by decide +kernel
def f_X7_keepStep (F : Nat) (S : mS) (t : Nat) : Option mS := ck (inb (((S.1 t 2) + (S.1 t 3)) - ((S.1 t 2) + (S.1 t 3)) / (30 : Int32) * (30 : Int32)) 30) (bd (f_X6_copyFrom F S (t + 6 + 6 + 5 * (((S.1 t 2) + (S.1 t 3)) - ((S.1 t 2) + (S.1 t 3)) / (30 : Int32) * (30 : Int32)).toNatClampNeg) (t + 1)) fun q2 => if (30 : Int32) ≤ (q2.1 t 3) then (stp (sI q2 t 2 (((q2.1 t 2) + (1 : Int32)) - ((q2.1 t 2) + (1 : Int32)) / (30 : Int32) * (30 : Int32))) fun S3 => some S3) else (stp (sI q2 t 3 ((q2.1 t 3) + (1 : Int32))) fun S4 => some S4))
set_option maxHeartbeats 4000000 in
set_option maxRecDepth 100000 in
theorem c_X7_keepStep {F : Nat} {S : mS} {t : Nat} {R : mS} (ht : kd0 t = 7) (h : f_X7_keepStep F S t = some R) : mCt μX7_keepStep 3 0 0 E0 S [.ref (t)] (mQe R none) := by
  unfold f_X7_keepStep at h
  refine mCt.of (by decide) (Nat.le_of_ble_eq_true rfl) ?_
  intro x
  refine mG.aload_n 0 dX7_keepStep_0 rfl ?_
  refine mG.get (v := .ref (t + 6)) dX7_keepStep_1 mfX7_18 ht (lr7_steps ht) ?_
  refine mG.aload_n 0 dX7_keepStep_4 rfl ?_
  refine mG.get (v := .int (S.1 t 2)) dX7_keepStep_5 mfX7_46 ht rfl ?_
  refine mG.aload_n 0 dX7_keepStep_8 rfl ?_
  refine mG.get (v := .int (S.1 t 3)) dX7_keepStep_9 mfX7_49 ht rfl ?_
  refine mG.iadd dX7_keepStep_12 ?_
  refine mG.bipush (v := 30) dX7_keepStep_13 (by decide) ?_
  refine mG.irem dX7_keepStep_15 (by decide) ?_
  obtain ⟨b1, h⟩ := ckp h
  refine mG.aald13 (u := t + 6 + 6 + 5 * (((S.1 t 2) + (S.1 t 3)) - ((S.1 t 2) + (S.1 t 3)) / (30 : Int32) * (30 : Int32)).toNatClampNeg) dX7_keepStep_16 (lk7_steps ht) (ll7_steps ht) (inbp b1) (la13 (lk7_steps ht) _ (inbN (inbp b1))) ?_
  refine mG.aload_n 0 dX7_keepStep_17 rfl ?_
  refine mG.get (v := .ref (t + 1)) dX7_keepStep_18 mfX7_12 ht (lr7_town ht) ?_
  obtain ⟨q2, hq2, h⟩ := bdp h
  refine mG.callV0 (as := [.ref (t + 1)]) (st := []) (S2 := q2) (r := none) dX7_keepStep_21 mvX6_copyFrom wk28_2 rfl (lay13 (lk7_steps ht) (inbN (inbp b1))) rfl (by decide) (Nat.le_of_ble_eq_true rfl) (c_X6_copyFrom (lay13 (lk7_steps ht) (inbN (inbp b1))) (lk7_town ht) hq2) ?_
  refine mG.aload_n 0 dX7_keepStep_24 rfl ?_
  refine mG.get (v := .int (q2.1 t 3)) dX7_keepStep_25 mfX7_49 ht rfl ?_
  refine mG.bipush (v := 30) dX7_keepStep_28 (by decide) ?_
  refine mG.icmp_ge 46 dX7_keepStep_30 (by decide) (fun c5 => ?_) (fun c5 => ?_)
  · replace h := itp c5 h
    refine mG.aload_n 0 dX7_keepStep_46 rfl ?_
    refine mG.aload_n 0 dX7_keepStep_47 rfl ?_
    refine mG.get (v := .int (q2.1 t 2)) dX7_keepStep_48 mfX7_46 ht rfl ?_
    refine mG.iconst (v := 1) dX7_keepStep_51 rfl ?_
    refine mG.iadd dX7_keepStep_52 ?_
    refine mG.bipush (v := 30) dX7_keepStep_53 (by decide) ?_
    refine mG.irem dX7_keepStep_55 (by decide) ?_
    obtain ⟨S3, hS3, h⟩ := stpp h
    refine mG.putI dX7_keepStep_56 mfX7_46 rfl (Or.inl rfl) ht hS3 ?_
    obtain rfl := Option.some.inj h
    exact mG.vret dX7_keepStep_59 rfl ⟨rfl, rfl, rfl⟩
  · replace h := itn c5 h
    refine mG.aload_n 0 dX7_keepStep_33 rfl ?_
    refine mG.dup dX7_keepStep_34 rfl ?_
    refine mG.get (v := .int (q2.1 t 3)) dX7_keepStep_35 mfX7_49 ht rfl ?_
    refine mG.iconst (v := 1) dX7_keepStep_38 rfl ?_
    refine mG.iadd dX7_keepStep_39 ?_
    obtain ⟨S4, hS4, h⟩ := stpp h
    refine mG.putI dX7_keepStep_40 mfX7_49 rfl (Or.inl rfl) ht hS4 ?_
    refine mG.goto 59 dX7_keepStep_43 (by decide) ?_
    obtain rfl := Option.some.inj h
    exact mG.vret dX7_keepStep_59 rfl ⟨rfl, rfl, rfl⟩
theorem dX7_takeStepBack_0 : decode cX7_takeStepBack 0 = .ok (.aload_n 0, 1) := by decide +kernel
theorem dX7_takeStepBack_1 : decode cX7_takeStepBack 1 = .ok (.getfield 49, 3) := by decide +kernel
theorem dX7_takeStepBack_4 : decode cX7_takeStepBack 4 = .ok (.ifCond .ne 5, 3) := by decide +kernel
theorem dX7_takeStepBack_7 : decode cX7_takeStepBack 7 = .ok (.iconst (-1), 1) := by decide +kernel
theorem dX7_takeStepBack_8 : decode cX7_takeStepBack 8 = .ok (.ireturn, 1) := by decide +kernel
theorem dX7_takeStepBack_9 : decode cX7_takeStepBack 9 = .ok (.aload_n 0, 1) := by decide +kernel
theorem dX7_takeStepBack_10 : decode cX7_takeStepBack 10 = .ok (.dup, 1) := by decide +kernel
theorem dX7_takeStepBack_11 : decode cX7_takeStepBack 11 = .ok (.getfield 49, 3) := by decide +kernel
theorem dX7_takeStepBack_14 : decode cX7_takeStepBack 14 = .ok (.iconst 1, 1) := by decide +kernel
theorem dX7_takeStepBack_15 : decode cX7_takeStepBack 15 = .ok (.isub, 1) := by decide +kernel
theorem dX7_takeStepBack_16 : decode cX7_takeStepBack 16 = .ok (.putfield 49, 3) := by decide +kernel
theorem dX7_takeStepBack_19 : decode cX7_takeStepBack 19 = .ok (.aload_n 0, 1) := by decide +kernel
theorem dX7_takeStepBack_20 : decode cX7_takeStepBack 20 = .ok (.getfield 12, 3) := by decide +kernel
theorem dX7_takeStepBack_23 : decode cX7_takeStepBack 23 = .ok (.aload_n 0, 1) := by decide +kernel
theorem dX7_takeStepBack_24 : decode cX7_takeStepBack 24 = .ok (.getfield 18, 3) := by decide +kernel
theorem dX7_takeStepBack_27 : decode cX7_takeStepBack 27 = .ok (.aload_n 0, 1) := by decide +kernel
theorem dX7_takeStepBack_28 : decode cX7_takeStepBack 28 = .ok (.getfield 46, 3) := by decide +kernel
theorem dX7_takeStepBack_31 : decode cX7_takeStepBack 31 = .ok (.aload_n 0, 1) := by decide +kernel
theorem dX7_takeStepBack_32 : decode cX7_takeStepBack 32 = .ok (.getfield 49, 3) := by decide +kernel
theorem dX7_takeStepBack_35 : decode cX7_takeStepBack 35 = .ok (.iadd, 1) := by decide +kernel
theorem dX7_takeStepBack_36 : decode cX7_takeStepBack 36 = .ok (.bipush 30, 2) := by decide +kernel
theorem dX7_takeStepBack_38 : decode cX7_takeStepBack 38 = .ok (.irem, 1) := by decide +kernel
theorem dX7_takeStepBack_39 : decode cX7_takeStepBack 39 = .ok (.aaload, 1) := by decide +kernel
theorem dX7_takeStepBack_40 : decode cX7_takeStepBack 40 = .ok (.invokevirtual 67, 3) := by decide +kernel
theorem dX7_takeStepBack_43 : decode cX7_takeStepBack 43 = .ok (.aload_n 0, 1) := by decide +kernel
theorem dX7_takeStepBack_44 : decode cX7_takeStepBack 44 = .ok (.getfield 49, 3) := by decide +kernel
theorem dX7_takeStepBack_47 : decode cX7_takeStepBack 47 = .ok (.ireturn, 1) := by decide +kernel
def f_X7_takeStepBack (F : Nat) (S : mS) (t : Nat) : Option (mS × Int32) := if (S.1 t 3) = 0 then (some (S, (-1 : Int32))) else (stp (sI S t 3 ((S.1 t 3) - (1 : Int32))) fun S1 => ck (inb (((S1.1 t 2) + (S1.1 t 3)) - ((S1.1 t 2) + (S1.1 t 3)) / (30 : Int32) * (30 : Int32)) 30) (bd (f_X6_returnTo F S1 (t + 1) (t + 6 + 6 + 5 * (((S1.1 t 2) + (S1.1 t 3)) - ((S1.1 t 2) + (S1.1 t 3)) / (30 : Int32) * (30 : Int32)).toNatClampNeg)) fun q3 => some (q3, q3.1 t 3)))
set_option maxHeartbeats 4000000 in
set_option maxRecDepth 100000 in
theorem c_X7_takeStepBack {F : Nat} {S : mS} {t : Nat} {R : mS × Int32} (ht : kd0 t = 7) (h : f_X7_takeStepBack F S t = some R) : mCt μX7_takeStepBack 2 0 0 E0 S [.ref (t)] (mQe R.1 (some (.int R.2))) := by
  unfold f_X7_takeStepBack at h
  refine mCt.of (by decide) (Nat.le_of_ble_eq_true rfl) ?_
  intro x
  refine mG.aload_n 0 dX7_takeStepBack_0 rfl ?_
  refine mG.get (v := .int (S.1 t 3)) dX7_takeStepBack_1 mfX7_49 ht rfl ?_
  refine mG.if_ne 9 dX7_takeStepBack_4 (by decide) (fun c4 => ?_) (fun c4 => ?_)
  · replace h := itn c4 h
    refine mG.aload_n 0 dX7_takeStepBack_9 rfl ?_
    refine mG.dup dX7_takeStepBack_10 rfl ?_
    refine mG.get (v := .int (S.1 t 3)) dX7_takeStepBack_11 mfX7_49 ht rfl ?_
    refine mG.iconst (v := 1) dX7_takeStepBack_14 rfl ?_
    refine mG.isub dX7_takeStepBack_15 ?_
    obtain ⟨S1, hS1, h⟩ := stpp h
    refine mG.putI dX7_takeStepBack_16 mfX7_49 rfl (Or.inl rfl) ht hS1 ?_
    refine mG.aload_n 0 dX7_takeStepBack_19 rfl ?_
    refine mG.get (v := .ref (t + 1)) dX7_takeStepBack_20 mfX7_12 ht (lr7_town ht) ?_
    refine mG.aload_n 0 dX7_takeStepBack_23 rfl ?_
    refine mG.get (v := .ref (t + 6)) dX7_takeStepBack_24 mfX7_18 ht (lr7_steps ht) ?_
    refine mG.aload_n 0 dX7_takeStepBack_27 rfl ?_
    refine mG.get (v := .int (S1.1 t 2)) dX7_takeStepBack_28 mfX7_46 ht rfl ?_
    refine mG.aload_n 0 dX7_takeStepBack_31 rfl ?_
    refine mG.get (v := .int (S1.1 t 3)) dX7_takeStepBack_32 mfX7_49 ht rfl ?_
    refine mG.iadd dX7_takeStepBack_35 ?_
    refine mG.bipush (v := 30) dX7_takeStepBack_36 (by decide) ?_
    refine mG.irem dX7_takeStepBack_38 (by decide) ?_
    obtain ⟨b2, h⟩ := ckp h
    refine mG.aald13 (u := t + 6 + 6 + 5 * (((S1.1 t 2) + (S1.1 t 3)) - ((S1.1 t 2) + (S1.1 t 3)) / (30 : Int32) * (30 : Int32)).toNatClampNeg) dX7_takeStepBack_39 (lk7_steps ht) (ll7_steps ht) (inbp b2) (la13 (lk7_steps ht) _ (inbN (inbp b2))) ?_
    obtain ⟨q3, hq3, h⟩ := bdp h
    refine mG.callV0 (as := [.ref (t + 6 + 6 + 5 * (((S1.1 t 2) + (S1.1 t 3)) - ((S1.1 t 2) + (S1.1 t 3)) / (30 : Int32) * (30 : Int32)).toNatClampNeg)]) (st := []) (S2 := q3) (r := none) dX7_takeStepBack_40 mvX6_returnTo wk44_7 rfl (lk7_town ht) rfl (by decide) (Nat.le_of_ble_eq_true rfl) (c_X6_returnTo (lk7_town ht) (lay13 (lk7_steps ht) (inbN (inbp b2))) hq3) ?_
    refine mG.aload_n 0 dX7_takeStepBack_43 rfl ?_
    refine mG.get (v := .int (q3.1 t 3)) dX7_takeStepBack_44 mfX7_49 ht rfl ?_
    obtain rfl := Option.some.inj h
    exact mG.iret dX7_takeStepBack_47 rfl ⟨rfl, rfl, rfl⟩
  · replace h := itp c4 h
    refine mG.iconst (v := (-1)) dX7_takeStepBack_7 rfl ?_
    obtain rfl := Option.some.inj h
    exact mG.iret dX7_takeStepBack_8 rfl ⟨rfl, rfl, rfl⟩
theorem dX7_knowingNext_0 : decode cX7_knowingNext 0 = .ok (.iload_n 1, 1) := by decide +kernel
theorem dX7_knowingNext_1 : decode cX7_knowingNext 1 = .ok (.istore_n 2, 1) := by decide +kernel
theorem dX7_knowingNext_2 : decode cX7_knowingNext 2 = .ok (.iconst 0, 1) := by decide +kernel
theorem dX7_knowingNext_3 : decode cX7_knowingNext 3 = .ok (.istore_n 3, 1) := by decide +kernel
theorem dX7_knowingNext_4 : decode cX7_knowingNext 4 = .ok (.iload_n 3, 1) := by decide +kernel
theorem dX7_knowingNext_5 : decode cX7_knowingNext 5 = .ok (.aload_n 0, 1) := by decide +kernel
theorem dX7_knowingNext_6 : decode cX7_knowingNext 6 = .ok (.getfield 64, 3) := by decide +kernel
theorem dX7_knowingNext_9 : decode cX7_knowingNext 9 = .ok (.if_icmp .ge 34, 3) := by decide +kernel
theorem dX7_knowingNext_12 : decode cX7_knowingNext 12 = .ok (.iload_n 1, 1) := by decide +kernel
theorem dX7_knowingNext_13 : decode cX7_knowingNext 13 = .ok (.aload_n 0, 1) := by decide +kernel
theorem dX7_knowingNext_14 : decode cX7_knowingNext 14 = .ok (.getfield 36, 3) := by decide +kernel
theorem dX7_knowingNext_17 : decode cX7_knowingNext 17 = .ok (.iload_n 3, 1) := by decide +kernel
theorem dX7_knowingNext_18 : decode cX7_knowingNext 18 = .ok (.iaload, 1) := by decide +kernel
theorem dX7_knowingNext_19 : decode cX7_knowingNext 19 = .ok (.ishr, 1) := by decide +kernel
theorem dX7_knowingNext_20 : decode cX7_knowingNext 20 = .ok (.iconst 1, 1) := by decide +kernel
theorem dX7_knowingNext_21 : decode cX7_knowingNext 21 = .ok (.iand, 1) := by decide +kernel
theorem dX7_knowingNext_22 : decode cX7_knowingNext 22 = .ok (.iconst 1, 1) := by decide +kernel
theorem dX7_knowingNext_23 : decode cX7_knowingNext 23 = .ok (.if_icmp .ne 14, 3) := by decide +kernel
theorem dX7_knowingNext_26 : decode cX7_knowingNext 26 = .ok (.iload_n 2, 1) := by decide +kernel
theorem dX7_knowingNext_27 : decode cX7_knowingNext 27 = .ok (.iconst 1, 1) := by decide +kernel
theorem dX7_knowingNext_28 : decode cX7_knowingNext 28 = .ok (.aload_n 0, 1) := by decide +kernel
theorem dX7_knowingNext_29 : decode cX7_knowingNext 29 = .ok (.getfield 39, 3) := by decide +kernel
theorem dX7_knowingNext_32 : decode cX7_knowingNext 32 = .ok (.iload_n 3, 1) := by decide +kernel
theorem dX7_knowingNext_33 : decode cX7_knowingNext 33 = .ok (.iaload, 1) := by decide +kernel
theorem dX7_knowingNext_34 : decode cX7_knowingNext 34 = .ok (.ishl, 1) := by decide +kernel
theorem dX7_knowingNext_35 : decode cX7_knowingNext 35 = .ok (.ior, 1) := by decide +kernel
theorem dX7_knowingNext_36 : decode cX7_knowingNext 36 = .ok (.istore_n 2, 1) := by decide +kernel
theorem dX7_knowingNext_37 : decode cX7_knowingNext 37 = .ok (.iinc 3 1, 3) := by decide +kernel
theorem dX7_knowingNext_40 : decode cX7_knowingNext 40 = .ok (.goto (-36), 3) := by decide +kernel
theorem dX7_knowingNext_43 : decode cX7_knowingNext 43 = .ok (.iload_n 2, 1) := by decide +kernel
theorem dX7_knowingNext_44 : decode cX7_knowingNext 44 = .ok (.ireturn, 1) := by decide +kernel
def lX7_knowingNext_4 (F : Nat)  (t : Nat) (a1 : Int32) : Nat → mS → Int32 → Int32 → Option Int32
  | 0, _, _, _ => none
  | n + 1, S0, v2, v3 => if (S0.1 t 12) ≤ v3 then (some v2) else (ck (inb v3 8) (if ((a1 >>> ((S0.1 (t + 10) v3.toNatClampNeg) &&& 31)) &&& (1 : Int32)) = (1 : Int32) then (ck (inb v3 8) (lX7_knowingNext_4 F  t a1 n S0 (v2 ||| ((1 : Int32) <<< ((S0.1 (t + 11) v3.toNatClampNeg) &&& 31))) (v3 + 1))) else (lX7_knowingNext_4 F  t a1 n S0 v2 (v3 + 1))))
set_option maxHeartbeats 4000000 in
set_option maxRecDepth 100000 in
theorem gX7_knowingNext_4 {x : mX} {F : Nat} {t : Nat} {a1 : Int32} {S0 : mS}   {R : Int32} (ht : kd0 t = 7)  : ∀ (n : Nat) (v2 : Int32) (v3 : Int32), lX7_knowingNext_4 F  t a1 n S0 v2 v3 = some R → mG x μX7_knowingNext 1 0 0 (mQe S0 (some (.int R))) 0 0 E0 S0 4 [(0, .ref (t)), (1, .int (a1)), (2, .int (v2)), (3, .int (v3))] [] := by
  intro n
  induction n with
  | zero =>
    intro v2 v3 h
    cases h
  | succ n ih =>
    intro v2 v3 h
    unfold lX7_knowingNext_4 at h
    refine mG.iload_n 3 dX7_knowingNext_4 rfl ?_
    refine mG.aload_n 0 dX7_knowingNext_5 rfl ?_
    refine mG.get (v := .int (S0.1 t 12)) dX7_knowingNext_6 mfX7_64 ht rfl ?_
    refine mG.icmp_ge 43 dX7_knowingNext_9 (by decide) (fun c4 => ?_) (fun c4 => ?_)
    · replace h := itp c4 h
      refine mG.iload_n 2 dX7_knowingNext_43 rfl ?_
      obtain rfl := Option.some.inj h
      exact mG.iret dX7_knowingNext_44 rfl ⟨rfl, rfl, rfl⟩
    · replace h := itn c4 h
      refine mG.iload_n 1 dX7_knowingNext_12 rfl ?_
      refine mG.aload_n 0 dX7_knowingNext_13 rfl ?_
      refine mG.get (v := .ref (t + 10)) dX7_knowingNext_14 mfX7_36 ht (lr7_gossipFrom ht) ?_
      refine mG.iload_n 3 dX7_knowingNext_17 rfl ?_
      obtain ⟨b1, h⟩ := ckp h
      refine mG.iald dX7_knowingNext_18 (lk7_gossipFrom ht) (ll7_gossipFrom ht) (inbp b1) ?_
      refine mG.ishr dX7_knowingNext_19 ?_
      refine mG.iconst (v := 1) dX7_knowingNext_20 rfl ?_
      refine mG.iand dX7_knowingNext_21 ?_
      refine mG.iconst (v := 1) dX7_knowingNext_22 rfl ?_
      refine mG.icmp_ne 37 dX7_knowingNext_23 (by decide) (fun c3 => ?_) (fun c3 => ?_)
      · replace h := itn c3 h
        refine mG.iinc 3 (u := v3 + 1) (lv2 := [(3, .int (v3 + 1)), (0, .ref (t)), (1, .int (a1)), (2, .int (v2))]) dX7_knowingNext_37 rfl rfl (by decide) rfl ?_
        refine mG.goto 4 dX7_knowingNext_40 (by decide) ?_
        refine mG.sub (lv2 := [(0, .ref (t)), (1, .int (a1)), (2, .int (v2)), (3, .int (v3 + 1))]) [1, 2, 3, 0] rfl ?_
        exact ih  v2 (v3 + 1)  h
      · replace h := itp c3 h
        refine mG.iload_n 2 dX7_knowingNext_26 rfl ?_
        refine mG.iconst (v := 1) dX7_knowingNext_27 rfl ?_
        refine mG.aload_n 0 dX7_knowingNext_28 rfl ?_
        refine mG.get (v := .ref (t + 11)) dX7_knowingNext_29 mfX7_39 ht (lr7_gossipTo ht) ?_
        refine mG.iload_n 3 dX7_knowingNext_32 rfl ?_
        obtain ⟨b2, h⟩ := ckp h
        refine mG.iald dX7_knowingNext_33 (lk7_gossipTo ht) (ll7_gossipTo ht) (inbp b2) ?_
        refine mG.ishl dX7_knowingNext_34 ?_
        refine mG.ior dX7_knowingNext_35 ?_
        refine mG.istore_n (lv2 := [(2, .int (v2 ||| ((1 : Int32) <<< ((S0.1 (t + 11) v3.toNatClampNeg) &&& 31)))), (0, .ref (t)), (1, .int (a1)), (3, .int (v3))]) dX7_knowingNext_36 rfl (by decide) rfl ?_
        refine mG.iinc 3 (u := v3 + 1) (lv2 := [(3, .int (v3 + 1)), (2, .int (v2 ||| ((1 : Int32) <<< ((S0.1 (t + 11) v3.toNatClampNeg) &&& 31)))), (0, .ref (t)), (1, .int (a1))]) dX7_knowingNext_37 rfl rfl (by decide) rfl ?_
        refine mG.goto 4 dX7_knowingNext_40 (by decide) ?_
        refine mG.sub (lv2 := [(0, .ref (t)), (1, .int (a1)), (2, .int (v2 ||| ((1 : Int32) <<< ((S0.1 (t + 11) v3.toNatClampNeg) &&& 31)))), (3, .int (v3 + 1))]) [2, 3, 1, 0] rfl ?_
        exact ih  (v2 ||| ((1 : Int32) <<< ((S0.1 (t + 11) v3.toNatClampNeg) &&& 31))) (v3 + 1)  h
def f_X7_knowingNext (F : Nat) (S0 : mS) (t : Nat) (a1 : Int32) : Option Int32 := lX7_knowingNext_4 F  t a1 F S0 a1 (0 : Int32)
set_option maxHeartbeats 4000000 in
set_option maxRecDepth 100000 in
theorem c_X7_knowingNext {F : Nat} {S0 : mS} {t : Nat} {a1 : Int32} {R : Int32} (ht : kd0 t = 7) (h : f_X7_knowingNext F S0 t a1 = some R) : mCt μX7_knowingNext 1 0 0 E0 S0 [.ref (t), .int (a1)] (mQe S0 (some (.int R))) := by
  unfold f_X7_knowingNext at h
  refine mCt.of (by decide) (Nat.le_of_ble_eq_true rfl) ?_
  intro x
  refine mG.iload_n 1 dX7_knowingNext_0 rfl ?_
  refine mG.istore_n (lv2 := [(2, .int (a1)), (0, .ref (t)), (1, .int (a1))]) dX7_knowingNext_1 rfl (by decide) rfl ?_
  refine mG.iconst (v := 0) dX7_knowingNext_2 rfl ?_
  refine mG.istore_n (lv2 := [(3, .int 0), (2, .int (a1)), (0, .ref (t)), (1, .int (a1))]) dX7_knowingNext_3 rfl (by decide) rfl ?_
  refine mG.sub (lv2 := [(0, .ref (t)), (1, .int (a1)), (2, .int (a1)), (3, .int 0)]) [2, 3, 1, 0] rfl ?_
  exact gX7_knowingNext_4 ht  F  a1 (0 : Int32)  h
