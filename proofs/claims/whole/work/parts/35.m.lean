theorem dX9_copy_0 : decode cX9_copy 0 = .ok (.iconst 0, 1) := by decide +kernel
theorem dX9_copy_1 : decode cX9_copy 1 = .ok (.istore_n 2, 1) := by decide +kernel
theorem dX9_copy_2 : decode cX9_copy 2 = .ok (.iload_n 2, 1) := by decide +kernel
theorem dX9_copy_3 : decode cX9_copy 3 = .ok (.sipush 2308, 3) := by decide +kernel
theorem dX9_copy_6 : decode cX9_copy 6 = .ok (.if_icmp .ge 15, 3) := by decide +kernel
theorem dX9_copy_9 : decode cX9_copy 9 = .ok (.aload_n 1, 1) := by decide +kernel
theorem dX9_copy_10 : decode cX9_copy 10 = .ok (.iload_n 2, 1) := by decide +kernel
theorem dX9_copy_11 : decode cX9_copy 11 = .ok (.aload_n 0, 1) := by decide +kernel
theorem dX9_copy_12 : decode cX9_copy 12 = .ok (.iload_n 2, 1) := by decide +kernel
theorem dX9_copy_13 : decode cX9_copy 13 = .ok (.iaload, 1) := by decide +kernel
theorem dX9_copy_14 : decode cX9_copy 14 = .ok (.iastore, 1) := by decide +kernel
theorem dX9_copy_15 : decode cX9_copy 15 = .ok (.iinc 2 1, 3) := by decide +kernel
theorem dX9_copy_18 : decode cX9_copy 18 = .ok (.goto (-16), 3) := by decide +kernel
theorem dX9_copy_21 : decode cX9_copy 21 = .ok (.return_, 1) := by decide +kernel
def lX9_copy_2 (F : Nat)  (a1 : Nat) (a2 : Nat) : Nat → mS → Int32 → Option mS
  | 0, _, _ => none
  | n + 1, S, v2 => if (2308 : Int32) ≤ v2 then (some S) else (ck (inb v2 2308) (ck (inb v2 2308) (stp (sI S a2 v2.toNatClampNeg (S.1 a1 v2.toNatClampNeg)) fun S3 => lX9_copy_2 F  a1 a2 n S3 (v2 + 1))))
set_option maxHeartbeats 4000000 in
set_option maxRecDepth 100000 in
theorem gX9_copy_2 {x : mX} {F : Nat} {a1 : Nat} {a2 : Nat}   {R : mS} (ha1 : kd0 a1 = 10) (ga1 : ln0 a1 = 2308) (ha2 : kd0 a2 = 10) (ga2 : ln0 a2 = 2308)  : ∀ (n : Nat) (S : mS) (v2 : Int32), lX9_copy_2 F  a1 a2 n S v2 = some R → mG x μX9_copy 1 0 0 (mQe R none) 0 0 E0 S 2 [(0, .ref (a1)), (1, .ref (a2)), (2, .int (v2))] [] := by
  intro n
  induction n with
  | zero =>
    intro S v2 h
    cases h
  | succ n ih =>
    intro S v2 h
    unfold lX9_copy_2 at h
    refine mG.iload_n 2 dX9_copy_2 rfl ?_
    refine mG.sipush (v := 2308) dX9_copy_3 (by decide) ?_
    refine mG.icmp_ge 21 dX9_copy_6 (by decide) (fun c4 => ?_) (fun c4 => ?_)
    · replace h := itp c4 h
      obtain rfl := Option.some.inj h
      exact mG.vret dX9_copy_21 rfl ⟨rfl, rfl, rfl⟩
    · replace h := itn c4 h
      refine mG.aload_n 1 dX9_copy_9 rfl ?_
      refine mG.iload_n 2 dX9_copy_10 rfl ?_
      refine mG.aload_n 0 dX9_copy_11 rfl ?_
      refine mG.iload_n 2 dX9_copy_12 rfl ?_
      obtain ⟨b1, h⟩ := ckp h
      refine mG.iald dX9_copy_13 ha1 ga1 (inbp b1) ?_
      obtain ⟨b2, h⟩ := ckp h
      obtain ⟨S3, hS3, h⟩ := stpp h
      refine mG.iast dX9_copy_14 ha2 ga2 (inbp b2) hS3 ?_
      refine mG.iinc 2 (u := v2 + 1) (lv2 := [(2, .int (v2 + 1)), (0, .ref (a1)), (1, .ref (a2))]) dX9_copy_15 rfl rfl (by decide) rfl ?_
      refine mG.goto 2 dX9_copy_18 (by decide) ?_
      refine mG.sub (lv2 := [(0, .ref (a1)), (1, .ref (a2)), (2, .int (v2 + 1))]) [1, 2, 0] rfl ?_
      exact ih S3 (v2 + 1)  h
def f_X9_copy (F : Nat) (S : mS) (a1 : Nat) (a2 : Nat) : Option mS := lX9_copy_2 F  a1 a2 F S (0 : Int32)
set_option maxHeartbeats 4000000 in
set_option maxRecDepth 100000 in
theorem c_X9_copy {F : Nat} {S : mS} {a1 : Nat} {a2 : Nat} {R : mS} (ha1 : kd0 a1 = 10) (ga1 : ln0 a1 = 2308) (ha2 : kd0 a2 = 10) (ga2 : ln0 a2 = 2308) (h : f_X9_copy F S a1 a2 = some R) : mCt μX9_copy 1 0 0 E0 S [.ref (a1), .ref (a2)] (mQe R none) := by
  unfold f_X9_copy at h
  refine mCt.of (by decide) (Nat.le_of_ble_eq_true rfl) ?_
  intro x
  refine mG.iconst (v := 0) dX9_copy_0 rfl ?_
  refine mG.istore_n (lv2 := [(2, .int 0), (0, .ref (a1)), (1, .ref (a2))]) dX9_copy_1 rfl (by decide) rfl ?_
  refine mG.sub (lv2 := [(0, .ref (a1)), (1, .ref (a2)), (2, .int 0)]) [1, 2, 0] rfl ?_
  exact gX9_copy_2 ha1 ga1 ha2 ga2  F S (0 : Int32)  h
theorem dX9_isIn_0 : decode cX9_isIn 0 = .ok (.iload_n 0, 1) := by decide +kernel
theorem dX9_isIn_1 : decode cX9_isIn 1 = .ok (.iload_n 1, 1) := by decide +kernel
theorem dX9_isIn_2 : decode cX9_isIn 2 = .ok (.if_icmp .lt 12, 3) := by decide +kernel
theorem dX9_isIn_5 : decode cX9_isIn 5 = .ok (.iload_n 0, 1) := by decide +kernel
theorem dX9_isIn_6 : decode cX9_isIn 6 = .ok (.iload_n 2, 1) := by decide +kernel
theorem dX9_isIn_7 : decode cX9_isIn 7 = .ok (.if_icmp .gt 7, 3) := by decide +kernel
theorem dX9_isIn_10 : decode cX9_isIn 10 = .ok (.iconst 1, 1) := by decide +kernel
theorem dX9_isIn_11 : decode cX9_isIn 11 = .ok (.goto 4, 3) := by decide +kernel
theorem dX9_isIn_14 : decode cX9_isIn 14 = .ok (.iconst 0, 1) := by decide +kernel
theorem dX9_isIn_15 : decode cX9_isIn 15 = .ok (.ireturn, 1) := by decide +kernel
def f_X9_isIn (S0 : mS) (a1 : Int32) (a2 : Int32) (a3 : Int32) : Bool := if a1 < a2 then (false) else (if a3 < a1 then (false) else (true))
set_option maxHeartbeats 4000000 in
set_option maxRecDepth 100000 in
theorem c_X9_isIn {S0 : mS} {a1 : Int32} {a2 : Int32} {a3 : Int32} {R : Bool}  (h : f_X9_isIn S0 a1 a2 a3 = R) : mCt μX9_isIn 1 0 0 E0 S0 [.int (a1), .int (a2), .int (a3)] (mQe S0 (some (.int (bI R)))) := by
  unfold f_X9_isIn at h
  refine mCt.of (by decide) (Nat.le_of_ble_eq_true rfl) ?_
  intro x
  refine mG.iload_n 0 dX9_isIn_0 rfl ?_
  refine mG.iload_n 1 dX9_isIn_1 rfl ?_
  refine mG.icmp_lt 14 dX9_isIn_2 (by decide) (fun c2 => ?_) (fun c2 => ?_)
  · replace h := itp c2 h
    refine mG.iconst (v := 0) dX9_isIn_14 rfl ?_
    subst h
    exact mG.zret (b := false) dX9_isIn_15 rfl rfl ⟨rfl, rfl, rfl⟩
  · replace h := itn c2 h
    refine mG.iload_n 0 dX9_isIn_5 rfl ?_
    refine mG.iload_n 2 dX9_isIn_6 rfl ?_
    refine mG.icmp_gt 14 dX9_isIn_7 (by decide) (fun c1 => ?_) (fun c1 => ?_)
    · replace h := itp c1 h
      refine mG.iconst (v := 0) dX9_isIn_14 rfl ?_
      subst h
      exact mG.zret (b := false) dX9_isIn_15 rfl rfl ⟨rfl, rfl, rfl⟩
    · replace h := itn c1 h
      refine mG.iconst (v := 1) dX9_isIn_10 rfl ?_
      refine mG.goto 15 dX9_isIn_11 (by decide) ?_
      subst h
      exact mG.zret (b := true) dX9_isIn_15 rfl rfl ⟨rfl, rfl, rfl⟩
theorem dX9_cut_0 : decode cX9_cut 0 = .ok (.lload_n 0, 1) := by decide +kernel
theorem dX9_cut_1 : decode cX9_cut 1 = .ok (.iload_n 2, 1) := by decide +kernel
theorem dX9_cut_2 : decode cX9_cut 2 = .ok (.i2l, 1) := by decide +kernel
theorem dX9_cut_3 : decode cX9_cut 3 = .ok (.lcmp, 1) := by decide +kernel
theorem dX9_cut_4 : decode cX9_cut 4 = .ok (.ifCond .ge 7, 3) := by decide +kernel
theorem dX9_cut_7 : decode cX9_cut 7 = .ok (.iload_n 2, 1) := by decide +kernel
theorem dX9_cut_8 : decode cX9_cut 8 = .ok (.goto 16, 3) := by decide +kernel
theorem dX9_cut_11 : decode cX9_cut 11 = .ok (.lload_n 0, 1) := by decide +kernel
theorem dX9_cut_12 : decode cX9_cut 12 = .ok (.iload_n 3, 1) := by decide +kernel
theorem dX9_cut_13 : decode cX9_cut 13 = .ok (.i2l, 1) := by decide +kernel
theorem dX9_cut_14 : decode cX9_cut 14 = .ok (.lcmp, 1) := by decide +kernel
theorem dX9_cut_15 : decode cX9_cut 15 = .ok (.ifCond .le 7, 3) := by decide +kernel
theorem dX9_cut_18 : decode cX9_cut 18 = .ok (.iload_n 3, 1) := by decide +kernel
theorem dX9_cut_19 : decode cX9_cut 19 = .ok (.goto 5, 3) := by decide +kernel
theorem dX9_cut_22 : decode cX9_cut 22 = .ok (.lload_n 0, 1) := by decide +kernel
theorem dX9_cut_23 : decode cX9_cut 23 = .ok (.l2i, 1) := by decide +kernel
theorem dX9_cut_24 : decode cX9_cut 24 = .ok (.ireturn, 1) := by decide +kernel
def f_X9_cut (S0 : mS) (a1 : Int64) (a2 : Int32) (a3 : Int32) : Int32 := if a1 < (Int32.toInt64 a2) then (a2) else (if (Int32.toInt64 a3) < a1 then (a3) else (Int64.toInt32 a1))
set_option maxHeartbeats 4000000 in
set_option maxRecDepth 100000 in
theorem c_X9_cut {S0 : mS} {a1 : Int64} {a2 : Int32} {a3 : Int32} {R : Int32}  (h : f_X9_cut S0 a1 a2 a3 = R) : mCt μX9_cut 1 0 0 E0 S0 [.long (a1), .int (a2), .int (a3)] (mQe S0 (some (.int R))) := by
  unfold f_X9_cut at h
  refine mCt.of (by decide) (Nat.le_of_ble_eq_true rfl) ?_
  intro x
  refine mG.lload_n 0 dX9_cut_0 rfl ?_
  refine mG.iload_n 1 dX9_cut_1 rfl ?_
  refine mG.i2l dX9_cut_2 ?_
  refine mG.lcmp dX9_cut_3 ?_
  refine mG.ifl_ge 11 dX9_cut_4 (by decide) (fun c2 => ?_) (fun c2 => ?_)
  · replace h := itn c2 h
    refine mG.lload_n 0 dX9_cut_11 rfl ?_
    refine mG.iload_n 2 dX9_cut_12 rfl ?_
    refine mG.i2l dX9_cut_13 ?_
    refine mG.lcmp dX9_cut_14 ?_
    refine mG.ifl_le 22 dX9_cut_15 (by decide) (fun c1 => ?_) (fun c1 => ?_)
    · replace h := itn c1 h
      refine mG.lload_n 0 dX9_cut_22 rfl ?_
      refine mG.l2i dX9_cut_23 ?_
      subst h
      exact mG.iret dX9_cut_24 rfl ⟨rfl, rfl, rfl⟩
    · replace h := itp c1 h
      refine mG.iload_n 2 dX9_cut_18 rfl ?_
      refine mG.goto 24 dX9_cut_19 (by decide) ?_
      subst h
      exact mG.iret dX9_cut_24 rfl ⟨rfl, rfl, rfl⟩
  · replace h := itp c2 h
    refine mG.iload_n 1 dX9_cut_7 rfl ?_
    refine mG.goto 24 dX9_cut_8 (by decide) ?_
    subst h
    exact mG.iret dX9_cut_24 rfl ⟨rfl, rfl, rfl⟩
theorem dX9_has_0 : decode cX9_has 0 = .ok (.iload_n 0, 1) := by decide +kernel
theorem dX9_has_1 : decode cX9_has 1 = .ok (.iload_n 1, 1) := by decide +kernel
theorem dX9_has_2 : decode cX9_has 2 = .ok (.ishr, 1) := by decide +kernel
theorem dX9_has_3 : decode cX9_has 3 = .ok (.iconst 1, 1) := by decide +kernel
theorem dX9_has_4 : decode cX9_has 4 = .ok (.iand, 1) := by decide +kernel
theorem dX9_has_5 : decode cX9_has 5 = .ok (.iconst 1, 1) := by decide +kernel
theorem dX9_has_6 : decode cX9_has 6 = .ok (.if_icmp .ne 7, 3) := by decide +kernel
theorem dX9_has_9 : decode cX9_has 9 = .ok (.iconst 1, 1) := by decide +kernel
theorem dX9_has_10 : decode cX9_has 10 = .ok (.goto 4, 3) := by decide +kernel
theorem dX9_has_13 : decode cX9_has 13 = .ok (.iconst 0, 1) := by decide +kernel
theorem dX9_has_14 : decode cX9_has 14 = .ok (.ireturn, 1) := by decide +kernel
def f_X9_has (S0 : mS) (a1 : Int32) (a2 : Int32) : Bool := if ((a1 >>> (a2 &&& 31)) &&& (1 : Int32)) = (1 : Int32) then (true) else (false)
set_option maxHeartbeats 4000000 in
set_option maxRecDepth 100000 in
theorem c_X9_has {S0 : mS} {a1 : Int32} {a2 : Int32} {R : Bool}  (h : f_X9_has S0 a1 a2 = R) : mCt μX9_has 1 0 0 E0 S0 [.int (a1), .int (a2)] (mQe S0 (some (.int (bI R)))) := by
  unfold f_X9_has at h
  refine mCt.of (by decide) (Nat.le_of_ble_eq_true rfl) ?_
  intro x
  refine mG.iload_n 0 dX9_has_0 rfl ?_
  refine mG.iload_n 1 dX9_has_1 rfl ?_
  refine mG.ishr dX9_has_2 ?_
  refine mG.iconst (v := 1) dX9_has_3 rfl ?_
  refine mG.iand dX9_has_4 ?_
  refine mG.iconst (v := 1) dX9_has_5 rfl ?_
  refine mG.icmp_ne 13 dX9_has_6 (by decide) (fun c1 => ?_) (fun c1 => ?_)
  · replace h := itn c1 h
    refine mG.iconst (v := 0) dX9_has_13 rfl ?_
    subst h
    exact mG.zret (b := false) dX9_has_14 rfl rfl ⟨rfl, rfl, rfl⟩
  · replace h := itp c1 h
    refine mG.iconst (v := 1) dX9_has_9 rfl ?_
    refine mG.goto 14 dX9_has_10 (by decide) ?_
    subst h
    exact mG.zret (b := true) dX9_has_14 rfl rfl ⟨rfl, rfl, rfl⟩
theorem dX9_bits_0 : decode cX9_bits 0 = .ok (.iconst 0, 1) := by decide +kernel
theorem dX9_bits_1 : decode cX9_bits 1 = .ok (.istore_n 1, 1) := by decide +kernel
theorem dX9_bits_2 : decode cX9_bits 2 = .ok (.iload_n 0, 1) := by decide +kernel
theorem dX9_bits_3 : decode cX9_bits 3 = .ok (.istore_n 2, 1) := by decide +kernel
theorem dX9_bits_4 : decode cX9_bits 4 = .ok (.iload_n 2, 1) := by decide +kernel
theorem dX9_bits_5 : decode cX9_bits 5 = .ok (.ifCond .eq 15, 3) := by decide +kernel
theorem dX9_bits_8 : decode cX9_bits 8 = .ok (.iinc 1 1, 3) := by decide +kernel
theorem dX9_bits_11 : decode cX9_bits 11 = .ok (.iload_n 2, 1) := by decide +kernel
theorem dX9_bits_12 : decode cX9_bits 12 = .ok (.iload_n 2, 1) := by decide +kernel
theorem dX9_bits_13 : decode cX9_bits 13 = .ok (.iconst 1, 1) := by decide +kernel
theorem dX9_bits_14 : decode cX9_bits 14 = .ok (.isub, 1) := by decide +kernel
theorem dX9_bits_15 : decode cX9_bits 15 = .ok (.iand, 1) := by decide +kernel
theorem dX9_bits_16 : decode cX9_bits 16 = .ok (.istore_n 2, 1) := by decide +kernel
theorem dX9_bits_17 : decode cX9_bits 17 = .ok (.goto (-13), 3) := by decide +kernel
theorem dX9_bits_20 : decode cX9_bits 20 = .ok (.iload_n 1, 1) := by decide +kernel
theorem dX9_bits_21 : decode cX9_bits 21 = .ok (.ireturn, 1) := by decide +kernel
def lX9_bits_4 (F : Nat)  (a1 : Int32) : Nat → mS → Int32 → Int32 → Option Int32
  | 0, _, _, _ => none
  | n + 1, S0, v1, v2 => if v2 = 0 then (some v1) else (lX9_bits_4 F  a1 n S0 (v1 + 1) (v2 &&& (v2 - (1 : Int32))))
set_option maxHeartbeats 4000000 in
set_option maxRecDepth 100000 in
theorem gX9_bits_4 {x : mX} {F : Nat} {a1 : Int32} {S0 : mS}   {R : Int32}   : ∀ (n : Nat) (v1 : Int32) (v2 : Int32), lX9_bits_4 F  a1 n S0 v1 v2 = some R → mG x μX9_bits 1 0 0 (mQe S0 (some (.int R))) 0 0 E0 S0 4 [(1, .int (v1)), (2, .int (v2))] [] := by
  intro n
  induction n with
  | zero =>
    intro v1 v2 h
    cases h
  | succ n ih =>
    intro v1 v2 h
    unfold lX9_bits_4 at h
    refine mG.iload_n 1 dX9_bits_4 rfl ?_
    refine mG.if_eq 20 dX9_bits_5 (by decide) (fun c1 => ?_) (fun c1 => ?_)
    · replace h := itp c1 h
      refine mG.iload_n 0 dX9_bits_20 rfl ?_
      obtain rfl := Option.some.inj h
      exact mG.iret dX9_bits_21 rfl ⟨rfl, rfl, rfl⟩
    · replace h := itn c1 h
      refine mG.iinc 0 (u := v1 + 1) (lv2 := [(1, .int (v1 + 1)), (2, .int (v2))]) dX9_bits_8 rfl rfl (by decide) rfl ?_
      refine mG.iload_n 1 dX9_bits_11 rfl ?_
      refine mG.iload_n 1 dX9_bits_12 rfl ?_
      refine mG.iconst (v := 1) dX9_bits_13 rfl ?_
      refine mG.isub dX9_bits_14 ?_
      refine mG.iand dX9_bits_15 ?_
      refine mG.istore_n (lv2 := [(2, .int (v2 &&& (v2 - (1 : Int32)))), (1, .int (v1 + 1))]) dX9_bits_16 rfl (by decide) rfl ?_
      refine mG.goto 4 dX9_bits_17 (by decide) ?_
      refine mG.sub (lv2 := [(1, .int (v1 + 1)), (2, .int (v2 &&& (v2 - (1 : Int32))))]) [1, 0] rfl ?_
      exact ih  (v1 + 1) (v2 &&& (v2 - (1 : Int32)))  h
def f_X9_bits (F : Nat) (S0 : mS) (a1 : Int32) : Option Int32 := lX9_bits_4 F  a1 F S0 (0 : Int32) a1
set_option maxHeartbeats 4000000 in
set_option maxRecDepth 100000 in
theorem c_X9_bits {F : Nat} {S0 : mS} {a1 : Int32} {R : Int32}  (h : f_X9_bits F S0 a1 = some R) : mCt μX9_bits 1 0 0 E0 S0 [.int (a1)] (mQe S0 (some (.int R))) := by
  unfold f_X9_bits at h
  refine mCt.of (by decide) (Nat.le_of_ble_eq_true rfl) ?_
  intro x
  refine mG.iconst (v := 0) dX9_bits_0 rfl ?_
  refine mG.istore_n (lv2 := [(1, .int 0), (0, .int (a1))]) dX9_bits_1 rfl (by decide) rfl ?_
  refine mG.iload_n 1 dX9_bits_2 rfl ?_
  refine mG.istore_n (lv2 := [(2, .int (a1)), (1, .int 0), (0, .int (a1))]) dX9_bits_3 rfl (by decide) rfl ?_
  refine mG.sub (lv2 := [(1, .int 0), (2, .int (a1))]) [1, 0] rfl ?_
  exact gX9_bits_4   F  (0 : Int32) a1  h
theorem dX9_isHouse_0 : decode cX9_isHouse 0 = .ok (.iload_n 1, 1) := by decide +kernel
theorem dX9_isHouse_1 : decode cX9_isHouse 1 = .ok (.iconst 0, 1) := by decide +kernel
theorem dX9_isHouse_2 : decode cX9_isHouse 2 = .ok (.aload_n 0, 1) := by decide +kernel
theorem dX9_isHouse_3 : decode cX9_isHouse 3 = .ok (.getfield 7, 3) := by decide +kernel
theorem dX9_isHouse_6 : decode cX9_isHouse 6 = .ok (.iconst 0, 1) := by decide +kernel
theorem dX9_isHouse_7 : decode cX9_isHouse 7 = .ok (.iaload, 1) := by decide +kernel
theorem dX9_isHouse_8 : decode cX9_isHouse 8 = .ok (.iconst 1, 1) := by decide +kernel
theorem dX9_isHouse_9 : decode cX9_isHouse 9 = .ok (.isub, 1) := by decide +kernel
theorem dX9_isHouse_10 : decode cX9_isHouse 10 = .ok (.invokestatic 65, 3) := by decide +kernel
theorem dX9_isHouse_13 : decode cX9_isHouse 13 = .ok (.ireturn, 1) := by decide +kernel
def f_X9_isHouse (F : Nat) (S0 : mS) (t : Nat) (a1 : Int32) : Option Bool := ck (inb (0 : Int32) 2308) (some (f_X9_isIn S0 a1 (0 : Int32) ((S0.1 (t + 1) (0 : Int32).toNatClampNeg) - (1 : Int32))))
set_option maxHeartbeats 4000000 in
set_option maxRecDepth 100000 in
theorem c_X9_isHouse {F : Nat} {S0 : mS} {t : Nat} {a1 : Int32} {R : Bool} (ht : kd0 t = 9) (h : f_X9_isHouse F S0 t a1 = some R) : mCt μX9_isHouse 2 0 0 E0 S0 [.ref (t), .int (a1)] (mQe S0 (some (.int (bI R)))) := by
  unfold f_X9_isHouse at h
  refine mCt.of (by decide) (Nat.le_of_ble_eq_true rfl) ?_
  intro x
  refine mG.iload_n 1 dX9_isHouse_0 rfl ?_
  refine mG.iconst (v := 0) dX9_isHouse_1 rfl ?_
  refine mG.aload_n 0 dX9_isHouse_2 rfl ?_
  refine mG.get (v := .ref (t + 1)) dX9_isHouse_3 mfX9_7 ht (lr9_a ht) ?_
  refine mG.iconst (v := 0) dX9_isHouse_6 rfl ?_
  obtain ⟨b1, h⟩ := ckp h
  refine mG.iald dX9_isHouse_7 (lk9_a ht) (ll9_a ht) (inbp b1) ?_
  refine mG.iconst (v := 1) dX9_isHouse_8 rfl ?_
  refine mG.isub dX9_isHouse_9 ?_
  refine mG.callS0 (as := [.int (a1), .int 0, .int ((S0.1 (t + 1) (0 : Int32).toNatClampNeg) - (1 : Int32))]) (st := []) (S2 := S0) (r := some (.int (bI (f_X9_isIn S0 a1 (0 : Int32) ((S0.1 (t + 1) (0 : Int32).toNatClampNeg) - (1 : Int32)))))) dX9_isHouse_10 mbX9_isIn wk7_13 wk7_12 rfl rfl (by decide) (Nat.le_of_ble_eq_true rfl) (c_X9_isIn  rfl) ?_
  obtain rfl := Option.some.inj h
  exact mG.zret (b := f_X9_isIn S0 a1 (0 : Int32) ((S0.1 (t + 1) (0 : Int32).toNatClampNeg) - (1 : Int32))) dX9_isHouse_13 rfl rfl ⟨rfl, rfl, rfl⟩
theorem dX9_get_0 : decode cX9_get 0 = .ok (.aload_n 0, 1) := by decide +kernel
theorem dX9_get_1 : decode cX9_get 1 = .ok (.getfield 7, 3) := by decide +kernel
theorem dX9_get_4 : decode cX9_get 4 = .ok (.bipush 12, 2) := by decide +kernel
theorem dX9_get_6 : decode cX9_get 6 = .ok (.bipush 8, 2) := by decide +kernel
theorem dX9_get_8 : decode cX9_get 8 = .ok (.iload_n 1, 1) := by decide +kernel
theorem dX9_get_9 : decode cX9_get 9 = .ok (.imul, 1) := by decide +kernel
theorem dX9_get_10 : decode cX9_get 10 = .ok (.iadd, 1) := by decide +kernel
theorem dX9_get_11 : decode cX9_get 11 = .ok (.iload_n 2, 1) := by decide +kernel
theorem dX9_get_12 : decode cX9_get 12 = .ok (.iadd, 1) := by decide +kernel
theorem dX9_get_13 : decode cX9_get 13 = .ok (.iaload, 1) := by decide +kernel
theorem dX9_get_14 : decode cX9_get 14 = .ok (.ireturn, 1) := by decide +kernel
def f_X9_get (F : Nat) (S0 : mS) (t : Nat) (a1 : Int32) (a2 : Int32) : Option Int32 := ck (inb (((12 : Int32) + ((8 : Int32) * a1)) + a2) 2308) (some (S0.1 (t + 1) (((12 : Int32) + ((8 : Int32) * a1)) + a2).toNatClampNeg))
set_option maxHeartbeats 4000000 in
set_option maxRecDepth 100000 in
theorem c_X9_get {F : Nat} {S0 : mS} {t : Nat} {a1 : Int32} {a2 : Int32} {R : Int32} (ht : kd0 t = 9) (h : f_X9_get F S0 t a1 a2 = some R) : mCt μX9_get 1 0 0 E0 S0 [.ref (t), .int (a1), .int (a2)] (mQe S0 (some (.int R))) := by
  unfold f_X9_get at h
  refine mCt.of (by decide) (Nat.le_of_ble_eq_true rfl) ?_
  intro x
  refine mG.aload_n 0 dX9_get_0 rfl ?_
  refine mG.get (v := .ref (t + 1)) dX9_get_1 mfX9_7 ht (lr9_a ht) ?_
  refine mG.bipush (v := 12) dX9_get_4 (by decide) ?_
  refine mG.bipush (v := 8) dX9_get_6 (by decide) ?_
  refine mG.iload_n 1 dX9_get_8 rfl ?_
  refine mG.imul dX9_get_9 ?_
  refine mG.iadd dX9_get_10 ?_
  refine mG.iload_n 2 dX9_get_11 rfl ?_
  refine mG.iadd dX9_get_12 ?_
  obtain ⟨b1, h⟩ := ckp h
  refine mG.iald dX9_get_13 (lk9_a ht) (ll9_a ht) (inbp b1) ?_
  obtain rfl := Option.some.inj h
  exact mG.iret dX9_get_14 rfl ⟨rfl, rfl, rfl⟩
theorem dX9_put_0 : decode cX9_put 0 = .ok (.aload_n 0, 1) := by decide +kernel
theorem dX9_put_1 : decode cX9_put 1 = .ok (.getfield 7, 3) := by decide +kernel
theorem dX9_put_4 : decode cX9_put 4 = .ok (.bipush 12, 2) := by decide +kernel
theorem dX9_put_6 : decode cX9_put 6 = .ok (.bipush 8, 2) := by decide +kernel
theorem dX9_put_8 : decode cX9_put 8 = .ok (.iload_n 1, 1) := by decide +kernel
theorem dX9_put_9 : decode cX9_put 9 = .ok (.imul, 1) := by decide +kernel
theorem dX9_put_10 : decode cX9_put 10 = .ok (.iadd, 1) := by decide +kernel
theorem dX9_put_11 : decode cX9_put 11 = .ok (.iload_n 2, 1) := by decide +kernel
theorem dX9_put_12 : decode cX9_put 12 = .ok (.iadd, 1) := by decide +kernel
theorem dX9_put_13 : decode cX9_put 13 = .ok (.iload_n 3, 1) := by decide +kernel
theorem dX9_put_14 : decode cX9_put 14 = .ok (.iastore, 1) := by decide +kernel
theorem dX9_put_15 : decode cX9_put 15 = .ok (.return_, 1) := by decide +kernel
def f_X9_put (F : Nat) (S : mS) (t : Nat) (a1 : Int32) (a2 : Int32) (a3 : Int32) : Option mS := ck (inb (((12 : Int32) + ((8 : Int32) * a1)) + a2) 2308) (stp (sI S (t + 1) (((12 : Int32) + ((8 : Int32) * a1)) + a2).toNatClampNeg a3) fun S2 => some S2)
set_option maxHeartbeats 4000000 in
set_option maxRecDepth 100000 in
theorem c_X9_put {F : Nat} {S : mS} {t : Nat} {a1 : Int32} {a2 : Int32} {a3 : Int32} {R : mS} (ht : kd0 t = 9) (h : f_X9_put F S t a1 a2 a3 = some R) : mCt μX9_put 1 0 0 E0 S [.ref (t), .int (a1), .int (a2), .int (a3)] (mQe R none) := by
  unfold f_X9_put at h
  refine mCt.of (by decide) (Nat.le_of_ble_eq_true rfl) ?_
  intro x
  refine mG.aload_n 0 dX9_put_0 rfl ?_
  refine mG.get (v := .ref (t + 1)) dX9_put_1 mfX9_7 ht (lr9_a ht) ?_
  refine mG.bipush (v := 12) dX9_put_4 (by decide) ?_
  refine mG.bipush (v := 8) dX9_put_6 (by decide) ?_
  refine mG.iload_n 1 dX9_put_8 rfl ?_
  refine mG.imul dX9_put_9 ?_
  refine mG.iadd dX9_put_10 ?_
  refine mG.iload_n 2 dX9_put_11 rfl ?_
  refine mG.iadd dX9_put_12 ?_
  refine mG.iload_n 3 dX9_put_13 rfl ?_
  obtain ⟨b1, h⟩ := ckp h
  obtain ⟨S2, hS2, h⟩ := stpp h
  refine mG.iast dX9_put_14 (lk9_a ht) (ll9_a ht) (inbp b1) hS2 ?_
  obtain rfl := Option.some.inj h
  exact mG.vret dX9_put_15 rfl ⟨rfl, rfl, rfl⟩
theorem dX9_isHere_0 : decode cX9_isHere 0 = .ok (.aload_n 0, 1) := by decide +kernel
theorem dX9_isHere_1 : decode cX9_isHere 1 = .ok (.iload_n 1, 1) := by decide +kernel
theorem dX9_isHere_2 : decode cX9_isHere 2 = .ok (.invokevirtual 69, 3) := by decide +kernel
theorem dX9_isHere_5 : decode cX9_isHere 5 = .ok (.ifCond .eq 16, 3) := by decide +kernel
theorem dX9_isHere_8 : decode cX9_isHere 8 = .ok (.aload_n 0, 1) := by decide +kernel
theorem dX9_isHere_9 : decode cX9_isHere 9 = .ok (.iload_n 1, 1) := by decide +kernel
theorem dX9_isHere_10 : decode cX9_isHere 10 = .ok (.iconst 3, 1) := by decide +kernel
theorem dX9_isHere_11 : decode cX9_isHere 11 = .ok (.invokevirtual 73, 3) := by decide +kernel
theorem dX9_isHere_14 : decode cX9_isHere 14 = .ok (.ifCond .ne 7, 3) := by decide +kernel
theorem dX9_isHere_17 : decode cX9_isHere 17 = .ok (.iconst 1, 1) := by decide +kernel
theorem dX9_isHere_18 : decode cX9_isHere 18 = .ok (.goto 4, 3) := by decide +kernel
theorem dX9_isHere_21 : decode cX9_isHere 21 = .ok (.iconst 0, 1) := by decide +kernel
theorem dX9_isHere_22 : decode cX9_isHere 22 = .ok (.ireturn, 1) := by decide +kernel
def f_X9_isHere (F : Nat) (S0 : mS) (t : Nat) (a1 : Int32) : Option Bool := bd (f_X9_isHouse F S0 t a1) fun q1 => if q1 = true then (bd (f_X9_get F S0 t a1 (3 : Int32)) fun q2 => if q2 = 0 then (some true) else (some false)) else (some false)
set_option maxHeartbeats 4000000 in
set_option maxRecDepth 100000 in
theorem c_X9_isHere {F : Nat} {S0 : mS} {t : Nat} {a1 : Int32} {R : Bool} (ht : kd0 t = 9) (h : f_X9_isHere F S0 t a1 = some R) : mCt μX9_isHere 3 0 0 E0 S0 [.ref (t), .int (a1)] (mQe S0 (some (.int (bI R)))) := by
  unfold f_X9_isHere at h
  refine mCt.of (by decide) (Nat.le_of_ble_eq_true rfl) ?_
  intro x
  refine mG.aload_n 0 dX9_isHere_0 rfl ?_
  refine mG.iload_n 1 dX9_isHere_1 rfl ?_
  obtain ⟨q1, hq1, h⟩ := bdp h
  refine mG.callV0 (as := [.int (a1)]) (st := []) (S2 := S0) (r := some (.int (bI (q1)))) dX9_isHere_2 mvX9_isHouse wk33_0 rfl ht rfl (by decide) (Nat.le_of_ble_eq_true rfl) (c_X9_isHouse ht hq1) ?_
  refine mG.ifz_eq (b := q1) 21 dX9_isHere_5 (by decide) (fun c4 => ?_) (fun c4 => ?_)
  · replace h := itn c4 h
    refine mG.iconst (v := 0) dX9_isHere_21 rfl ?_
    obtain rfl := Option.some.inj h
    exact mG.zret (b := false) dX9_isHere_22 rfl rfl ⟨rfl, rfl, rfl⟩
  · replace h := itp c4 h
    refine mG.aload_n 0 dX9_isHere_8 rfl ?_
    refine mG.iload_n 1 dX9_isHere_9 rfl ?_
    refine mG.iconst (v := 3) dX9_isHere_10 rfl ?_
    obtain ⟨q2, hq2, h⟩ := bdp h
    refine mG.callV0 (as := [.int (a1), .int 3]) (st := []) (S2 := S0) (r := some (.int (q2))) dX9_isHere_11 mvX9_get wk7_23 rfl ht rfl (by decide) (Nat.le_of_ble_eq_true rfl) (c_X9_get ht hq2) ?_
    refine mG.if_ne 21 dX9_isHere_14 (by decide) (fun c3 => ?_) (fun c3 => ?_)
    · replace h := itn c3 h
      refine mG.iconst (v := 0) dX9_isHere_21 rfl ?_
      obtain rfl := Option.some.inj h
      exact mG.zret (b := false) dX9_isHere_22 rfl rfl ⟨rfl, rfl, rfl⟩
    · replace h := itp c3 h
      refine mG.iconst (v := 1) dX9_isHere_17 rfl ?_
      refine mG.goto 22 dX9_isHere_18 (by decide) ?_
      obtain rfl := Option.some.inj h
      exact mG.zret (b := true) dX9_isHere_22 rfl rfl ⟨rfl, rfl, rfl⟩
theorem dX9_isOpen_0 : decode cX9_isOpen 0 = .ok (.aload_n 0, 1) := by decide +kernel
theorem dX9_isOpen_1 : decode cX9_isOpen 1 = .ok (.iload_n 1, 1) := by decide +kernel
theorem dX9_isOpen_2 : decode cX9_isOpen 2 = .ok (.invokevirtual 77, 3) := by decide +kernel
theorem dX9_isOpen_5 : decode cX9_isOpen 5 = .ok (.ifCond .eq 20, 3) := by decide +kernel
theorem dX9_isOpen_8 : decode cX9_isOpen 8 = .ok (.aload_n 0, 1) := by decide +kernel
theorem dX9_isOpen_9 : decode cX9_isOpen 9 = .ok (.iload_n 1, 1) := by decide +kernel
theorem dX9_isOpen_10 : decode cX9_isOpen 10 = .ok (.iconst 0, 1) := by decide +kernel
theorem dX9_isOpen_11 : decode cX9_isOpen 11 = .ok (.invokevirtual 73, 3) := by decide +kernel
theorem dX9_isOpen_14 : decode cX9_isOpen 14 = .ok (.iload_n 2, 1) := by decide +kernel
theorem dX9_isOpen_15 : decode cX9_isOpen 15 = .ok (.invokestatic 80, 3) := by decide +kernel
theorem dX9_isOpen_18 : decode cX9_isOpen 18 = .ok (.ifCond .ne 7, 3) := by decide +kernel
theorem dX9_isOpen_21 : decode cX9_isOpen 21 = .ok (.iconst 1, 1) := by decide +kernel
theorem dX9_isOpen_22 : decode cX9_isOpen 22 = .ok (.goto 4, 3) := by decide +kernel
theorem dX9_isOpen_25 : decode cX9_isOpen 25 = .ok (.iconst 0, 1) := by decide +kernel
theorem dX9_isOpen_26 : decode cX9_isOpen 26 = .ok (.ireturn, 1) := by decide +kernel
def f_X9_isOpen (F : Nat) (S0 : mS) (t : Nat) (a1 : Int32) (a2 : Int32) : Option Bool := bd (f_X9_isHere F S0 t a1) fun q1 => if q1 = true then (bd (f_X9_get F S0 t a1 (0 : Int32)) fun q2 => if (f_X9_has S0 q2 a2) = true then (some false) else (some true)) else (some false)
set_option maxHeartbeats 4000000 in
set_option maxRecDepth 100000 in
theorem c_X9_isOpen {F : Nat} {S0 : mS} {t : Nat} {a1 : Int32} {a2 : Int32} {R : Bool} (ht : kd0 t = 9) (h : f_X9_isOpen F S0 t a1 a2 = some R) : mCt μX9_isOpen 4 0 0 E0 S0 [.ref (t), .int (a1), .int (a2)] (mQe S0 (some (.int (bI R)))) := by
  unfold f_X9_isOpen at h
  refine mCt.of (by decide) (Nat.le_of_ble_eq_true rfl) ?_
  intro x
  refine mG.aload_n 0 dX9_isOpen_0 rfl ?_
  refine mG.iload_n 1 dX9_isOpen_1 rfl ?_
  obtain ⟨q1, hq1, h⟩ := bdp h
  refine mG.callV0 (as := [.int (a1)]) (st := []) (S2 := S0) (r := some (.int (bI (q1)))) dX9_isOpen_2 mvX9_isHere wk32_20 rfl ht rfl (by decide) (Nat.le_of_ble_eq_true rfl) (c_X9_isHere ht hq1) ?_
  refine mG.ifz_eq (b := q1) 25 dX9_isOpen_5 (by decide) (fun c4 => ?_) (fun c4 => ?_)
  · replace h := itn c4 h
    refine mG.iconst (v := 0) dX9_isOpen_25 rfl ?_
    obtain rfl := Option.some.inj h
    exact mG.zret (b := false) dX9_isOpen_26 rfl rfl ⟨rfl, rfl, rfl⟩
  · replace h := itp c4 h
    refine mG.aload_n 0 dX9_isOpen_8 rfl ?_
    refine mG.iload_n 1 dX9_isOpen_9 rfl ?_
    refine mG.iconst (v := 0) dX9_isOpen_10 rfl ?_
    obtain ⟨q2, hq2, h⟩ := bdp h
    refine mG.callV0 (as := [.int (a1), .int 0]) (st := []) (S2 := S0) (r := some (.int (q2))) dX9_isOpen_11 mvX9_get wk7_23 rfl ht rfl (by decide) (Nat.le_of_ble_eq_true rfl) (c_X9_get ht hq2) ?_
    refine mG.iload_n 2 dX9_isOpen_14 rfl ?_
    refine mG.callS0 (as := [.int (q2), .int (a2)]) (st := []) (S2 := S0) (r := some (.int (bI (f_X9_has S0 q2 a2)))) dX9_isOpen_15 mbX9_has wk22_12 wk22_11 rfl rfl (by decide) (Nat.le_of_ble_eq_true rfl) (c_X9_has  rfl) ?_
    refine mG.ifz_ne (b := f_X9_has S0 q2 a2) 25 dX9_isOpen_18 (by decide) (fun c3 => ?_) (fun c3 => ?_)
    · replace h := itp c3 h
      refine mG.iconst (v := 0) dX9_isOpen_25 rfl ?_
      obtain rfl := Option.some.inj h
      exact mG.zret (b := false) dX9_isOpen_26 rfl rfl ⟨rfl, rfl, rfl⟩
    · replace h := itn c3 h
      refine mG.iconst (v := 1) dX9_isOpen_21 rfl ?_
      refine mG.goto 26 dX9_isOpen_22 (by decide) ?_
      obtain rfl := Option.some.inj h
      exact mG.zret (b := true) dX9_isOpen_26 rfl rfl ⟨rfl, rfl, rfl⟩
theorem dX9_date_0 : decode cX9_date 0 = .ok (.aload_n 0, 1) := by decide +kernel
theorem dX9_date_1 : decode cX9_date 1 = .ok (.getfield 7, 3) := by decide +kernel
theorem dX9_date_4 : decode cX9_date 4 = .ok (.bipush 8, 2) := by decide +kernel
theorem dX9_date_6 : decode cX9_date 6 = .ok (.iaload, 1) := by decide +kernel
theorem dX9_date_7 : decode cX9_date 7 = .ok (.bipush 20, 2) := by decide +kernel
theorem dX9_date_9 : decode cX9_date 9 = .ok (.irem, 1) := by decide +kernel
theorem dX9_date_10 : decode cX9_date 10 = .ok (.ireturn, 1) := by decide +kernel
def f_X9_date (F : Nat) (S0 : mS) (t : Nat) : Option Int32 := ck (inb (8 : Int32) 2308) (some ((S0.1 (t + 1) (8 : Int32).toNatClampNeg) - (S0.1 (t + 1) (8 : Int32).toNatClampNeg) / (20 : Int32) * (20 : Int32)))
set_option maxHeartbeats 4000000 in
set_option maxRecDepth 100000 in
theorem c_X9_date {F : Nat} {S0 : mS} {t : Nat} {R : Int32} (ht : kd0 t = 9) (h : f_X9_date F S0 t = some R) : mCt μX9_date 1 0 0 E0 S0 [.ref (t)] (mQe S0 (some (.int R))) := by
  unfold f_X9_date at h
  refine mCt.of (by decide) (Nat.le_of_ble_eq_true rfl) ?_
  intro x
  refine mG.aload_n 0 dX9_date_0 rfl ?_
  refine mG.get (v := .ref (t + 1)) dX9_date_1 mfX9_7 ht (lr9_a ht) ?_
  refine mG.bipush (v := 8) dX9_date_4 (by decide) ?_
  obtain ⟨b1, h⟩ := ckp h
  refine mG.iald dX9_date_6 (lk9_a ht) (ll9_a ht) (inbp b1) ?_
  refine mG.bipush (v := 20) dX9_date_7 (by decide) ?_
  refine mG.irem dX9_date_9 (by decide) ?_
  obtain rfl := Option.some.inj h
  exact mG.iret dX9_date_10 rfl ⟨rfl, rfl, rfl⟩
theorem dX9_begin_0 : decode cX9_begin 0 = .ok (.iconst 0, 1) := by decide +kernel
theorem dX9_begin_1 : decode cX9_begin 1 = .ok (.istore_n 2, 1) := by decide +kernel
theorem dX9_begin_2 : decode cX9_begin 2 = .ok (.iload_n 2, 1) := by decide +kernel
theorem dX9_begin_3 : decode cX9_begin 3 = .ok (.iconst 3, 1) := by decide +kernel
theorem dX9_begin_4 : decode cX9_begin 4 = .ok (.if_icmp .ge 23, 3) := by decide +kernel
theorem dX9_begin_7 : decode cX9_begin 7 = .ok (.aload_n 0, 1) := by decide +kernel
theorem dX9_begin_8 : decode cX9_begin 8 = .ok (.iload_n 1, 1) := by decide +kernel
theorem dX9_begin_9 : decode cX9_begin 9 = .ok (.iload_n 2, 1) := by decide +kernel
theorem dX9_begin_10 : decode cX9_begin 10 = .ok (.aload_n 0, 1) := by decide +kernel
theorem dX9_begin_11 : decode cX9_begin 11 = .ok (.iload_n 1, 1) := by decide +kernel
theorem dX9_begin_12 : decode cX9_begin 12 = .ok (.iconst 4, 1) := by decide +kernel
theorem dX9_begin_13 : decode cX9_begin 13 = .ok (.iload_n 2, 1) := by decide +kernel
theorem dX9_begin_14 : decode cX9_begin 14 = .ok (.iadd, 1) := by decide +kernel
theorem dX9_begin_15 : decode cX9_begin 15 = .ok (.invokevirtual 73, 3) := by decide +kernel
theorem dX9_begin_18 : decode cX9_begin 18 = .ok (.invokevirtual 84, 3) := by decide +kernel
theorem dX9_begin_21 : decode cX9_begin 21 = .ok (.iinc 2 1, 3) := by decide +kernel
theorem dX9_begin_24 : decode cX9_begin 24 = .ok (.goto (-22), 3) := by decide +kernel
theorem dX9_begin_27 : decode cX9_begin 27 = .ok (.aload_n 0, 1) := by decide +kernel
theorem dX9_begin_28 : decode cX9_begin 28 = .ok (.iload_n 1, 1) := by decide +kernel
theorem dX9_begin_29 : decode cX9_begin 29 = .ok (.iconst 3, 1) := by decide +kernel
theorem dX9_begin_30 : decode cX9_begin 30 = .ok (.iconst 0, 1) := by decide +kernel
theorem dX9_begin_31 : decode cX9_begin 31 = .ok (.invokevirtual 84, 3) := by decide +kernel
theorem dX9_begin_34 : decode cX9_begin 34 = .ok (.return_, 1) := by decide +kernel
def lX9_begin_2 (F : Nat)  (t : Nat) (a1 : Int32) : Nat → mS → Int32 → Option mS
  | 0, _, _ => none
  | n + 1, S, v2 => if (3 : Int32) ≤ v2 then (bd (f_X9_put F S t a1 (3 : Int32) (0 : Int32)) fun q1 => some q1) else (bd (f_X9_get F S t a1 ((4 : Int32) + v2)) fun q2 => bd (f_X9_put F S t a1 v2 q2) fun q3 => lX9_begin_2 F  t a1 n q3 (v2 + 1))
set_option maxHeartbeats 4000000 in
set_option maxRecDepth 100000 in
theorem gX9_begin_2 {x : mX} {F : Nat} {t : Nat} {a1 : Int32}   {R : mS} (ht : kd0 t = 9)  : ∀ (n : Nat) (S : mS) (v2 : Int32), lX9_begin_2 F  t a1 n S v2 = some R → mG x μX9_begin 2 0 0 (mQe R none) 0 0 E0 S 2 [(0, .ref (t)), (1, .int (a1)), (2, .int (v2))] [] := by
  intro n
  induction n with
  | zero =>
    intro S v2 h
    cases h
  | succ n ih =>
    intro S v2 h
    unfold lX9_begin_2 at h
    refine mG.iload_n 2 dX9_begin_2 rfl ?_
    refine mG.iconst (v := 3) dX9_begin_3 rfl ?_
    refine mG.icmp_ge 27 dX9_begin_4 (by decide) (fun c4 => ?_) (fun c4 => ?_)
    · replace h := itp c4 h
      refine mG.aload_n 0 dX9_begin_27 rfl ?_
      refine mG.iload_n 1 dX9_begin_28 rfl ?_
      refine mG.iconst (v := 3) dX9_begin_29 rfl ?_
      refine mG.iconst (v := 0) dX9_begin_30 rfl ?_
      obtain ⟨q1, hq1, h⟩ := bdp h
      refine mG.callV0 (as := [.int (a1), .int 3, .int 0]) (st := []) (S2 := q1) (r := none) dX9_begin_31 mvX9_put wk7_15 rfl ht rfl (by decide) (Nat.le_of_ble_eq_true rfl) (c_X9_put ht hq1) ?_
      obtain rfl := Option.some.inj h
      exact mG.vret dX9_begin_34 rfl ⟨rfl, rfl, rfl⟩
    · replace h := itn c4 h
      refine mG.aload_n 0 dX9_begin_7 rfl ?_
      refine mG.iload_n 1 dX9_begin_8 rfl ?_
      refine mG.iload_n 2 dX9_begin_9 rfl ?_
      refine mG.aload_n 0 dX9_begin_10 rfl ?_
      refine mG.iload_n 1 dX9_begin_11 rfl ?_
      refine mG.iconst (v := 4) dX9_begin_12 rfl ?_
      refine mG.iload_n 2 dX9_begin_13 rfl ?_
      refine mG.iadd dX9_begin_14 ?_
      obtain ⟨q2, hq2, h⟩ := bdp h
      refine mG.callV0 (as := [.int (a1), .int ((4 : Int32) + v2)]) (st := [.int (v2), .int (a1), .ref (t)]) (S2 := S) (r := some (.int (q2))) dX9_begin_15 mvX9_get wk7_23 rfl ht rfl (by decide) (Nat.le_of_ble_eq_true rfl) (c_X9_get ht hq2) ?_
      obtain ⟨q3, hq3, h⟩ := bdp h
      refine mG.callV0 (as := [.int (a1), .int (v2), .int (q2)]) (st := []) (S2 := q3) (r := none) dX9_begin_18 mvX9_put wk7_15 rfl ht rfl (by decide) (Nat.le_of_ble_eq_true rfl) (c_X9_put ht hq3) ?_
      refine mG.iinc 2 (u := v2 + 1) (lv2 := [(2, .int (v2 + 1)), (0, .ref (t)), (1, .int (a1))]) dX9_begin_21 rfl rfl (by decide) rfl ?_
      refine mG.goto 2 dX9_begin_24 (by decide) ?_
      refine mG.sub (lv2 := [(0, .ref (t)), (1, .int (a1)), (2, .int (v2 + 1))]) [1, 2, 0] rfl ?_
      exact ih q3 (v2 + 1)  h
def f_X9_begin (F : Nat) (S : mS) (t : Nat) (a1 : Int32) : Option mS := lX9_begin_2 F  t a1 F S (0 : Int32)
set_option maxHeartbeats 4000000 in
set_option maxRecDepth 100000 in
theorem c_X9_begin {F : Nat} {S : mS} {t : Nat} {a1 : Int32} {R : mS} (ht : kd0 t = 9) (h : f_X9_begin F S t a1 = some R) : mCt μX9_begin 2 0 0 E0 S [.ref (t), .int (a1)] (mQe R none) := by
  unfold f_X9_begin at h
  refine mCt.of (by decide) (Nat.le_of_ble_eq_true rfl) ?_
  intro x
  refine mG.iconst (v := 0) dX9_begin_0 rfl ?_
  refine mG.istore_n (lv2 := [(2, .int 0), (0, .ref (t)), (1, .int (a1))]) dX9_begin_1 rfl (by decide) rfl ?_
  refine mG.sub (lv2 := [(0, .ref (t)), (1, .int (a1)), (2, .int 0)]) [1, 2, 0] rfl ?_
  exact gX9_begin_2 ht  F S (0 : Int32)  h
theorem dX9_house_0 : decode cX9_house 0 = .ok (.iload_n 1, 1) := by decide +kernel
theorem dX9_house_1 : decode cX9_house 1 = .ok (.iconst (-1), 1) := by decide +kernel
theorem dX9_house_2 : decode cX9_house 2 = .ok (.bipush 19, 2) := by decide +kernel
theorem dX9_house_4 : decode cX9_house 4 = .ok (.invokestatic 65, 3) := by decide +kernel
theorem dX9_house_7 : decode cX9_house 7 = .ok (.ifCond .eq 46, 3) := by decide +kernel
theorem dX9_house_10 : decode cX9_house 10 = .ok (.iload_n 2, 1) := by decide +kernel
theorem dX9_house_11 : decode cX9_house 11 = .ok (.iconst (-1), 1) := by decide +kernel
theorem dX9_house_12 : decode cX9_house 12 = .ok (.bipush 19, 2) := by decide +kernel
theorem dX9_house_14 : decode cX9_house 14 = .ok (.invokestatic 65, 3) := by decide +kernel
theorem dX9_house_17 : decode cX9_house 17 = .ok (.ifCond .eq 36, 3) := by decide +kernel
theorem dX9_house_20 : decode cX9_house 20 = .ok (.iload_n 3, 1) := by decide +kernel
theorem dX9_house_21 : decode cX9_house 21 = .ok (.iconst (-1), 1) := by decide +kernel
theorem dX9_house_22 : decode cX9_house 22 = .ok (.bipush 19, 2) := by decide +kernel
theorem dX9_house_24 : decode cX9_house 24 = .ok (.invokestatic 65, 3) := by decide +kernel
theorem dX9_house_27 : decode cX9_house 27 = .ok (.ifCond .eq 26, 3) := by decide +kernel
theorem dX9_house_30 : decode cX9_house 30 = .ok (.iload_n 1, 1) := by decide +kernel
theorem dX9_house_31 : decode cX9_house 31 = .ok (.ifCond .lt 13, 3) := by decide +kernel
theorem dX9_house_34 : decode cX9_house 34 = .ok (.iload_n 1, 1) := by decide +kernel
theorem dX9_house_35 : decode cX9_house 35 = .ok (.iload_n 2, 1) := by decide +kernel
theorem dX9_house_36 : decode cX9_house 36 = .ok (.if_icmp .eq 17, 3) := by decide +kernel
theorem dX9_house_39 : decode cX9_house 39 = .ok (.iload_n 1, 1) := by decide +kernel
theorem dX9_house_40 : decode cX9_house 40 = .ok (.iload_n 3, 1) := by decide +kernel
theorem dX9_house_41 : decode cX9_house 41 = .ok (.if_icmp .eq 12, 3) := by decide +kernel
theorem dX9_house_44 : decode cX9_house 44 = .ok (.iload_n 2, 1) := by decide +kernel
theorem dX9_house_45 : decode cX9_house 45 = .ok (.ifCond .lt 10, 3) := by decide +kernel
theorem dX9_house_48 : decode cX9_house 48 = .ok (.iload_n 2, 1) := by decide +kernel
theorem dX9_house_49 : decode cX9_house 49 = .ok (.iload_n 3, 1) := by decide +kernel
theorem dX9_house_50 : decode cX9_house 50 = .ok (.if_icmp .ne 5, 3) := by decide +kernel
theorem dX9_house_53 : decode cX9_house 53 = .ok (.iconst (-1), 1) := by decide +kernel
theorem dX9_house_54 : decode cX9_house 54 = .ok (.ireturn, 1) := by decide +kernel
theorem dX9_house_55 : decode cX9_house 55 = .ok (.iload 4, 2) := by decide +kernel
theorem dX9_house_57 : decode cX9_house 57 = .ok (.iconst 0, 1) := by decide +kernel
theorem dX9_house_58 : decode cX9_house 58 = .ok (.sipush 9999, 3) := by decide +kernel
theorem dX9_house_61 : decode cX9_house 61 = .ok (.invokestatic 65, 3) := by decide +kernel
theorem dX9_house_64 : decode cX9_house 64 = .ok (.ifCond .eq 25, 3) := by decide +kernel
theorem dX9_house_67 : decode cX9_house 67 = .ok (.iload 5, 2) := by decide +kernel
theorem dX9_house_69 : decode cX9_house 69 = .ok (.iconst 0, 1) := by decide +kernel
theorem dX9_house_70 : decode cX9_house 70 = .ok (.bipush 99, 2) := by decide +kernel
theorem dX9_house_72 : decode cX9_house 72 = .ok (.invokestatic 65, 3) := by decide +kernel
theorem dX9_house_75 : decode cX9_house 75 = .ok (.ifCond .eq 14, 3) := by decide +kernel
theorem dX9_house_78 : decode cX9_house 78 = .ok (.aload_n 0, 1) := by decide +kernel
theorem dX9_house_79 : decode cX9_house 79 = .ok (.getfield 7, 3) := by decide +kernel
theorem dX9_house_82 : decode cX9_house 82 = .ok (.iconst 0, 1) := by decide +kernel
theorem dX9_house_83 : decode cX9_house 83 = .ok (.iaload, 1) := by decide +kernel
theorem dX9_house_84 : decode cX9_house 84 = .ok (.bipush 7, 2) := by decide +kernel
theorem dX9_house_86 : decode cX9_house 86 = .ok (.if_icmp .ne 5, 3) := by decide +kernel
theorem dX9_house_89 : decode cX9_house 89 = .ok (.iconst (-1), 1) := by decide +kernel
theorem dX9_house_90 : decode cX9_house 90 = .ok (.ireturn, 1) := by decide +kernel
theorem dX9_house_91 : decode cX9_house 91 = .ok (.aload_n 0, 1) := by decide +kernel
theorem dX9_house_92 : decode cX9_house 92 = .ok (.getfield 7, 3) := by decide +kernel
theorem dX9_house_95 : decode cX9_house 95 = .ok (.iconst 0, 1) := by decide +kernel
theorem dX9_house_96 : decode cX9_house 96 = .ok (.iaload, 1) := by decide +kernel
theorem dX9_house_97 : decode cX9_house 97 = .ok (.istore 6, 2) := by decide +kernel
theorem dX9_house_99 : decode cX9_house 99 = .ok (.aload_n 0, 1) := by decide +kernel
theorem dX9_house_100 : decode cX9_house 100 = .ok (.iload 6, 2) := by decide +kernel
theorem dX9_house_102 : decode cX9_house 102 = .ok (.iconst 4, 1) := by decide +kernel
theorem dX9_house_103 : decode cX9_house 103 = .ok (.iload_n 1, 1) := by decide +kernel
theorem dX9_house_104 : decode cX9_house 104 = .ok (.ifCond .ge 7, 3) := by decide +kernel
theorem dX9_house_107 : decode cX9_house 107 = .ok (.iconst 0, 1) := by decide +kernel
theorem dX9_house_108 : decode cX9_house 108 = .ok (.goto 6, 3) := by decide +kernel
theorem dX9_house_111 : decode cX9_house 111 = .ok (.iconst 1, 1) := by decide +kernel
theorem dX9_house_112 : decode cX9_house 112 = .ok (.iload_n 1, 1) := by decide +kernel
theorem dX9_house_113 : decode cX9_house 113 = .ok (.ishl, 1) := by decide +kernel
theorem dX9_house_114 : decode cX9_house 114 = .ok (.iload_n 2, 1) := by decide +kernel
theorem dX9_house_115 : decode cX9_house 115 = .ok (.ifCond .ge 7, 3) := by decide +kernel
theorem dX9_house_118 : decode cX9_house 118 = .ok (.iconst 0, 1) := by decide +kernel
theorem dX9_house_119 : decode cX9_house 119 = .ok (.goto 6, 3) := by decide +kernel
theorem dX9_house_122 : decode cX9_house 122 = .ok (.iconst 1, 1) := by decide +kernel
theorem dX9_house_123 : decode cX9_house 123 = .ok (.iload_n 2, 1) := by decide +kernel
theorem dX9_house_124 : decode cX9_house 124 = .ok (.ishl, 1) := by decide +kernel
theorem dX9_house_125 : decode cX9_house 125 = .ok (.ior, 1) := by decide +kernel
theorem dX9_house_126 : decode cX9_house 126 = .ok (.iload_n 3, 1) := by decide +kernel
theorem dX9_house_127 : decode cX9_house 127 = .ok (.ifCond .ge 7, 3) := by decide +kernel
theorem dX9_house_130 : decode cX9_house 130 = .ok (.iconst 0, 1) := by decide +kernel
theorem dX9_house_131 : decode cX9_house 131 = .ok (.goto 6, 3) := by decide +kernel
theorem dX9_house_134 : decode cX9_house 134 = .ok (.iconst 1, 1) := by decide +kernel
theorem dX9_house_135 : decode cX9_house 135 = .ok (.iload_n 3, 1) := by decide +kernel
theorem dX9_house_136 : decode cX9_house 136 = .ok (.ishl, 1) := by decide +kernel
theorem dX9_house_137 : decode cX9_house 137 = .ok (.ior, 1) := by decide +kernel
theorem dX9_house_138 : decode cX9_house 138 = .ok (.invokevirtual 84, 3) := by decide +kernel
theorem dX9_house_141 : decode cX9_house 141 = .ok (.aload_n 0, 1) := by decide +kernel
theorem dX9_house_142 : decode cX9_house 142 = .ok (.iload 6, 2) := by decide +kernel
theorem dX9_house_144 : decode cX9_house 144 = .ok (.iconst 5, 1) := by decide +kernel
theorem dX9_house_145 : decode cX9_house 145 = .ok (.iload 4, 2) := by decide +kernel
theorem dX9_house_147 : decode cX9_house 147 = .ok (.invokevirtual 84, 3) := by decide +kernel
theorem dX9_house_150 : decode cX9_house 150 = .ok (.aload_n 0, 1) := by decide +kernel
theorem dX9_house_151 : decode cX9_house 151 = .ok (.iload 6, 2) := by decide +kernel
theorem dX9_house_153 : decode cX9_house 153 = .ok (.bipush 6, 2) := by decide +kernel
theorem dX9_house_155 : decode cX9_house 155 = .ok (.iload 5, 2) := by decide +kernel
theorem dX9_house_157 : decode cX9_house 157 = .ok (.invokevirtual 84, 3) := by decide +kernel
theorem dX9_house_160 : decode cX9_house 160 = .ok (.aload_n 0, 1) := by decide +kernel
theorem dX9_house_161 : decode cX9_house 161 = .ok (.iload 6, 2) := by decide +kernel
theorem dX9_house_163 : decode cX9_house 163 = .ok (.invokevirtual 88, 3) := by decide +kernel
theorem dX9_house_166 : decode cX9_house 166 = .ok (.aload_n 0, 1) := by decide +kernel
theorem dX9_house_167 : decode cX9_house 167 = .ok (.getfield 7, 3) := by decide +kernel
theorem dX9_house_170 : decode cX9_house 170 = .ok (.iconst 0, 1) := by decide +kernel
theorem dX9_house_171 : decode cX9_house 171 = .ok (.dup2, 1) := by decide +kernel
theorem dX9_house_172 : decode cX9_house 172 = .ok (.iaload, 1) := by decide +kernel
theorem dX9_house_173 : decode cX9_house 173 = .ok (.iconst 1, 1) := by decide +kernel
theorem dX9_house_174 : decode cX9_house 174 = .ok (.iadd, 1) := by decide +kernel
theorem dX9_house_175 : decode cX9_house 175 = .ok (.iastore, 1) := by decide +kernel
theorem dX9_house_176 : decode cX9_house 176 = .ok (.iload 6, 2) := by decide +kernel
theorem dX9_house_178 : decode cX9_house 178 = .ok (.ireturn, 1) := by decide +kernel
def lX9_house_44 (F : Nat) (K55 : mS → Option (mS × Int32)) (t : Nat) (a1 : Int32) (a2 : Int32) (a3 : Int32) (a4 : Int32) (a5 : Int32) (S : mS)  : Option (mS × Int32) := if a2 < 0 then (K55 S ) else (if a2 = a3 then (some (S, (-1 : Int32))) else (K55 S ))
set_option maxHeartbeats 4000000 in
set_option maxRecDepth 100000 in
theorem gX9_house_44 {x : mX} {F : Nat} {t : Nat} {a1 : Int32} {a2 : Int32} {a3 : Int32} {a4 : Int32} {a5 : Int32} {K55 : mS → Option (mS × Int32)} {R : mS × Int32} (ht : kd0 t = 9) (hK55 : ∀ (S : mS)  , K55 S  = some R → mG x μX9_house 3 0 0 (mQe R.1 (some (.int R.2))) 0 0 E0 S 55 [(0, .ref (t)), (1, .int (a1)), (2, .int (a2)), (3, .int (a3)), (4, .int (a4)), (5, .int (a5))] []) (S : mS)   (h : lX9_house_44 F K55 t a1 a2 a3 a4 a5 S  = some R) : mG x μX9_house 3 0 0 (mQe R.1 (some (.int R.2))) 0 0 E0 S 44 [(0, .ref (t)), (1, .int (a1)), (2, .int (a2)), (3, .int (a3)), (4, .int (a4)), (5, .int (a5))] [] := by
  unfold lX9_house_44 at h
  refine mG.iload_n 2 dX9_house_44 rfl ?_
  refine mG.if_lt 55 dX9_house_45 (by decide) (fun c2 => ?_) (fun c2 => ?_)
  · replace h := itp c2 h
    refine mG.sub (lv2 := [(0, .ref (t)), (1, .int (a1)), (2, .int (a2)), (3, .int (a3)), (4, .int (a4)), (5, .int (a5))]) [0, 1, 2, 3, 4, 5] rfl ?_
    exact hK55 S   h
  · replace h := itn c2 h
    refine mG.iload_n 2 dX9_house_48 rfl ?_
    refine mG.iload_n 3 dX9_house_49 rfl ?_
    refine mG.icmp_ne 55 dX9_house_50 (by decide) (fun c1 => ?_) (fun c1 => ?_)
    · replace h := itn c1 h
      refine mG.sub (lv2 := [(0, .ref (t)), (1, .int (a1)), (2, .int (a2)), (3, .int (a3)), (4, .int (a4)), (5, .int (a5))]) [0, 1, 2, 3, 4, 5] rfl ?_
      exact hK55 S   h
    · replace h := itp c1 h
      refine mG.iconst (v := (-1)) dX9_house_53 rfl ?_
      obtain rfl := Option.some.inj h
      exact mG.iret dX9_house_54 rfl ⟨rfl, rfl, rfl⟩
def lX9_house_55 (F : Nat) (K114 : mS → Int32 → Int32 → Int32 → Int32 → Option (mS × Int32)) (t : Nat) (a1 : Int32) (a2 : Int32) (a3 : Int32) (a4 : Int32) (a5 : Int32) (S : mS)  : Option (mS × Int32) := if (f_X9_isIn S a4 (0 : Int32) (9999 : Int32)) = true then (if (f_X9_isIn S a5 (0 : Int32) (99 : Int32)) = true then (ck (inb (0 : Int32) 2308) (if (S.1 (t + 1) (0 : Int32).toNatClampNeg) = (7 : Int32) then (some (S, (-1 : Int32))) else (ck (inb (0 : Int32) 2308) (if 0 ≤ a1 then (K114 S (S.1 (t + 1) (0 : Int32).toNatClampNeg) ((1 : Int32) <<< (a1 &&& 31)) (4 : Int32) (S.1 (t + 1) (0 : Int32).toNatClampNeg)) else (K114 S (S.1 (t + 1) (0 : Int32).toNatClampNeg) (0 : Int32) (4 : Int32) (S.1 (t + 1) (0 : Int32).toNatClampNeg)))))) else (some (S, (-1 : Int32)))) else (some (S, (-1 : Int32)))
set_option maxHeartbeats 4000000 in
set_option maxRecDepth 100000 in
theorem gX9_house_55 {x : mX} {F : Nat} {t : Nat} {a1 : Int32} {a2 : Int32} {a3 : Int32} {a4 : Int32} {a5 : Int32} {K114 : mS → Int32 → Int32 → Int32 → Int32 → Option (mS × Int32)} {R : mS × Int32} (ht : kd0 t = 9) (hK114 : ∀ (S : mS) (v6 : Int32) (s0 : Int32) (s1 : Int32) (s2 : Int32) (ks3 : kd0 (t) = 9), K114 S v6 s0 s1 s2 = some R → mG x μX9_house 3 0 0 (mQe R.1 (some (.int R.2))) 0 0 E0 S 114 [(0, .ref (t)), (2, .int (a2)), (3, .int (a3)), (4, .int (a4)), (5, .int (a5)), (6, .int (v6))] [.int (s0), .int (s1), .int (s2), .ref (t)]) (S : mS)   (h : lX9_house_55 F K114 t a1 a2 a3 a4 a5 S  = some R) : mG x μX9_house 3 0 0 (mQe R.1 (some (.int R.2))) 0 0 E0 S 55 [(0, .ref (t)), (1, .int (a1)), (2, .int (a2)), (3, .int (a3)), (4, .int (a4)), (5, .int (a5))] [] := by
  unfold lX9_house_55 at h
  refine mG.iload 4 dX9_house_55 rfl ?_
  refine mG.iconst (v := 0) dX9_house_57 rfl ?_
  refine mG.sipush (v := 9999) dX9_house_58 (by decide) ?_
  refine mG.callS0 (as := [.int (a4), .int 0, .int 9999]) (st := []) (S2 := S) (r := some (.int (bI (f_X9_isIn S a4 (0 : Int32) (9999 : Int32))))) dX9_house_61 mbX9_isIn wk7_13 wk7_12 rfl rfl (by decide) (Nat.le_of_ble_eq_true rfl) (c_X9_isIn  rfl) ?_
  refine mG.ifz_eq (b := f_X9_isIn S a4 (0 : Int32) (9999 : Int32)) 89 dX9_house_64 (by decide) (fun c6 => ?_) (fun c6 => ?_)
  · replace h := itn c6 h
    refine mG.iconst (v := (-1)) dX9_house_89 rfl ?_
    obtain rfl := Option.some.inj h
    exact mG.iret dX9_house_90 rfl ⟨rfl, rfl, rfl⟩
  · replace h := itp c6 h
    refine mG.iload 5 dX9_house_67 rfl ?_
    refine mG.iconst (v := 0) dX9_house_69 rfl ?_
    refine mG.bipush (v := 99) dX9_house_70 (by decide) ?_
    refine mG.callS0 (as := [.int (a5), .int 0, .int 99]) (st := []) (S2 := S) (r := some (.int (bI (f_X9_isIn S a5 (0 : Int32) (99 : Int32))))) dX9_house_72 mbX9_isIn wk7_13 wk7_12 rfl rfl (by decide) (Nat.le_of_ble_eq_true rfl) (c_X9_isIn  rfl) ?_
    refine mG.ifz_eq (b := f_X9_isIn S a5 (0 : Int32) (99 : Int32)) 89 dX9_house_75 (by decide) (fun c5 => ?_) (fun c5 => ?_)
    · replace h := itn c5 h
      refine mG.iconst (v := (-1)) dX9_house_89 rfl ?_
      obtain rfl := Option.some.inj h
      exact mG.iret dX9_house_90 rfl ⟨rfl, rfl, rfl⟩
    · replace h := itp c5 h
      refine mG.aload_n 0 dX9_house_78 rfl ?_
      refine mG.get (v := .ref (t + 1)) dX9_house_79 mfX9_7 ht (lr9_a ht) ?_
      refine mG.iconst (v := 0) dX9_house_82 rfl ?_
      obtain ⟨b1, h⟩ := ckp h
      refine mG.iald dX9_house_83 (lk9_a ht) (ll9_a ht) (inbp b1) ?_
      refine mG.bipush (v := 7) dX9_house_84 (by decide) ?_
      refine mG.icmp_ne 91 dX9_house_86 (by decide) (fun c4 => ?_) (fun c4 => ?_)
      · replace h := itn c4 h
        refine mG.aload_n 0 dX9_house_91 rfl ?_
        refine mG.get (v := .ref (t + 1)) dX9_house_92 mfX9_7 ht (lr9_a ht) ?_
        refine mG.iconst (v := 0) dX9_house_95 rfl ?_
        obtain ⟨b2, h⟩ := ckp h
        refine mG.iald dX9_house_96 (lk9_a ht) (ll9_a ht) (inbp b2) ?_
        refine mG.istore (lv2 := [(6, .int (S.1 (t + 1) (0 : Int32).toNatClampNeg)), (0, .ref (t)), (1, .int (a1)), (2, .int (a2)), (3, .int (a3)), (4, .int (a4)), (5, .int (a5))]) dX9_house_97 (by decide) rfl ?_
        refine mG.aload_n 1 dX9_house_99 rfl ?_
        refine mG.iload 0 dX9_house_100 rfl ?_
        refine mG.iconst (v := 4) dX9_house_102 rfl ?_
        refine mG.iload_n 2 dX9_house_103 rfl ?_
        refine mG.if_ge 111 dX9_house_104 (by decide) (fun c3 => ?_) (fun c3 => ?_)
        · replace h := itp c3 h
          refine mG.iconst (v := 1) dX9_house_111 rfl ?_
          refine mG.iload_n 2 dX9_house_112 rfl ?_
          refine mG.ishl dX9_house_113 ?_
          refine mG.sub (lv2 := [(0, .ref (t)), (2, .int (a2)), (3, .int (a3)), (4, .int (a4)), (5, .int (a5)), (6, .int (S.1 (t + 1) (0 : Int32).toNatClampNeg))]) [1, 3, 4, 5, 6, 0] rfl ?_
          exact hK114 S (S.1 (t + 1) (0 : Int32).toNatClampNeg) ((1 : Int32) <<< (a1 &&& 31)) (4 : Int32) (S.1 (t + 1) (0 : Int32).toNatClampNeg) ht h
        · replace h := itn c3 h
          refine mG.iconst (v := 0) dX9_house_107 rfl ?_
          refine mG.goto 114 dX9_house_108 (by decide) ?_
          refine mG.sub (lv2 := [(0, .ref (t)), (2, .int (a2)), (3, .int (a3)), (4, .int (a4)), (5, .int (a5)), (6, .int (S.1 (t + 1) (0 : Int32).toNatClampNeg))]) [1, 3, 4, 5, 6, 0] rfl ?_
          exact hK114 S (S.1 (t + 1) (0 : Int32).toNatClampNeg) (0 : Int32) (4 : Int32) (S.1 (t + 1) (0 : Int32).toNatClampNeg) ht h
      · replace h := itp c4 h
        refine mG.iconst (v := (-1)) dX9_house_89 rfl ?_
        obtain rfl := Option.some.inj h
        exact mG.iret dX9_house_90 rfl ⟨rfl, rfl, rfl⟩
def lX9_house_114 (F : Nat) (K125 : mS → Int32 → Int32 → Int32 → Int32 → Int32 → Option (mS × Int32)) (t : Nat) (a1 : Int32) (a2 : Int32) (a3 : Int32) (a4 : Int32) (a5 : Int32) (S : mS) (v6 : Int32) (s0 : Int32) (s1 : Int32) (s2 : Int32) : Option (mS × Int32) := if 0 ≤ a2 then (K125 S v6 ((1 : Int32) <<< (a2 &&& 31)) s0 s1 s2) else (K125 S v6 (0 : Int32) s0 s1 s2)
set_option maxHeartbeats 4000000 in
set_option maxRecDepth 100000 in
theorem gX9_house_114 {x : mX} {F : Nat} {t : Nat} {a1 : Int32} {a2 : Int32} {a3 : Int32} {a4 : Int32} {a5 : Int32} {K125 : mS → Int32 → Int32 → Int32 → Int32 → Int32 → Option (mS × Int32)} {R : mS × Int32} (ht : kd0 t = 9) (hK125 : ∀ (S : mS) (v6 : Int32) (s0 : Int32) (s1 : Int32) (s2 : Int32) (s3 : Int32) (ks4 : kd0 (t) = 9), K125 S v6 s0 s1 s2 s3 = some R → mG x μX9_house 3 0 0 (mQe R.1 (some (.int R.2))) 0 0 E0 S 125 [(0, .ref (t)), (3, .int (a3)), (4, .int (a4)), (5, .int (a5)), (6, .int (v6))] [.int (s0), .int (s1), .int (s2), .int (s3), .ref (t)]) (S : mS) (v6 : Int32) (s0 : Int32) (s1 : Int32) (s2 : Int32) (ks3 : kd0 (t) = 9) (h : lX9_house_114 F K125 t a1 a2 a3 a4 a5 S v6 s0 s1 s2 = some R) : mG x μX9_house 3 0 0 (mQe R.1 (some (.int R.2))) 0 0 E0 S 114 [(0, .ref (t)), (2, .int (a2)), (3, .int (a3)), (4, .int (a4)), (5, .int (a5)), (6, .int (v6))] [.int (s0), .int (s1), .int (s2), .ref (t)] := by
  unfold lX9_house_114 at h
  refine mG.iload_n 1 dX9_house_114 rfl ?_
  refine mG.if_ge 122 dX9_house_115 (by decide) (fun c1 => ?_) (fun c1 => ?_)
  · replace h := itp c1 h
    refine mG.iconst (v := 1) dX9_house_122 rfl ?_
    refine mG.iload_n 1 dX9_house_123 rfl ?_
    refine mG.ishl dX9_house_124 ?_
    refine mG.sub (lv2 := [(0, .ref (t)), (3, .int (a3)), (4, .int (a4)), (5, .int (a5)), (6, .int (v6))]) [0, 2, 3, 4, 5] rfl ?_
    exact hK125 S v6 ((1 : Int32) <<< (a2 &&& 31)) s0 s1 s2 ks3 h
  · replace h := itn c1 h
    refine mG.iconst (v := 0) dX9_house_118 rfl ?_
    refine mG.goto 125 dX9_house_119 (by decide) ?_
    refine mG.sub (lv2 := [(0, .ref (t)), (3, .int (a3)), (4, .int (a4)), (5, .int (a5)), (6, .int (v6))]) [0, 2, 3, 4, 5] rfl ?_
    exact hK125 S v6 (0 : Int32) s0 s1 s2 ks3 h
def lX9_house_125 (F : Nat) (K137 : mS → Int32 → Int32 → Int32 → Int32 → Int32 → Option (mS × Int32)) (t : Nat) (a1 : Int32) (a2 : Int32) (a3 : Int32) (a4 : Int32) (a5 : Int32) (S : mS) (v6 : Int32) (s0 : Int32) (s1 : Int32) (s2 : Int32) (s3 : Int32) : Option (mS × Int32) := if 0 ≤ a3 then (K137 S v6 ((1 : Int32) <<< (a3 &&& 31)) (s1 ||| s0) s2 s3) else (K137 S v6 (0 : Int32) (s1 ||| s0) s2 s3)
set_option maxHeartbeats 4000000 in
set_option maxRecDepth 100000 in
theorem gX9_house_125 {x : mX} {F : Nat} {t : Nat} {a1 : Int32} {a2 : Int32} {a3 : Int32} {a4 : Int32} {a5 : Int32} {K137 : mS → Int32 → Int32 → Int32 → Int32 → Int32 → Option (mS × Int32)} {R : mS × Int32} (ht : kd0 t = 9) (hK137 : ∀ (S : mS) (v6 : Int32) (s0 : Int32) (s1 : Int32) (s2 : Int32) (s3 : Int32) (ks4 : kd0 (t) = 9), K137 S v6 s0 s1 s2 s3 = some R → mG x μX9_house 3 0 0 (mQe R.1 (some (.int R.2))) 0 0 E0 S 137 [(0, .ref (t)), (4, .int (a4)), (5, .int (a5)), (6, .int (v6))] [.int (s0), .int (s1), .int (s2), .int (s3), .ref (t)]) (S : mS) (v6 : Int32) (s0 : Int32) (s1 : Int32) (s2 : Int32) (s3 : Int32) (ks4 : kd0 (t) = 9) (h : lX9_house_125 F K137 t a1 a2 a3 a4 a5 S v6 s0 s1 s2 s3 = some R) : mG x μX9_house 3 0 0 (mQe R.1 (some (.int R.2))) 0 0 E0 S 125 [(0, .ref (t)), (3, .int (a3)), (4, .int (a4)), (5, .int (a5)), (6, .int (v6))] [.int (s0), .int (s1), .int (s2), .int (s3), .ref (t)] := by
  unfold lX9_house_125 at h
  refine mG.ior dX9_house_125 ?_
  refine mG.iload_n 1 dX9_house_126 rfl ?_
  refine mG.if_ge 134 dX9_house_127 (by decide) (fun c1 => ?_) (fun c1 => ?_)
  · replace h := itp c1 h
    refine mG.iconst (v := 1) dX9_house_134 rfl ?_
    refine mG.iload_n 1 dX9_house_135 rfl ?_
    refine mG.ishl dX9_house_136 ?_
    refine mG.sub (lv2 := [(0, .ref (t)), (4, .int (a4)), (5, .int (a5)), (6, .int (v6))]) [0, 2, 3, 4] rfl ?_
    exact hK137 S v6 ((1 : Int32) <<< (a3 &&& 31)) (s1 ||| s0) s2 s3 ks4 h
  · replace h := itn c1 h
    refine mG.iconst (v := 0) dX9_house_130 rfl ?_
    refine mG.goto 137 dX9_house_131 (by decide) ?_
    refine mG.sub (lv2 := [(0, .ref (t)), (4, .int (a4)), (5, .int (a5)), (6, .int (v6))]) [0, 2, 3, 4] rfl ?_
    exact hK137 S v6 (0 : Int32) (s1 ||| s0) s2 s3 ks4 h
def lX9_house_137 (F : Nat)  (t : Nat) (a1 : Int32) (a2 : Int32) (a3 : Int32) (a4 : Int32) (a5 : Int32) (S : mS) (v6 : Int32) (s0 : Int32) (s1 : Int32) (s2 : Int32) (s3 : Int32) : Option (mS × Int32) := bd (f_X9_put F S t s3 s2 (s1 ||| s0)) fun q1 => bd (f_X9_put F q1 t v6 (5 : Int32) a4) fun q2 => bd (f_X9_put F q2 t v6 (6 : Int32) a5) fun q3 => bd (f_X9_begin F q3 t v6) fun q4 => ck (inb (0 : Int32) 2308) (ck (inb (0 : Int32) 2308) (stp (sI q4 (t + 1) (0 : Int32).toNatClampNeg ((q4.1 (t + 1) (0 : Int32).toNatClampNeg) + (1 : Int32))) fun S7 => some (S7, v6)))
set_option maxHeartbeats 4000000 in
set_option maxRecDepth 100000 in
theorem gX9_house_137 {x : mX} {F : Nat} {t : Nat} {a1 : Int32} {a2 : Int32} {a3 : Int32} {a4 : Int32} {a5 : Int32}  {R : mS × Int32} (ht : kd0 t = 9)  (S : mS) (v6 : Int32) (s0 : Int32) (s1 : Int32) (s2 : Int32) (s3 : Int32) (ks4 : kd0 (t) = 9) (h : lX9_house_137 F  t a1 a2 a3 a4 a5 S v6 s0 s1 s2 s3 = some R) : mG x μX9_house 3 0 0 (mQe R.1 (some (.int R.2))) 0 0 E0 S 137 [(0, .ref (t)), (4, .int (a4)), (5, .int (a5)), (6, .int (v6))] [.int (s0), .int (s1), .int (s2), .int (s3), .ref (t)] := by
  unfold lX9_house_137 at h
  refine mG.ior dX9_house_137 ?_
  obtain ⟨q1, hq1, h⟩ := bdp h
  refine mG.callV0 (as := [.int (s3), .int (s2), .int (s1 ||| s0)]) (st := []) (S2 := q1) (r := none) dX9_house_138 mvX9_put wk7_15 rfl ks4 rfl (by decide) (Nat.le_of_ble_eq_true rfl) (c_X9_put ks4 hq1) ?_
  refine mG.aload_n 0 dX9_house_141 rfl ?_
  refine mG.iload 3 dX9_house_142 rfl ?_
  refine mG.iconst (v := 5) dX9_house_144 rfl ?_
  refine mG.iload 1 dX9_house_145 rfl ?_
  obtain ⟨q2, hq2, h⟩ := bdp h
  refine mG.callV0 (as := [.int (v6), .int 5, .int (a4)]) (st := []) (S2 := q2) (r := none) dX9_house_147 mvX9_put wk7_15 rfl ht rfl (by decide) (Nat.le_of_ble_eq_true rfl) (c_X9_put ht hq2) ?_
  refine mG.aload_n 0 dX9_house_150 rfl ?_
  refine mG.iload 3 dX9_house_151 rfl ?_
  refine mG.bipush (v := 6) dX9_house_153 (by decide) ?_
  refine mG.iload 2 dX9_house_155 rfl ?_
  obtain ⟨q3, hq3, h⟩ := bdp h
  refine mG.callV0 (as := [.int (v6), .int 6, .int (a5)]) (st := []) (S2 := q3) (r := none) dX9_house_157 mvX9_put wk7_15 rfl ht rfl (by decide) (Nat.le_of_ble_eq_true rfl) (c_X9_put ht hq3) ?_
  refine mG.aload_n 0 dX9_house_160 rfl ?_
  refine mG.iload 3 dX9_house_161 rfl ?_
  obtain ⟨q4, hq4, h⟩ := bdp h
  refine mG.callV0 (as := [.int (v6)]) (st := []) (S2 := q4) (r := none) dX9_house_163 mvX9_begin wk7_19 rfl ht rfl (by decide) (Nat.le_of_ble_eq_true rfl) (c_X9_begin ht hq4) ?_
  refine mG.aload_n 0 dX9_house_166 rfl ?_
  refine mG.get (v := .ref (t + 1)) dX9_house_167 mfX9_7 ht (lr9_a ht) ?_
  refine mG.iconst (v := 0) dX9_house_170 rfl ?_
  refine mG.dup2 dX9_house_171 rfl rfl ?_
  obtain ⟨b5, h⟩ := ckp h
  refine mG.iald dX9_house_172 (lk9_a ht) (ll9_a ht) (inbp b5) ?_
  refine mG.iconst (v := 1) dX9_house_173 rfl ?_
  refine mG.iadd dX9_house_174 ?_
  obtain ⟨b6, h⟩ := ckp h
  obtain ⟨S7, hS7, h⟩ := stpp h
  refine mG.iast dX9_house_175 (lk9_a ht) (ll9_a ht) (inbp b6) hS7 ?_
  refine mG.iload 3 dX9_house_176 rfl ?_
  obtain rfl := Option.some.inj h
  exact mG.iret dX9_house_178 rfl ⟨rfl, rfl, rfl⟩
def f_X9_house (F : Nat) (S : mS) (t : Nat) (a1 : Int32) (a2 : Int32) (a3 : Int32) (a4 : Int32) (a5 : Int32) : Option (mS × Int32) := if (f_X9_isIn S a1 (-1 : Int32) (19 : Int32)) = true then (if (f_X9_isIn S a2 (-1 : Int32) (19 : Int32)) = true then (if (f_X9_isIn S a3 (-1 : Int32) (19 : Int32)) = true then (if a1 < 0 then (lX9_house_44 F (fun (S : mS)  => lX9_house_55 F (fun (S : mS) (v6 : Int32) (s0 : Int32) (s1 : Int32) (s2 : Int32) => lX9_house_114 F (fun (S : mS) (v6 : Int32) (s0 : Int32) (s1 : Int32) (s2 : Int32) (s3 : Int32) => lX9_house_125 F (fun (S : mS) (v6 : Int32) (s0 : Int32) (s1 : Int32) (s2 : Int32) (s3 : Int32) => lX9_house_137 F  t a1 a2 a3 a4 a5 S v6 s0 s1 s2 s3) t a1 a2 a3 a4 a5 S v6 s0 s1 s2 s3) t a1 a2 a3 a4 a5 S v6 s0 s1 s2) t a1 a2 a3 a4 a5 S ) t a1 a2 a3 a4 a5 S ) else (if a1 = a2 then (some (S, (-1 : Int32))) else (if a1 = a3 then (some (S, (-1 : Int32))) else (lX9_house_44 F (fun (S : mS)  => lX9_house_55 F (fun (S : mS) (v6 : Int32) (s0 : Int32) (s1 : Int32) (s2 : Int32) => lX9_house_114 F (fun (S : mS) (v6 : Int32) (s0 : Int32) (s1 : Int32) (s2 : Int32) (s3 : Int32) => lX9_house_125 F (fun (S : mS) (v6 : Int32) (s0 : Int32) (s1 : Int32) (s2 : Int32) (s3 : Int32) => lX9_house_137 F  t a1 a2 a3 a4 a5 S v6 s0 s1 s2 s3) t a1 a2 a3 a4 a5 S v6 s0 s1 s2 s3) t a1 a2 a3 a4 a5 S v6 s0 s1 s2) t a1 a2 a3 a4 a5 S ) t a1 a2 a3 a4 a5 S )))) else (some (S, (-1 : Int32)))) else (some (S, (-1 : Int32)))) else (some (S, (-1 : Int32)))
set_option maxHeartbeats 4000000 in
set_option maxRecDepth 100000 in
theorem c_X9_house {F : Nat} {S : mS} {t : Nat} {a1 : Int32} {a2 : Int32} {a3 : Int32} {a4 : Int32} {a5 : Int32} {R : mS × Int32} (ht : kd0 t = 9) (h : f_X9_house F S t a1 a2 a3 a4 a5 = some R) : mCt μX9_house 3 0 0 E0 S [.ref (t), .int (a1), .int (a2), .int (a3), .int (a4), .int (a5)] (mQe R.1 (some (.int R.2))) := by
  unfold f_X9_house at h
  refine mCt.of (by decide) (Nat.le_of_ble_eq_true rfl) ?_
  intro x
  refine mG.iload_n 1 dX9_house_0 rfl ?_
  refine mG.iconst (v := (-1)) dX9_house_1 rfl ?_
  refine mG.bipush (v := 19) dX9_house_2 (by decide) ?_
  refine mG.callS0 (as := [.int (a1), .int (-1), .int 19]) (st := []) (S2 := S) (r := some (.int (bI (f_X9_isIn S a1 (-1 : Int32) (19 : Int32))))) dX9_house_4 mbX9_isIn wk7_13 wk7_12 rfl rfl (by decide) (Nat.le_of_ble_eq_true rfl) (c_X9_isIn  rfl) ?_
  refine mG.ifz_eq (b := f_X9_isIn S a1 (-1 : Int32) (19 : Int32)) 53 dX9_house_7 (by decide) (fun c6 => ?_) (fun c6 => ?_)
  · replace h := itn c6 h
    refine mG.iconst (v := (-1)) dX9_house_53 rfl ?_
    obtain rfl := Option.some.inj h
    exact mG.iret dX9_house_54 rfl ⟨rfl, rfl, rfl⟩
  · replace h := itp c6 h
    refine mG.iload_n 2 dX9_house_10 rfl ?_
    refine mG.iconst (v := (-1)) dX9_house_11 rfl ?_
    refine mG.bipush (v := 19) dX9_house_12 (by decide) ?_
    refine mG.callS0 (as := [.int (a2), .int (-1), .int 19]) (st := []) (S2 := S) (r := some (.int (bI (f_X9_isIn S a2 (-1 : Int32) (19 : Int32))))) dX9_house_14 mbX9_isIn wk7_13 wk7_12 rfl rfl (by decide) (Nat.le_of_ble_eq_true rfl) (c_X9_isIn  rfl) ?_
    refine mG.ifz_eq (b := f_X9_isIn S a2 (-1 : Int32) (19 : Int32)) 53 dX9_house_17 (by decide) (fun c5 => ?_) (fun c5 => ?_)
    · replace h := itn c5 h
      refine mG.iconst (v := (-1)) dX9_house_53 rfl ?_
      obtain rfl := Option.some.inj h
      exact mG.iret dX9_house_54 rfl ⟨rfl, rfl, rfl⟩
    · replace h := itp c5 h
      refine mG.iload_n 3 dX9_house_20 rfl ?_
      refine mG.iconst (v := (-1)) dX9_house_21 rfl ?_
      refine mG.bipush (v := 19) dX9_house_22 (by decide) ?_
      refine mG.callS0 (as := [.int (a3), .int (-1), .int 19]) (st := []) (S2 := S) (r := some (.int (bI (f_X9_isIn S a3 (-1 : Int32) (19 : Int32))))) dX9_house_24 mbX9_isIn wk7_13 wk7_12 rfl rfl (by decide) (Nat.le_of_ble_eq_true rfl) (c_X9_isIn  rfl) ?_
      refine mG.ifz_eq (b := f_X9_isIn S a3 (-1 : Int32) (19 : Int32)) 53 dX9_house_27 (by decide) (fun c4 => ?_) (fun c4 => ?_)
      · replace h := itn c4 h
        refine mG.iconst (v := (-1)) dX9_house_53 rfl ?_
        obtain rfl := Option.some.inj h
        exact mG.iret dX9_house_54 rfl ⟨rfl, rfl, rfl⟩
      · replace h := itp c4 h
        refine mG.iload_n 1 dX9_house_30 rfl ?_
        refine mG.if_lt 44 dX9_house_31 (by decide) (fun c3 => ?_) (fun c3 => ?_)
        · replace h := itp c3 h
          refine mG.sub (lv2 := [(0, .ref (t)), (1, .int (a1)), (2, .int (a2)), (3, .int (a3)), (4, .int (a4)), (5, .int (a5))]) [0, 1, 2, 3, 4, 5] rfl ?_
          exact gX9_house_44 ht (fun S h => by exact gX9_house_55 ht (fun S v6 s0 s1 s2 ks3 h => by exact gX9_house_114 ht (fun S v6 s0 s1 s2 s3 ks4 h => by exact gX9_house_125 ht (fun S v6 s0 s1 s2 s3 ks4 h => by exact gX9_house_137 ht   S v6 s0 s1 s2 s3 ks4 h)  S v6 s0 s1 s2 s3 ks4 h)  S v6 s0 s1 s2 ks3 h)  S   h)  S   h
        · replace h := itn c3 h
          refine mG.iload_n 1 dX9_house_34 rfl ?_
          refine mG.iload_n 2 dX9_house_35 rfl ?_
          refine mG.icmp_eq 53 dX9_house_36 (by decide) (fun c2 => ?_) (fun c2 => ?_)
          · replace h := itp c2 h
            refine mG.iconst (v := (-1)) dX9_house_53 rfl ?_
            obtain rfl := Option.some.inj h
            exact mG.iret dX9_house_54 rfl ⟨rfl, rfl, rfl⟩
          · replace h := itn c2 h
            refine mG.iload_n 1 dX9_house_39 rfl ?_
            refine mG.iload_n 3 dX9_house_40 rfl ?_
            refine mG.icmp_eq 53 dX9_house_41 (by decide) (fun c1 => ?_) (fun c1 => ?_)
            · replace h := itp c1 h
              refine mG.iconst (v := (-1)) dX9_house_53 rfl ?_
              obtain rfl := Option.some.inj h
              exact mG.iret dX9_house_54 rfl ⟨rfl, rfl, rfl⟩
            · replace h := itn c1 h
              refine mG.sub (lv2 := [(0, .ref (t)), (1, .int (a1)), (2, .int (a2)), (3, .int (a3)), (4, .int (a4)), (5, .int (a5))]) [0, 1, 2, 3, 4, 5] rfl ?_
              exact gX9_house_44 ht (fun S h => by exact gX9_house_55 ht (fun S v6 s0 s1 s2 ks3 h => by exact gX9_house_114 ht (fun S v6 s0 s1 s2 s3 ks4 h => by exact gX9_house_125 ht (fun S v6 s0 s1 s2 s3 ks4 h => by exact gX9_house_137 ht   S v6 s0 s1 s2 s3 ks4 h)  S v6 s0 s1 s2 s3 ks4 h)  S v6 s0 s1 s2 ks3 h)  S   h)  S   h
theorem dX9_four_0 : decode cX9_four 0 = .ok (.bipush 24, 2) := by decide +kernel
theorem dX9_four_2 : decode cX9_four 2 = .ok (.istore_n 2, 1) := by decide +kernel
theorem dX9_four_3 : decode cX9_four 3 = .ok (.iload_n 2, 1) := by decide +kernel
theorem dX9_four_4 : decode cX9_four 4 = .ok (.ifCond .lt 35, 3) := by decide +kernel
theorem dX9_four_7 : decode cX9_four 7 = .ok (.aload_n 0, 1) := by decide +kernel
theorem dX9_four_8 : decode cX9_four 8 = .ok (.getfield 19, 3) := by decide +kernel
theorem dX9_four_11 : decode cX9_four 11 = .ok (.aload_n 0, 1) := by decide +kernel
theorem dX9_four_12 : decode cX9_four 12 = .ok (.getfield 92, 3) := by decide +kernel
theorem dX9_four_15 : decode cX9_four 15 = .ok (.iload_n 1, 1) := by decide +kernel
theorem dX9_four_16 : decode cX9_four 16 = .ok (.iload_n 2, 1) := by decide +kernel
theorem dX9_four_17 : decode cX9_four 17 = .ok (.ishr, 1) := by decide +kernel
theorem dX9_four_18 : decode cX9_four 18 = .ok (.sipush 255, 3) := by decide +kernel
theorem dX9_four_21 : decode cX9_four 21 = .ok (.iand, 1) := by decide +kernel
theorem dX9_four_22 : decode cX9_four 22 = .ok (.iastore, 1) := by decide +kernel
theorem dX9_four_23 : decode cX9_four 23 = .ok (.aload_n 0, 1) := by decide +kernel
theorem dX9_four_24 : decode cX9_four 24 = .ok (.dup, 1) := by decide +kernel
theorem dX9_four_25 : decode cX9_four 25 = .ok (.getfield 92, 3) := by decide +kernel
theorem dX9_four_28 : decode cX9_four 28 = .ok (.iconst 1, 1) := by decide +kernel
theorem dX9_four_29 : decode cX9_four 29 = .ok (.iadd, 1) := by decide +kernel
theorem dX9_four_30 : decode cX9_four 30 = .ok (.putfield 92, 3) := by decide +kernel
theorem dX9_four_33 : decode cX9_four 33 = .ok (.iinc 2 (-8), 3) := by decide +kernel
theorem dX9_four_36 : decode cX9_four 36 = .ok (.goto (-33), 3) := by decide +kernel
theorem dX9_four_39 : decode cX9_four 39 = .ok (.return_, 1) := by decide +kernel
def lX9_four_3 (F : Nat)  (t : Nat) (a1 : Int32) : Nat → mS → Int32 → Option mS
  | 0, _, _ => none
  | n + 1, S, v2 => if v2 < 0 then (some S) else (ck (inb (S.1 t 4) 300) (stp (sI S (t + 4) (S.1 t 4).toNatClampNeg ((a1 >>> (v2 &&& 31)) &&& (255 : Int32))) fun S2 => stp (sI S2 t 4 ((S2.1 t 4) + (1 : Int32))) fun S3 => lX9_four_3 F  t a1 n S3 (v2 + (-8))))
set_option maxHeartbeats 4000000 in
set_option maxRecDepth 100000 in
theorem gX9_four_3 {x : mX} {F : Nat} {t : Nat} {a1 : Int32}   {R : mS} (ht : kd0 t = 9)  : ∀ (n : Nat) (S : mS) (v2 : Int32), lX9_four_3 F  t a1 n S v2 = some R → mG x μX9_four 1 0 0 (mQe R none) 0 0 E0 S 3 [(0, .ref (t)), (1, .int (a1)), (2, .int (v2))] [] := by
  intro n
  induction n with
  | zero =>
    intro S v2 h
    cases h
  | succ n ih =>
    intro S v2 h
    unfold lX9_four_3 at h
    refine mG.iload_n 2 dX9_four_3 rfl ?_
    refine mG.if_lt 39 dX9_four_4 (by decide) (fun c4 => ?_) (fun c4 => ?_)
    · replace h := itp c4 h
      obtain rfl := Option.some.inj h
      exact mG.vret dX9_four_39 rfl ⟨rfl, rfl, rfl⟩
    · replace h := itn c4 h
      refine mG.aload_n 0 dX9_four_7 rfl ?_
      refine mG.get (v := .ref (t + 4)) dX9_four_8 mfX9_19 ht (lr9_tape ht) ?_
      refine mG.aload_n 0 dX9_four_11 rfl ?_
      refine mG.get (v := .int (S.1 t 4)) dX9_four_12 mfX9_92 ht rfl ?_
      refine mG.iload_n 1 dX9_four_15 rfl ?_
      refine mG.iload_n 2 dX9_four_16 rfl ?_
      refine mG.ishr dX9_four_17 ?_
      refine mG.sipush (v := 255) dX9_four_18 (by decide) ?_
      refine mG.iand dX9_four_21 ?_
      obtain ⟨b1, h⟩ := ckp h
      obtain ⟨S2, hS2, h⟩ := stpp h
      refine mG.iast dX9_four_22 (lk9_tape ht) (ll9_tape ht) (inbp b1) hS2 ?_
      refine mG.aload_n 0 dX9_four_23 rfl ?_
      refine mG.dup dX9_four_24 rfl ?_
      refine mG.get (v := .int (S2.1 t 4)) dX9_four_25 mfX9_92 ht rfl ?_
      refine mG.iconst (v := 1) dX9_four_28 rfl ?_
      refine mG.iadd dX9_four_29 ?_
      obtain ⟨S3, hS3, h⟩ := stpp h
      refine mG.putI dX9_four_30 mfX9_92 rfl (Or.inl rfl) ht hS3 ?_
      refine mG.iinc 2 (u := v2 + (-8)) (lv2 := [(2, .int (v2 + (-8))), (0, .ref (t)), (1, .int (a1))]) dX9_four_33 rfl rfl (by decide) rfl ?_
      refine mG.goto 3 dX9_four_36 (by decide) ?_
      refine mG.sub (lv2 := [(0, .ref (t)), (1, .int (a1)), (2, .int (v2 + (-8)))]) [1, 2, 0] rfl ?_
      exact ih S3 (v2 + (-8))  h
def f_X9_four (F : Nat) (S : mS) (t : Nat) (a1 : Int32) : Option mS := lX9_four_3 F  t a1 F S (24 : Int32)
set_option maxHeartbeats 4000000 in
set_option maxRecDepth 100000 in
theorem c_X9_four {F : Nat} {S : mS} {t : Nat} {a1 : Int32} {R : mS} (ht : kd0 t = 9) (h : f_X9_four F S t a1 = some R) : mCt μX9_four 1 0 0 E0 S [.ref (t), .int (a1)] (mQe R none) := by
  unfold f_X9_four at h
  refine mCt.of (by decide) (Nat.le_of_ble_eq_true rfl) ?_
  intro x
  refine mG.bipush (v := 24) dX9_four_0 (by decide) ?_
  refine mG.istore_n (lv2 := [(2, .int 24), (0, .ref (t)), (1, .int (a1))]) dX9_four_2 rfl (by decide) rfl ?_
  refine mG.sub (lv2 := [(0, .ref (t)), (1, .int (a1)), (2, .int 24)]) [1, 2, 0] rfl ?_
  exact gX9_four_3 ht  F S (24 : Int32)  h
theorem dX9_feed_0 : decode cX9_feed 0 = .ok (.aload_n 0, 1) := by decide +kernel
theorem dX9_feed_1 : decode cX9_feed 1 = .ok (.getfield 92, 3) := by decide +kernel
theorem dX9_feed_4 : decode cX9_feed 4 = .ok (.bipush 20, 2) := by decide +kernel
theorem dX9_feed_6 : decode cX9_feed 6 = .ok (.iadd, 1) := by decide +kernel
theorem dX9_feed_7 : decode cX9_feed 7 = .ok (.sipush 300, 3) := by decide +kernel
theorem dX9_feed_10 : decode cX9_feed 10 = .ok (.if_icmp .le 5, 3) := by decide +kernel
theorem dX9_feed_13 : decode cX9_feed 13 = .ok (.iconst (-1), 1) := by decide +kernel
theorem dX9_feed_14 : decode cX9_feed 14 = .ok (.ireturn, 1) := by decide +kernel
theorem dX9_feed_15 : decode cX9_feed 15 = .ok (.aload_n 0, 1) := by decide +kernel
theorem dX9_feed_16 : decode cX9_feed 16 = .ok (.iload_n 1, 1) := by decide +kernel
theorem dX9_feed_17 : decode cX9_feed 17 = .ok (.invokevirtual 95, 3) := by decide +kernel
theorem dX9_feed_20 : decode cX9_feed 20 = .ok (.aload_n 0, 1) := by decide +kernel
theorem dX9_feed_21 : decode cX9_feed 21 = .ok (.iload_n 2, 1) := by decide +kernel
theorem dX9_feed_22 : decode cX9_feed 22 = .ok (.invokevirtual 95, 3) := by decide +kernel
theorem dX9_feed_25 : decode cX9_feed 25 = .ok (.aload_n 0, 1) := by decide +kernel
theorem dX9_feed_26 : decode cX9_feed 26 = .ok (.iload_n 3, 1) := by decide +kernel
theorem dX9_feed_27 : decode cX9_feed 27 = .ok (.invokevirtual 95, 3) := by decide +kernel
theorem dX9_feed_30 : decode cX9_feed 30 = .ok (.aload_n 0, 1) := by decide +kernel
theorem dX9_feed_31 : decode cX9_feed 31 = .ok (.iload 4, 2) := by decide +kernel
theorem dX9_feed_33 : decode cX9_feed 33 = .ok (.invokevirtual 95, 3) := by decide +kernel
theorem dX9_feed_36 : decode cX9_feed 36 = .ok (.aload_n 0, 1) := by decide +kernel
theorem dX9_feed_37 : decode cX9_feed 37 = .ok (.iload 5, 2) := by decide +kernel
theorem dX9_feed_39 : decode cX9_feed 39 = .ok (.invokevirtual 95, 3) := by decide +kernel
theorem dX9_feed_42 : decode cX9_feed 42 = .ok (.aload_n 0, 1) := by decide +kernel
theorem dX9_feed_43 : decode cX9_feed 43 = .ok (.getfield 92, 3) := by decide +kernel
theorem dX9_feed_46 : decode cX9_feed 46 = .ok (.ireturn, 1) := by decide +kernel
def f_X9_feed (F : Nat) (S : mS) (t : Nat) (a1 : Int32) (a2 : Int32) (a3 : Int32) (a4 : Int32) (a5 : Int32) : Option (mS × Int32) := if ((S.1 t 4) + (20 : Int32)) ≤ (300 : Int32) then (bd (f_X9_four F S t a1) fun q1 => bd (f_X9_four F q1 t a2) fun q2 => bd (f_X9_four F q2 t a3) fun q3 => bd (f_X9_four F q3 t a4) fun q4 => bd (f_X9_four F q4 t a5) fun q5 => some (q5, q5.1 t 4)) else (some (S, (-1 : Int32)))
set_option maxHeartbeats 4000000 in
set_option maxRecDepth 100000 in
theorem c_X9_feed {F : Nat} {S : mS} {t : Nat} {a1 : Int32} {a2 : Int32} {a3 : Int32} {a4 : Int32} {a5 : Int32} {R : mS × Int32} (ht : kd0 t = 9) (h : f_X9_feed F S t a1 a2 a3 a4 a5 = some R) : mCt μX9_feed 2 0 0 E0 S [.ref (t), .int (a1), .int (a2), .int (a3), .int (a4), .int (a5)] (mQe R.1 (some (.int R.2))) := by
  unfold f_X9_feed at h
  refine mCt.of (by decide) (Nat.le_of_ble_eq_true rfl) ?_
  intro x
  refine mG.aload_n 0 dX9_feed_0 rfl ?_
  refine mG.get (v := .int (S.1 t 4)) dX9_feed_1 mfX9_92 ht rfl ?_
  refine mG.bipush (v := 20) dX9_feed_4 (by decide) ?_
  refine mG.iadd dX9_feed_6 ?_
  refine mG.sipush (v := 300) dX9_feed_7 (by decide) ?_
  refine mG.icmp_le 15 dX9_feed_10 (by decide) (fun c6 => ?_) (fun c6 => ?_)
  · replace h := itp c6 h
    refine mG.aload_n 0 dX9_feed_15 rfl ?_
    refine mG.iload_n 1 dX9_feed_16 rfl ?_
    obtain ⟨q1, hq1, h⟩ := bdp h
    refine mG.callV0 (as := [.int (a1)]) (st := []) (S2 := q1) (r := none) dX9_feed_17 mvX9_four wk8_17 rfl ht rfl (by decide) (Nat.le_of_ble_eq_true rfl) (c_X9_four ht hq1) ?_
    refine mG.aload_n 0 dX9_feed_20 rfl ?_
    refine mG.iload_n 2 dX9_feed_21 rfl ?_
    obtain ⟨q2, hq2, h⟩ := bdp h
    refine mG.callV0 (as := [.int (a2)]) (st := []) (S2 := q2) (r := none) dX9_feed_22 mvX9_four wk8_17 rfl ht rfl (by decide) (Nat.le_of_ble_eq_true rfl) (c_X9_four ht hq2) ?_
    refine mG.aload_n 0 dX9_feed_25 rfl ?_
    refine mG.iload_n 3 dX9_feed_26 rfl ?_
    obtain ⟨q3, hq3, h⟩ := bdp h
    refine mG.callV0 (as := [.int (a3)]) (st := []) (S2 := q3) (r := none) dX9_feed_27 mvX9_four wk8_17 rfl ht rfl (by decide) (Nat.le_of_ble_eq_true rfl) (c_X9_four ht hq3) ?_
    refine mG.aload_n 0 dX9_feed_30 rfl ?_
    refine mG.iload 4 dX9_feed_31 rfl ?_
    obtain ⟨q4, hq4, h⟩ := bdp h
    refine mG.callV0 (as := [.int (a4)]) (st := []) (S2 := q4) (r := none) dX9_feed_33 mvX9_four wk8_17 rfl ht rfl (by decide) (Nat.le_of_ble_eq_true rfl) (c_X9_four ht hq4) ?_
    refine mG.aload_n 0 dX9_feed_36 rfl ?_
    refine mG.iload 5 dX9_feed_37 rfl ?_
    obtain ⟨q5, hq5, h⟩ := bdp h
    refine mG.callV0 (as := [.int (a5)]) (st := []) (S2 := q5) (r := none) dX9_feed_39 mvX9_four wk8_17 rfl ht rfl (by decide) (Nat.le_of_ble_eq_true rfl) (c_X9_four ht hq5) ?_
    refine mG.aload_n 0 dX9_feed_42 rfl ?_
    refine mG.get (v := .int (q5.1 t 4)) dX9_feed_43 mfX9_92 ht rfl ?_
    obtain rfl := Option.some.inj h
    exact mG.iret dX9_feed_46 rfl ⟨rfl, rfl, rfl⟩
  · replace h := itn c6 h
    refine mG.iconst (v := (-1)) dX9_feed_13 rfl ?_
    obtain rfl := Option.some.inj h
    exact mG.iret dX9_feed_14 rfl ⟨rfl, rfl, rfl⟩
theorem dX9_end_0 : decode cX9_end 0 = .ok (.iload_n 1, 1) := by decide +kernel
theorem dX9_end_1 : decode cX9_end 1 = .ok (.iconst 0, 1) := by decide +kernel
theorem dX9_end_2 : decode cX9_end 2 = .ok (.aload_n 0, 1) := by decide +kernel
theorem dX9_end_3 : decode cX9_end 3 = .ok (.getfield 92, 3) := by decide +kernel
theorem dX9_end_6 : decode cX9_end 6 = .ok (.invokestatic 65, 3) := by decide +kernel
theorem dX9_end_9 : decode cX9_end 9 = .ok (.ifCond .ne 5, 3) := by decide +kernel
theorem dX9_end_12 : decode cX9_end 12 = .ok (.iconst (-1), 1) := by decide +kernel
theorem dX9_end_13 : decode cX9_end 13 = .ok (.ireturn, 1) := by decide +kernel
theorem dX9_end_14 : decode cX9_end 14 = .ok (.aload_n 0, 1) := by decide +kernel
theorem dX9_end_15 : decode cX9_end 15 = .ok (.iload_n 1, 1) := by decide +kernel
theorem dX9_end_16 : decode cX9_end 16 = .ok (.putfield 92, 3) := by decide +kernel
theorem dX9_end_19 : decode cX9_end 19 = .ok (.iload_n 1, 1) := by decide +kernel
theorem dX9_end_20 : decode cX9_end 20 = .ok (.ireturn, 1) := by decide +kernel
def f_X9_end (F : Nat) (S : mS) (t : Nat) (a1 : Int32) : Option (mS × Int32) := if (f_X9_isIn S a1 (0 : Int32) (S.1 t 4)) = true then (stp (sI S t 4 a1) fun S1 => some (S1, a1)) else (some (S, (-1 : Int32)))
set_option maxHeartbeats 4000000 in
set_option maxRecDepth 100000 in
theorem c_X9_end {F : Nat} {S : mS} {t : Nat} {a1 : Int32} {R : mS × Int32} (ht : kd0 t = 9) (h : f_X9_end F S t a1 = some R) : mCt μX9_end 2 0 0 E0 S [.ref (t), .int (a1)] (mQe R.1 (some (.int R.2))) := by
  unfold f_X9_end at h
  refine mCt.of (by decide) (Nat.le_of_ble_eq_true rfl) ?_
  intro x
  refine mG.iload_n 1 dX9_end_0 rfl ?_
  refine mG.iconst (v := 0) dX9_end_1 rfl ?_
  refine mG.aload_n 0 dX9_end_2 rfl ?_
  refine mG.get (v := .int (S.1 t 4)) dX9_end_3 mfX9_92 ht rfl ?_
  refine mG.callS0 (as := [.int (a1), .int 0, .int (S.1 t 4)]) (st := []) (S2 := S) (r := some (.int (bI (f_X9_isIn S a1 (0 : Int32) (S.1 t 4))))) dX9_end_6 mbX9_isIn wk7_13 wk7_12 rfl rfl (by decide) (Nat.le_of_ble_eq_true rfl) (c_X9_isIn  rfl) ?_
  refine mG.ifz_ne (b := f_X9_isIn S a1 (0 : Int32) (S.1 t 4)) 14 dX9_end_9 (by decide) (fun c2 => ?_) (fun c2 => ?_)
  · replace h := itp c2 h
    refine mG.aload_n 0 dX9_end_14 rfl ?_
    refine mG.iload_n 1 dX9_end_15 rfl ?_
    obtain ⟨S1, hS1, h⟩ := stpp h
    refine mG.putI dX9_end_16 mfX9_92 rfl (Or.inl rfl) ht hS1 ?_
    refine mG.iload_n 1 dX9_end_19 rfl ?_
    obtain rfl := Option.some.inj h
    exact mG.iret dX9_end_20 rfl ⟨rfl, rfl, rfl⟩
  · replace h := itn c2 h
    refine mG.iconst (v := (-1)) dX9_end_12 rfl ?_
    obtain rfl := Option.some.inj h
    exact mG.iret dX9_end_13 rfl ⟨rfl, rfl, rfl⟩
theorem dX9_byteAt_0 : decode cX9_byteAt 0 = .ok (.iload_n 1, 1) := by decide +kernel
theorem dX9_byteAt_1 : decode cX9_byteAt 1 = .ok (.aload_n 0, 1) := by decide +kernel
theorem dX9_byteAt_2 : decode cX9_byteAt 2 = .ok (.getfield 92, 3) := by decide +kernel
theorem dX9_byteAt_5 : decode cX9_byteAt 5 = .ok (.if_icmp .ge 12, 3) := by decide +kernel
theorem dX9_byteAt_8 : decode cX9_byteAt 8 = .ok (.aload_n 0, 1) := by decide +kernel
theorem dX9_byteAt_9 : decode cX9_byteAt 9 = .ok (.getfield 19, 3) := by decide +kernel
theorem dX9_byteAt_12 : decode cX9_byteAt 12 = .ok (.iload_n 1, 1) := by decide +kernel
theorem dX9_byteAt_13 : decode cX9_byteAt 13 = .ok (.iaload, 1) := by decide +kernel
theorem dX9_byteAt_14 : decode cX9_byteAt 14 = .ok (.goto 4, 3) := by decide +kernel
theorem dX9_byteAt_17 : decode cX9_byteAt 17 = .ok (.iconst (-1), 1) := by decide +kernel
theorem dX9_byteAt_18 : decode cX9_byteAt 18 = .ok (.ireturn, 1) := by decide +kernel
def f_X9_byteAt (F : Nat) (S0 : mS) (t : Nat) (a1 : Int32) : Option Int32 := if (S0.1 t 4) ≤ a1 then (some (-1 : Int32)) else (ck (inb a1 300) (some (S0.1 (t + 4) a1.toNatClampNeg)))
set_option maxHeartbeats 4000000 in
set_option maxRecDepth 100000 in
theorem c_X9_byteAt {F : Nat} {S0 : mS} {t : Nat} {a1 : Int32} {R : Int32} (ht : kd0 t = 9) (h : f_X9_byteAt F S0 t a1 = some R) : mCt μX9_byteAt 1 0 0 E0 S0 [.ref (t), .int (a1)] (mQe S0 (some (.int R))) := by
  unfold f_X9_byteAt at h
  refine mCt.of (by decide) (Nat.le_of_ble_eq_true rfl) ?_
  intro x
  refine mG.iload_n 1 dX9_byteAt_0 rfl ?_
  refine mG.aload_n 0 dX9_byteAt_1 rfl ?_
  refine mG.get (v := .int (S0.1 t 4)) dX9_byteAt_2 mfX9_92 ht rfl ?_
  refine mG.icmp_ge 17 dX9_byteAt_5 (by decide) (fun c2 => ?_) (fun c2 => ?_)
  · replace h := itp c2 h
    refine mG.iconst (v := (-1)) dX9_byteAt_17 rfl ?_
    obtain rfl := Option.some.inj h
    exact mG.iret dX9_byteAt_18 rfl ⟨rfl, rfl, rfl⟩
  · replace h := itn c2 h
    refine mG.aload_n 0 dX9_byteAt_8 rfl ?_
    refine mG.get (v := .ref (t + 4)) dX9_byteAt_9 mfX9_19 ht (lr9_tape ht) ?_
    refine mG.iload_n 1 dX9_byteAt_12 rfl ?_
    obtain ⟨b1, h⟩ := ckp h
    refine mG.iald dX9_byteAt_13 (lk9_tape ht) (ll9_tape ht) (inbp b1) ?_
    refine mG.goto 18 dX9_byteAt_14 (by decide) ?_
    obtain rfl := Option.some.inj h
    exact mG.iret dX9_byteAt_18 rfl ⟨rfl, rfl, rfl⟩
theorem dX9_isLetterByte_0 : decode cX9_isLetterByte 0 = .ok (.iload_n 0, 1) := by decide +kernel
theorem dX9_isLetterByte_1 : decode cX9_isLetterByte 1 = .ok (.bipush 97, 2) := by decide +kernel
theorem dX9_isLetterByte_3 : decode cX9_isLetterByte 3 = .ok (.if_icmp .lt 9, 3) := by decide +kernel
theorem dX9_isLetterByte_6 : decode cX9_isLetterByte 6 = .ok (.iload_n 0, 1) := by decide +kernel
theorem dX9_isLetterByte_7 : decode cX9_isLetterByte 7 = .ok (.bipush 122, 2) := by decide +kernel
theorem dX9_isLetterByte_9 : decode cX9_isLetterByte 9 = .ok (.if_icmp .le 15, 3) := by decide +kernel
theorem dX9_isLetterByte_12 : decode cX9_isLetterByte 12 = .ok (.iload_n 0, 1) := by decide +kernel
theorem dX9_isLetterByte_13 : decode cX9_isLetterByte 13 = .ok (.bipush 65, 2) := by decide +kernel
theorem dX9_isLetterByte_15 : decode cX9_isLetterByte 15 = .ok (.if_icmp .lt 13, 3) := by decide +kernel
theorem dX9_isLetterByte_18 : decode cX9_isLetterByte 18 = .ok (.iload_n 0, 1) := by decide +kernel
theorem dX9_isLetterByte_19 : decode cX9_isLetterByte 19 = .ok (.bipush 90, 2) := by decide +kernel
theorem dX9_isLetterByte_21 : decode cX9_isLetterByte 21 = .ok (.if_icmp .gt 7, 3) := by decide +kernel
theorem dX9_isLetterByte_24 : decode cX9_isLetterByte 24 = .ok (.iconst 1, 1) := by decide +kernel
theorem dX9_isLetterByte_25 : decode cX9_isLetterByte 25 = .ok (.goto 4, 3) := by decide +kernel
theorem dX9_isLetterByte_28 : decode cX9_isLetterByte 28 = .ok (.iconst 0, 1) := by decide +kernel
theorem dX9_isLetterByte_29 : decode cX9_isLetterByte 29 = .ok (.ireturn, 1) := by decide +kernel
def f_X9_isLetterByte (S0 : mS) (a1 : Int32) : Bool := if a1 < (97 : Int32) then (if a1 < (65 : Int32) then (false) else (if (90 : Int32) < a1 then (false) else (true))) else (if a1 ≤ (122 : Int32) then (true) else (if a1 < (65 : Int32) then (false) else (if (90 : Int32) < a1 then (false) else (true))))
set_option maxHeartbeats 4000000 in
set_option maxRecDepth 100000 in
theorem c_X9_isLetterByte {S0 : mS} {a1 : Int32} {R : Bool}  (h : f_X9_isLetterByte S0 a1 = R) : mCt μX9_isLetterByte 1 0 0 E0 S0 [.int (a1)] (mQe S0 (some (.int (bI R)))) := by
  unfold f_X9_isLetterByte at h
  refine mCt.of (by decide) (Nat.le_of_ble_eq_true rfl) ?_
  intro x
  refine mG.iload_n 0 dX9_isLetterByte_0 rfl ?_
  refine mG.bipush (v := 97) dX9_isLetterByte_1 (by decide) ?_
  refine mG.icmp_lt 12 dX9_isLetterByte_3 (by decide) (fun c6 => ?_) (fun c6 => ?_)
  · replace h := itp c6 h
    refine mG.iload_n 0 dX9_isLetterByte_12 rfl ?_
    refine mG.bipush (v := 65) dX9_isLetterByte_13 (by decide) ?_
    refine mG.icmp_lt 28 dX9_isLetterByte_15 (by decide) (fun c2 => ?_) (fun c2 => ?_)
    · replace h := itp c2 h
      refine mG.iconst (v := 0) dX9_isLetterByte_28 rfl ?_
      subst h
      exact mG.zret (b := false) dX9_isLetterByte_29 rfl rfl ⟨rfl, rfl, rfl⟩
    · replace h := itn c2 h
      refine mG.iload_n 0 dX9_isLetterByte_18 rfl ?_
      refine mG.bipush (v := 90) dX9_isLetterByte_19 (by decide) ?_
      refine mG.icmp_gt 28 dX9_isLetterByte_21 (by decide) (fun c1 => ?_) (fun c1 => ?_)
      · replace h := itp c1 h
        refine mG.iconst (v := 0) dX9_isLetterByte_28 rfl ?_
        subst h
        exact mG.zret (b := false) dX9_isLetterByte_29 rfl rfl ⟨rfl, rfl, rfl⟩
      · replace h := itn c1 h
        refine mG.iconst (v := 1) dX9_isLetterByte_24 rfl ?_
        refine mG.goto 29 dX9_isLetterByte_25 (by decide) ?_
        subst h
        exact mG.zret (b := true) dX9_isLetterByte_29 rfl rfl ⟨rfl, rfl, rfl⟩
  · replace h := itn c6 h
    refine mG.iload_n 0 dX9_isLetterByte_6 rfl ?_
    refine mG.bipush (v := 122) dX9_isLetterByte_7 (by decide) ?_
    refine mG.icmp_le 24 dX9_isLetterByte_9 (by decide) (fun c5 => ?_) (fun c5 => ?_)
    · replace h := itp c5 h
      refine mG.iconst (v := 1) dX9_isLetterByte_24 rfl ?_
      refine mG.goto 29 dX9_isLetterByte_25 (by decide) ?_
      subst h
      exact mG.zret (b := true) dX9_isLetterByte_29 rfl rfl ⟨rfl, rfl, rfl⟩
    · replace h := itn c5 h
      refine mG.iload_n 0 dX9_isLetterByte_12 rfl ?_
      refine mG.bipush (v := 65) dX9_isLetterByte_13 (by decide) ?_
      refine mG.icmp_lt 28 dX9_isLetterByte_15 (by decide) (fun c4 => ?_) (fun c4 => ?_)
      · replace h := itp c4 h
        refine mG.iconst (v := 0) dX9_isLetterByte_28 rfl ?_
        subst h
        exact mG.zret (b := false) dX9_isLetterByte_29 rfl rfl ⟨rfl, rfl, rfl⟩
      · replace h := itn c4 h
        refine mG.iload_n 0 dX9_isLetterByte_18 rfl ?_
        refine mG.bipush (v := 90) dX9_isLetterByte_19 (by decide) ?_
        refine mG.icmp_gt 28 dX9_isLetterByte_21 (by decide) (fun c3 => ?_) (fun c3 => ?_)
        · replace h := itp c3 h
          refine mG.iconst (v := 0) dX9_isLetterByte_28 rfl ?_
          subst h
          exact mG.zret (b := false) dX9_isLetterByte_29 rfl rfl ⟨rfl, rfl, rfl⟩
        · replace h := itn c3 h
          refine mG.iconst (v := 1) dX9_isLetterByte_24 rfl ?_
          refine mG.goto 29 dX9_isLetterByte_25 (by decide) ?_
          subst h
          exact mG.zret (b := true) dX9_isLetterByte_29 rfl rfl ⟨rfl, rfl, rfl⟩
theorem dX9_isFigure_0 : decode cX9_isFigure 0 = .ok (.iload_n 0, 1) := by decide +kernel
theorem dX9_isFigure_1 : decode cX9_isFigure 1 = .ok (.bipush 48, 2) := by decide +kernel
theorem dX9_isFigure_3 : decode cX9_isFigure 3 = .ok (.if_icmp .lt 13, 3) := by decide +kernel
theorem dX9_isFigure_6 : decode cX9_isFigure 6 = .ok (.iload_n 0, 1) := by decide +kernel
theorem dX9_isFigure_7 : decode cX9_isFigure 7 = .ok (.bipush 57, 2) := by decide +kernel
theorem dX9_isFigure_9 : decode cX9_isFigure 9 = .ok (.if_icmp .gt 7, 3) := by decide +kernel
theorem dX9_isFigure_12 : decode cX9_isFigure 12 = .ok (.iconst 1, 1) := by decide +kernel
theorem dX9_isFigure_13 : decode cX9_isFigure 13 = .ok (.goto 4, 3) := by decide +kernel
theorem dX9_isFigure_16 : decode cX9_isFigure 16 = .ok (.iconst 0, 1) := by decide +kernel
theorem dX9_isFigure_17 : decode cX9_isFigure 17 = .ok (.ireturn, 1) := by decide +kernel
def f_X9_isFigure (S0 : mS) (a1 : Int32) : Bool := if a1 < (48 : Int32) then (false) else (if (57 : Int32) < a1 then (false) else (true))
set_option maxHeartbeats 4000000 in
set_option maxRecDepth 100000 in
theorem c_X9_isFigure {S0 : mS} {a1 : Int32} {R : Bool}  (h : f_X9_isFigure S0 a1 = R) : mCt μX9_isFigure 1 0 0 E0 S0 [.int (a1)] (mQe S0 (some (.int (bI R)))) := by
  unfold f_X9_isFigure at h
  refine mCt.of (by decide) (Nat.le_of_ble_eq_true rfl) ?_
  intro x
  refine mG.iload_n 0 dX9_isFigure_0 rfl ?_
  refine mG.bipush (v := 48) dX9_isFigure_1 (by decide) ?_
  refine mG.icmp_lt 16 dX9_isFigure_3 (by decide) (fun c2 => ?_) (fun c2 => ?_)
  · replace h := itp c2 h
    refine mG.iconst (v := 0) dX9_isFigure_16 rfl ?_
    subst h
    exact mG.zret (b := false) dX9_isFigure_17 rfl rfl ⟨rfl, rfl, rfl⟩
  · replace h := itn c2 h
    refine mG.iload_n 0 dX9_isFigure_6 rfl ?_
    refine mG.bipush (v := 57) dX9_isFigure_7 (by decide) ?_
    refine mG.icmp_gt 16 dX9_isFigure_9 (by decide) (fun c1 => ?_) (fun c1 => ?_)
    · replace h := itp c1 h
      refine mG.iconst (v := 0) dX9_isFigure_16 rfl ?_
      subst h
      exact mG.zret (b := false) dX9_isFigure_17 rfl rfl ⟨rfl, rfl, rfl⟩
    · replace h := itn c1 h
      refine mG.iconst (v := 1) dX9_isFigure_12 rfl ?_
      refine mG.goto 17 dX9_isFigure_13 (by decide) ?_
      subst h
      exact mG.zret (b := true) dX9_isFigure_17 rfl rfl ⟨rfl, rfl, rfl⟩
theorem dX9_isSign_0 : decode cX9_isSign 0 = .ok (.iload_n 0, 1) := by decide +kernel
theorem dX9_isSign_1 : decode cX9_isSign 1 = .ok (.tableswitch 129 35 62 #[127, 129, 129, 129, 129, 127, 127, 127, 127, 129, 127, 129, 127, 129, 129, 129, 129, 129, 129, 129, 129, 129, 129, 127, 127, 127, 127, 127], 127) := by decide +kernel
theorem dX9_isSign_128 : decode cX9_isSign 128 = .ok (.iconst 1, 1) := by decide +kernel
theorem dX9_isSign_129 : decode cX9_isSign 129 = .ok (.ireturn, 1) := by decide +kernel
theorem dX9_isSign_130 : decode cX9_isSign 130 = .ok (.iconst 0, 1) := by decide +kernel
theorem dX9_isSign_131 : decode cX9_isSign 131 = .ok (.ireturn, 1) := by decide +kernel
def f_X9_isSign (S0 : mS) (a1 : Int32) : Bool := if a1 = (35 : Int32) then (true) else (if a1 = (40 : Int32) then (true) else (if a1 = (41 : Int32) then (true) else (if a1 = (42 : Int32) then (true) else (if a1 = (43 : Int32) then (true) else (if a1 = (45 : Int32) then (true) else (if a1 = (47 : Int32) then (true) else (if a1 = (58 : Int32) then (true) else (if a1 = (59 : Int32) then (true) else (if a1 = (60 : Int32) then (true) else (if a1 = (61 : Int32) then (true) else (if a1 = (62 : Int32) then (true) else (false))))))))))))
set_option maxHeartbeats 4000000 in
set_option maxRecDepth 100000 in
theorem c_X9_isSign {S0 : mS} {a1 : Int32} {R : Bool}  (h : f_X9_isSign S0 a1 = R) : mCt μX9_isSign 1 0 0 E0 S0 [.int (a1)] (mQe S0 (some (.int (bI R)))) := by
  unfold f_X9_isSign at h
  refine mCt.of (by decide) (Nat.le_of_ble_eq_true rfl) ?_
  intro x
  refine mG.iload_n 0 dX9_isSign_0 rfl ?_
  by_cases c1 : a1 = (35 : Int32)
  · replace h := itp c1 h
    refine mG.tblIn (127) 128 dX9_isSign_1 (by rw [c1]; decide) (by rw [c1]; decide) (by rw [c1]; decide) (by decide) ?_
    refine mG.iconst (v := 1) dX9_isSign_128 rfl ?_
    subst h
    exact mG.zret (b := true) dX9_isSign_129 rfl rfl ⟨rfl, rfl, rfl⟩
  replace h := itn c1 h
  by_cases c2 : a1 = (40 : Int32)
  · replace h := itp c2 h
    refine mG.tblIn (127) 128 dX9_isSign_1 (by rw [c2]; decide) (by rw [c2]; decide) (by rw [c2]; decide) (by decide) ?_
    refine mG.iconst (v := 1) dX9_isSign_128 rfl ?_
    subst h
    exact mG.zret (b := true) dX9_isSign_129 rfl rfl ⟨rfl, rfl, rfl⟩
  replace h := itn c2 h
  by_cases c3 : a1 = (41 : Int32)
  · replace h := itp c3 h
    refine mG.tblIn (127) 128 dX9_isSign_1 (by rw [c3]; decide) (by rw [c3]; decide) (by rw [c3]; decide) (by decide) ?_
    refine mG.iconst (v := 1) dX9_isSign_128 rfl ?_
    subst h
    exact mG.zret (b := true) dX9_isSign_129 rfl rfl ⟨rfl, rfl, rfl⟩
  replace h := itn c3 h
  by_cases c4 : a1 = (42 : Int32)
  · replace h := itp c4 h
    refine mG.tblIn (127) 128 dX9_isSign_1 (by rw [c4]; decide) (by rw [c4]; decide) (by rw [c4]; decide) (by decide) ?_
    refine mG.iconst (v := 1) dX9_isSign_128 rfl ?_
    subst h
    exact mG.zret (b := true) dX9_isSign_129 rfl rfl ⟨rfl, rfl, rfl⟩
  replace h := itn c4 h
  by_cases c5 : a1 = (43 : Int32)
  · replace h := itp c5 h
    refine mG.tblIn (127) 128 dX9_isSign_1 (by rw [c5]; decide) (by rw [c5]; decide) (by rw [c5]; decide) (by decide) ?_
    refine mG.iconst (v := 1) dX9_isSign_128 rfl ?_
    subst h
    exact mG.zret (b := true) dX9_isSign_129 rfl rfl ⟨rfl, rfl, rfl⟩
  replace h := itn c5 h
  by_cases c6 : a1 = (45 : Int32)
  · replace h := itp c6 h
    refine mG.tblIn (127) 128 dX9_isSign_1 (by rw [c6]; decide) (by rw [c6]; decide) (by rw [c6]; decide) (by decide) ?_
    refine mG.iconst (v := 1) dX9_isSign_128 rfl ?_
    subst h
    exact mG.zret (b := true) dX9_isSign_129 rfl rfl ⟨rfl, rfl, rfl⟩
  replace h := itn c6 h
  by_cases c7 : a1 = (47 : Int32)
  · replace h := itp c7 h
    refine mG.tblIn (127) 128 dX9_isSign_1 (by rw [c7]; decide) (by rw [c7]; decide) (by rw [c7]; decide) (by decide) ?_
    refine mG.iconst (v := 1) dX9_isSign_128 rfl ?_
    subst h
    exact mG.zret (b := true) dX9_isSign_129 rfl rfl ⟨rfl, rfl, rfl⟩
  replace h := itn c7 h
  by_cases c8 : a1 = (58 : Int32)
  · replace h := itp c8 h
    refine mG.tblIn (127) 128 dX9_isSign_1 (by rw [c8]; decide) (by rw [c8]; decide) (by rw [c8]; decide) (by decide) ?_
    refine mG.iconst (v := 1) dX9_isSign_128 rfl ?_
    subst h
    exact mG.zret (b := true) dX9_isSign_129 rfl rfl ⟨rfl, rfl, rfl⟩
  replace h := itn c8 h
  by_cases c9 : a1 = (59 : Int32)
  · replace h := itp c9 h
    refine mG.tblIn (127) 128 dX9_isSign_1 (by rw [c9]; decide) (by rw [c9]; decide) (by rw [c9]; decide) (by decide) ?_
    refine mG.iconst (v := 1) dX9_isSign_128 rfl ?_
    subst h
    exact mG.zret (b := true) dX9_isSign_129 rfl rfl ⟨rfl, rfl, rfl⟩
  replace h := itn c9 h
  by_cases c10 : a1 = (60 : Int32)
  · replace h := itp c10 h
    refine mG.tblIn (127) 128 dX9_isSign_1 (by rw [c10]; decide) (by rw [c10]; decide) (by rw [c10]; decide) (by decide) ?_
    refine mG.iconst (v := 1) dX9_isSign_128 rfl ?_
    subst h
    exact mG.zret (b := true) dX9_isSign_129 rfl rfl ⟨rfl, rfl, rfl⟩
  replace h := itn c10 h
  by_cases c11 : a1 = (61 : Int32)
  · replace h := itp c11 h
    refine mG.tblIn (127) 128 dX9_isSign_1 (by rw [c11]; decide) (by rw [c11]; decide) (by rw [c11]; decide) (by decide) ?_
    refine mG.iconst (v := 1) dX9_isSign_128 rfl ?_
    subst h
    exact mG.zret (b := true) dX9_isSign_129 rfl rfl ⟨rfl, rfl, rfl⟩
  replace h := itn c11 h
  by_cases c12 : a1 = (62 : Int32)
  · replace h := itp c12 h
    refine mG.tblIn (127) 128 dX9_isSign_1 (by rw [c12]; decide) (by rw [c12]; decide) (by rw [c12]; decide) (by decide) ?_
    refine mG.iconst (v := 1) dX9_isSign_128 rfl ?_
    subst h
    exact mG.zret (b := true) dX9_isSign_129 rfl rfl ⟨rfl, rfl, rfl⟩
  replace h := itn c12 h
  have kd : mG x μX9_isSign 1 0 0 (mQe S0 (some (.int (bI R)))) 0 0 E0 S0 130 [(0, .int (a1))] [] := by
    refine mG.iconst (v := 0) dX9_isSign_130 rfl ?_
    subst h
    exact mG.zret (b := false) dX9_isSign_131 rfl rfl ⟨rfl, rfl, rfl⟩
  by_cases c13 : a1 = (36 : Int32)
  · refine mG.tblIn (129) 130 dX9_isSign_1 (by rw [c13]; decide) (by rw [c13]; decide) (by rw [c13]; decide) (by decide) ?_
    exact kd
  by_cases c14 : a1 = (37 : Int32)
  · refine mG.tblIn (129) 130 dX9_isSign_1 (by rw [c14]; decide) (by rw [c14]; decide) (by rw [c14]; decide) (by decide) ?_
    exact kd
  by_cases c15 : a1 = (38 : Int32)
  · refine mG.tblIn (129) 130 dX9_isSign_1 (by rw [c15]; decide) (by rw [c15]; decide) (by rw [c15]; decide) (by decide) ?_
    exact kd
  by_cases c16 : a1 = (39 : Int32)
  · refine mG.tblIn (129) 130 dX9_isSign_1 (by rw [c16]; decide) (by rw [c16]; decide) (by rw [c16]; decide) (by decide) ?_
    exact kd
  by_cases c17 : a1 = (44 : Int32)
  · refine mG.tblIn (129) 130 dX9_isSign_1 (by rw [c17]; decide) (by rw [c17]; decide) (by rw [c17]; decide) (by decide) ?_
    exact kd
  by_cases c18 : a1 = (46 : Int32)
  · refine mG.tblIn (129) 130 dX9_isSign_1 (by rw [c18]; decide) (by rw [c18]; decide) (by rw [c18]; decide) (by decide) ?_
    exact kd
  by_cases c19 : a1 = (48 : Int32)
  · refine mG.tblIn (129) 130 dX9_isSign_1 (by rw [c19]; decide) (by rw [c19]; decide) (by rw [c19]; decide) (by decide) ?_
    exact kd
  by_cases c20 : a1 = (49 : Int32)
  · refine mG.tblIn (129) 130 dX9_isSign_1 (by rw [c20]; decide) (by rw [c20]; decide) (by rw [c20]; decide) (by decide) ?_
    exact kd
  by_cases c21 : a1 = (50 : Int32)
  · refine mG.tblIn (129) 130 dX9_isSign_1 (by rw [c21]; decide) (by rw [c21]; decide) (by rw [c21]; decide) (by decide) ?_
    exact kd
  by_cases c22 : a1 = (51 : Int32)
  · refine mG.tblIn (129) 130 dX9_isSign_1 (by rw [c22]; decide) (by rw [c22]; decide) (by rw [c22]; decide) (by decide) ?_
    exact kd
  by_cases c23 : a1 = (52 : Int32)
  · refine mG.tblIn (129) 130 dX9_isSign_1 (by rw [c23]; decide) (by rw [c23]; decide) (by rw [c23]; decide) (by decide) ?_
    exact kd
  by_cases c24 : a1 = (53 : Int32)
  · refine mG.tblIn (129) 130 dX9_isSign_1 (by rw [c24]; decide) (by rw [c24]; decide) (by rw [c24]; decide) (by decide) ?_
    exact kd
  by_cases c25 : a1 = (54 : Int32)
  · refine mG.tblIn (129) 130 dX9_isSign_1 (by rw [c25]; decide) (by rw [c25]; decide) (by rw [c25]; decide) (by decide) ?_
    exact kd
  by_cases c26 : a1 = (55 : Int32)
  · refine mG.tblIn (129) 130 dX9_isSign_1 (by rw [c26]; decide) (by rw [c26]; decide) (by rw [c26]; decide) (by decide) ?_
    exact kd
  by_cases c27 : a1 = (56 : Int32)
  · refine mG.tblIn (129) 130 dX9_isSign_1 (by rw [c27]; decide) (by rw [c27]; decide) (by rw [c27]; decide) (by decide) ?_
    exact kd
  by_cases c28 : a1 = (57 : Int32)
  · refine mG.tblIn (129) 130 dX9_isSign_1 (by rw [c28]; decide) (by rw [c28]; decide) (by rw [c28]; decide) (by decide) ?_
    exact kd
  refine mG.tblOut 130 dX9_isSign_1 (by have e0 : Int32.toInt a1 ≠ 35 := fun q => c1 (Int32.toInt_inj.mp (q.trans (by decide))); have e1 : Int32.toInt a1 ≠ 40 := fun q => c2 (Int32.toInt_inj.mp (q.trans (by decide))); have e2 : Int32.toInt a1 ≠ 41 := fun q => c3 (Int32.toInt_inj.mp (q.trans (by decide))); have e3 : Int32.toInt a1 ≠ 42 := fun q => c4 (Int32.toInt_inj.mp (q.trans (by decide))); have e4 : Int32.toInt a1 ≠ 43 := fun q => c5 (Int32.toInt_inj.mp (q.trans (by decide))); have e5 : Int32.toInt a1 ≠ 45 := fun q => c6 (Int32.toInt_inj.mp (q.trans (by decide))); have e6 : Int32.toInt a1 ≠ 47 := fun q => c7 (Int32.toInt_inj.mp (q.trans (by decide))); have e7 : Int32.toInt a1 ≠ 58 := fun q => c8 (Int32.toInt_inj.mp (q.trans (by decide))); have e8 : Int32.toInt a1 ≠ 59 := fun q => c9 (Int32.toInt_inj.mp (q.trans (by decide))); have e9 : Int32.toInt a1 ≠ 60 := fun q => c10 (Int32.toInt_inj.mp (q.trans (by decide))); have e10 : Int32.toInt a1 ≠ 61 := fun q => c11 (Int32.toInt_inj.mp (q.trans (by decide))); have e11 : Int32.toInt a1 ≠ 62 := fun q => c12 (Int32.toInt_inj.mp (q.trans (by decide))); have e12 : Int32.toInt a1 ≠ 36 := fun q => c13 (Int32.toInt_inj.mp (q.trans (by decide))); have e13 : Int32.toInt a1 ≠ 37 := fun q => c14 (Int32.toInt_inj.mp (q.trans (by decide))); have e14 : Int32.toInt a1 ≠ 38 := fun q => c15 (Int32.toInt_inj.mp (q.trans (by decide))); have e15 : Int32.toInt a1 ≠ 39 := fun q => c16 (Int32.toInt_inj.mp (q.trans (by decide))); have e16 : Int32.toInt a1 ≠ 44 := fun q => c17 (Int32.toInt_inj.mp (q.trans (by decide))); have e17 : Int32.toInt a1 ≠ 46 := fun q => c18 (Int32.toInt_inj.mp (q.trans (by decide))); have e18 : Int32.toInt a1 ≠ 48 := fun q => c19 (Int32.toInt_inj.mp (q.trans (by decide))); have e19 : Int32.toInt a1 ≠ 49 := fun q => c20 (Int32.toInt_inj.mp (q.trans (by decide))); have e20 : Int32.toInt a1 ≠ 50 := fun q => c21 (Int32.toInt_inj.mp (q.trans (by decide))); have e21 : Int32.toInt a1 ≠ 51 := fun q => c22 (Int32.toInt_inj.mp (q.trans (by decide))); have e22 : Int32.toInt a1 ≠ 52 := fun q => c23 (Int32.toInt_inj.mp (q.trans (by decide))); have e23 : Int32.toInt a1 ≠ 53 := fun q => c24 (Int32.toInt_inj.mp (q.trans (by decide))); have e24 : Int32.toInt a1 ≠ 54 := fun q => c25 (Int32.toInt_inj.mp (q.trans (by decide))); have e25 : Int32.toInt a1 ≠ 55 := fun q => c26 (Int32.toInt_inj.mp (q.trans (by decide))); have e26 : Int32.toInt a1 ≠ 56 := fun q => c27 (Int32.toInt_inj.mp (q.trans (by decide))); have e27 : Int32.toInt a1 ≠ 57 := fun q => c28 (Int32.toInt_inj.mp (q.trans (by decide))); omega) (by decide) ?_
  exact kd
theorem dX9_nextToken_0 : decode cX9_nextToken 0 = .ok (.aload_n 0, 1) := by decide +kernel
theorem dX9_nextToken_1 : decode cX9_nextToken 1 = .ok (.aload_n 0, 1) := by decide +kernel
theorem dX9_nextToken_2 : decode cX9_nextToken 2 = .ok (.getfield 98, 3) := by decide +kernel
theorem dX9_nextToken_5 : decode cX9_nextToken 5 = .ok (.invokevirtual 101, 3) := by decide +kernel
theorem dX9_nextToken_8 : decode cX9_nextToken 8 = .ok (.bipush 32, 2) := by decide +kernel
theorem dX9_nextToken_10 : decode cX9_nextToken 10 = .ok (.if_icmp .eq 16, 3) := by decide +kernel
theorem dX9_nextToken_13 : decode cX9_nextToken 13 = .ok (.aload_n 0, 1) := by decide +kernel
theorem dX9_nextToken_14 : decode cX9_nextToken 14 = .ok (.aload_n 0, 1) := by decide +kernel
theorem dX9_nextToken_15 : decode cX9_nextToken 15 = .ok (.getfield 98, 3) := by decide +kernel
theorem dX9_nextToken_18 : decode cX9_nextToken 18 = .ok (.invokevirtual 101, 3) := by decide +kernel
theorem dX9_nextToken_21 : decode cX9_nextToken 21 = .ok (.bipush 10, 2) := by decide +kernel
theorem dX9_nextToken_23 : decode cX9_nextToken 23 = .ok (.if_icmp .ne 16, 3) := by decide +kernel
theorem dX9_nextToken_26 : decode cX9_nextToken 26 = .ok (.aload_n 0, 1) := by decide +kernel
theorem dX9_nextToken_27 : decode cX9_nextToken 27 = .ok (.dup, 1) := by decide +kernel
theorem dX9_nextToken_28 : decode cX9_nextToken 28 = .ok (.getfield 98, 3) := by decide +kernel
theorem dX9_nextToken_31 : decode cX9_nextToken 31 = .ok (.iconst 1, 1) := by decide +kernel
theorem dX9_nextToken_32 : decode cX9_nextToken 32 = .ok (.iadd, 1) := by decide +kernel
theorem dX9_nextToken_33 : decode cX9_nextToken 33 = .ok (.putfield 98, 3) := by decide +kernel
theorem dX9_nextToken_36 : decode cX9_nextToken 36 = .ok (.goto (-36), 3) := by decide +kernel
theorem dX9_nextToken_39 : decode cX9_nextToken 39 = .ok (.aload_n 0, 1) := by decide +kernel
theorem dX9_nextToken_40 : decode cX9_nextToken 40 = .ok (.aload_n 0, 1) := by decide +kernel
theorem dX9_nextToken_41 : decode cX9_nextToken 41 = .ok (.getfield 98, 3) := by decide +kernel
theorem dX9_nextToken_44 : decode cX9_nextToken 44 = .ok (.putfield 105, 3) := by decide +kernel
theorem dX9_nextToken_47 : decode cX9_nextToken 47 = .ok (.aload_n 0, 1) := by decide +kernel
theorem dX9_nextToken_48 : decode cX9_nextToken 48 = .ok (.aload_n 0, 1) := by decide +kernel
theorem dX9_nextToken_49 : decode cX9_nextToken 49 = .ok (.getfield 98, 3) := by decide +kernel
theorem dX9_nextToken_52 : decode cX9_nextToken 52 = .ok (.invokevirtual 101, 3) := by decide +kernel
theorem dX9_nextToken_55 : decode cX9_nextToken 55 = .ok (.istore_n 1, 1) := by decide +kernel
theorem dX9_nextToken_56 : decode cX9_nextToken 56 = .ok (.iload_n 1, 1) := by decide +kernel
theorem dX9_nextToken_57 : decode cX9_nextToken 57 = .ok (.ifCond .ge 11, 3) := by decide +kernel
theorem dX9_nextToken_60 : decode cX9_nextToken 60 = .ok (.aload_n 0, 1) := by decide +kernel
theorem dX9_nextToken_61 : decode cX9_nextToken 61 = .ok (.iconst 0, 1) := by decide +kernel
theorem dX9_nextToken_62 : decode cX9_nextToken 62 = .ok (.putfield 108, 3) := by decide +kernel
theorem dX9_nextToken_65 : decode cX9_nextToken 65 = .ok (.goto 245, 3) := by decide +kernel
theorem dX9_nextToken_68 : decode cX9_nextToken 68 = .ok (.iload_n 1, 1) := by decide +kernel
theorem dX9_nextToken_69 : decode cX9_nextToken 69 = .ok (.invokestatic 111, 3) := by decide +kernel
theorem dX9_nextToken_72 : decode cX9_nextToken 72 = .ok (.ifCond .eq 79, 3) := by decide +kernel
theorem dX9_nextToken_75 : decode cX9_nextToken 75 = .ok (.aload_n 0, 1) := by decide +kernel
theorem dX9_nextToken_76 : decode cX9_nextToken 76 = .ok (.iconst 1, 1) := by decide +kernel
theorem dX9_nextToken_77 : decode cX9_nextToken 77 = .ok (.putfield 108, 3) := by decide +kernel
theorem dX9_nextToken_80 : decode cX9_nextToken 80 = .ok (.aload_n 0, 1) := by decide +kernel
theorem dX9_nextToken_81 : decode cX9_nextToken 81 = .ok (.iconst 0, 1) := by decide +kernel
theorem dX9_nextToken_82 : decode cX9_nextToken 82 = .ok (.putfield 114, 3) := by decide +kernel
theorem dX9_nextToken_85 : decode cX9_nextToken 85 = .ok (.aload_n 0, 1) := by decide +kernel
theorem dX9_nextToken_86 : decode cX9_nextToken 86 = .ok (.aload_n 0, 1) := by decide +kernel
theorem dX9_nextToken_87 : decode cX9_nextToken 87 = .ok (.getfield 98, 3) := by decide +kernel
theorem dX9_nextToken_90 : decode cX9_nextToken 90 = .ok (.invokevirtual 101, 3) := by decide +kernel
theorem dX9_nextToken_93 : decode cX9_nextToken 93 = .ok (.invokestatic 111, 3) := by decide +kernel
theorem dX9_nextToken_96 : decode cX9_nextToken 96 = .ok (.ifCond .eq 214, 3) := by decide +kernel
theorem dX9_nextToken_99 : decode cX9_nextToken 99 = .ok (.aload_n 0, 1) := by decide +kernel
theorem dX9_nextToken_100 : decode cX9_nextToken 100 = .ok (.aload_n 0, 1) := by decide +kernel
theorem dX9_nextToken_101 : decode cX9_nextToken 101 = .ok (.getfield 114, 3) := by decide +kernel
theorem dX9_nextToken_104 : decode cX9_nextToken 104 = .ok (.ldc 117, 2) := by decide +kernel
theorem dX9_nextToken_106 : decode cX9_nextToken 106 = .ok (.if_icmp .le 10, 3) := by decide +kernel
theorem dX9_nextToken_109 : decode cX9_nextToken 109 = .ok (.aload_n 0, 1) := by decide +kernel
theorem dX9_nextToken_110 : decode cX9_nextToken 110 = .ok (.getfield 114, 3) := by decide +kernel
theorem dX9_nextToken_113 : decode cX9_nextToken 113 = .ok (.goto 22, 3) := by decide +kernel
theorem dX9_nextToken_116 : decode cX9_nextToken 116 = .ok (.bipush 10, 2) := by decide +kernel
theorem dX9_nextToken_118 : decode cX9_nextToken 118 = .ok (.aload_n 0, 1) := by decide +kernel
theorem dX9_nextToken_119 : decode cX9_nextToken 119 = .ok (.getfield 114, 3) := by decide +kernel
theorem dX9_nextToken_122 : decode cX9_nextToken 122 = .ok (.imul, 1) := by decide +kernel
theorem dX9_nextToken_123 : decode cX9_nextToken 123 = .ok (.aload_n 0, 1) := by decide +kernel
theorem dX9_nextToken_124 : decode cX9_nextToken 124 = .ok (.aload_n 0, 1) := by decide +kernel
theorem dX9_nextToken_125 : decode cX9_nextToken 125 = .ok (.getfield 98, 3) := by decide +kernel
theorem dX9_nextToken_128 : decode cX9_nextToken 128 = .ok (.invokevirtual 101, 3) := by decide +kernel
theorem dX9_nextToken_131 : decode cX9_nextToken 131 = .ok (.iadd, 1) := by decide +kernel
theorem dX9_nextToken_132 : decode cX9_nextToken 132 = .ok (.bipush 48, 2) := by decide +kernel
theorem dX9_nextToken_134 : decode cX9_nextToken 134 = .ok (.isub, 1) := by decide +kernel
theorem dX9_nextToken_135 : decode cX9_nextToken 135 = .ok (.putfield 114, 3) := by decide +kernel
theorem dX9_nextToken_138 : decode cX9_nextToken 138 = .ok (.aload_n 0, 1) := by decide +kernel
theorem dX9_nextToken_139 : decode cX9_nextToken 139 = .ok (.dup, 1) := by decide +kernel
theorem dX9_nextToken_140 : decode cX9_nextToken 140 = .ok (.getfield 98, 3) := by decide +kernel
theorem dX9_nextToken_143 : decode cX9_nextToken 143 = .ok (.iconst 1, 1) := by decide +kernel
theorem dX9_nextToken_144 : decode cX9_nextToken 144 = .ok (.iadd, 1) := by decide +kernel
theorem dX9_nextToken_145 : decode cX9_nextToken 145 = .ok (.putfield 98, 3) := by decide +kernel
theorem dX9_nextToken_148 : decode cX9_nextToken 148 = .ok (.goto (-63), 3) := by decide +kernel
theorem dX9_nextToken_151 : decode cX9_nextToken 151 = .ok (.iload_n 1, 1) := by decide +kernel
theorem dX9_nextToken_152 : decode cX9_nextToken 152 = .ok (.invokestatic 118, 3) := by decide +kernel
theorem dX9_nextToken_155 : decode cX9_nextToken 155 = .ok (.ifCond .eq 79, 3) := by decide +kernel
theorem dX9_nextToken_158 : decode cX9_nextToken 158 = .ok (.aload_n 0, 1) := by decide +kernel
theorem dX9_nextToken_159 : decode cX9_nextToken 159 = .ok (.iconst 2, 1) := by decide +kernel
theorem dX9_nextToken_160 : decode cX9_nextToken 160 = .ok (.putfield 108, 3) := by decide +kernel
theorem dX9_nextToken_163 : decode cX9_nextToken 163 = .ok (.aload_n 0, 1) := by decide +kernel
theorem dX9_nextToken_164 : decode cX9_nextToken 164 = .ok (.lconst 0, 1) := by decide +kernel
theorem dX9_nextToken_165 : decode cX9_nextToken 165 = .ok (.putfield 121, 3) := by decide +kernel
theorem dX9_nextToken_168 : decode cX9_nextToken 168 = .ok (.aload_n 0, 1) := by decide +kernel
theorem dX9_nextToken_169 : decode cX9_nextToken 169 = .ok (.aload_n 0, 1) := by decide +kernel
theorem dX9_nextToken_170 : decode cX9_nextToken 170 = .ok (.getfield 98, 3) := by decide +kernel
theorem dX9_nextToken_173 : decode cX9_nextToken 173 = .ok (.invokevirtual 101, 3) := by decide +kernel
theorem dX9_nextToken_176 : decode cX9_nextToken 176 = .ok (.invokestatic 118, 3) := by decide +kernel
theorem dX9_nextToken_179 : decode cX9_nextToken 179 = .ok (.ifCond .eq 131, 3) := by decide +kernel
theorem dX9_nextToken_182 : decode cX9_nextToken 182 = .ok (.aload_n 0, 1) := by decide +kernel
theorem dX9_nextToken_183 : decode cX9_nextToken 183 = .ok (.aload_n 0, 1) := by decide +kernel
theorem dX9_nextToken_184 : decode cX9_nextToken 184 = .ok (.getfield 121, 3) := by decide +kernel
theorem dX9_nextToken_187 : decode cX9_nextToken 187 = .ok (.bipush 48, 2) := by decide +kernel
theorem dX9_nextToken_189 : decode cX9_nextToken 189 = .ok (.lshr, 1) := by decide +kernel
theorem dX9_nextToken_190 : decode cX9_nextToken 190 = .ok (.lconst 0, 1) := by decide +kernel
theorem dX9_nextToken_191 : decode cX9_nextToken 191 = .ok (.lcmp, 1) := by decide +kernel
theorem dX9_nextToken_192 : decode cX9_nextToken 192 = .ok (.ifCond .eq 9, 3) := by decide +kernel
theorem dX9_nextToken_195 : decode cX9_nextToken 195 = .ok (.ldc2_w 125, 3) := by decide +kernel
theorem dX9_nextToken_198 : decode cX9_nextToken 198 = .ok (.goto 20, 3) := by decide +kernel
theorem dX9_nextToken_201 : decode cX9_nextToken 201 = .ok (.aload_n 0, 1) := by decide +kernel
theorem dX9_nextToken_202 : decode cX9_nextToken 202 = .ok (.getfield 121, 3) := by decide +kernel
theorem dX9_nextToken_205 : decode cX9_nextToken 205 = .ok (.bipush 8, 2) := by decide +kernel
theorem dX9_nextToken_207 : decode cX9_nextToken 207 = .ok (.lshl, 1) := by decide +kernel
theorem dX9_nextToken_208 : decode cX9_nextToken 208 = .ok (.aload_n 0, 1) := by decide +kernel
theorem dX9_nextToken_209 : decode cX9_nextToken 209 = .ok (.aload_n 0, 1) := by decide +kernel
theorem dX9_nextToken_210 : decode cX9_nextToken 210 = .ok (.getfield 98, 3) := by decide +kernel
theorem dX9_nextToken_213 : decode cX9_nextToken 213 = .ok (.invokevirtual 101, 3) := by decide +kernel
theorem dX9_nextToken_216 : decode cX9_nextToken 216 = .ok (.i2l, 1) := by decide +kernel
theorem dX9_nextToken_217 : decode cX9_nextToken 217 = .ok (.lor, 1) := by decide +kernel
theorem dX9_nextToken_218 : decode cX9_nextToken 218 = .ok (.putfield 121, 3) := by decide +kernel
theorem dX9_nextToken_221 : decode cX9_nextToken 221 = .ok (.aload_n 0, 1) := by decide +kernel
theorem dX9_nextToken_222 : decode cX9_nextToken 222 = .ok (.dup, 1) := by decide +kernel
theorem dX9_nextToken_223 : decode cX9_nextToken 223 = .ok (.getfield 98, 3) := by decide +kernel
theorem dX9_nextToken_226 : decode cX9_nextToken 226 = .ok (.iconst 1, 1) := by decide +kernel
theorem dX9_nextToken_227 : decode cX9_nextToken 227 = .ok (.iadd, 1) := by decide +kernel
theorem dX9_nextToken_228 : decode cX9_nextToken 228 = .ok (.putfield 98, 3) := by decide +kernel
theorem dX9_nextToken_231 : decode cX9_nextToken 231 = .ok (.goto (-63), 3) := by decide +kernel
theorem dX9_nextToken_234 : decode cX9_nextToken 234 = .ok (.aload_n 0, 1) := by decide +kernel
theorem dX9_nextToken_235 : decode cX9_nextToken 235 = .ok (.iload_n 1, 1) := by decide +kernel
theorem dX9_nextToken_236 : decode cX9_nextToken 236 = .ok (.invokestatic 127, 3) := by decide +kernel
theorem dX9_nextToken_239 : decode cX9_nextToken 239 = .ok (.ifCond .eq 7, 3) := by decide +kernel
theorem dX9_nextToken_242 : decode cX9_nextToken 242 = .ok (.iload_n 1, 1) := by decide +kernel
theorem dX9_nextToken_243 : decode cX9_nextToken 243 = .ok (.goto 4, 3) := by decide +kernel
theorem dX9_nextToken_246 : decode cX9_nextToken 246 = .ok (.iconst 3, 1) := by decide +kernel
theorem dX9_nextToken_247 : decode cX9_nextToken 247 = .ok (.putfield 108, 3) := by decide +kernel
theorem dX9_nextToken_250 : decode cX9_nextToken 250 = .ok (.aload_n 0, 1) := by decide +kernel
theorem dX9_nextToken_251 : decode cX9_nextToken 251 = .ok (.dup, 1) := by decide +kernel
theorem dX9_nextToken_252 : decode cX9_nextToken 252 = .ok (.getfield 98, 3) := by decide +kernel
theorem dX9_nextToken_255 : decode cX9_nextToken 255 = .ok (.iconst 1, 1) := by decide +kernel
theorem dX9_nextToken_256 : decode cX9_nextToken 256 = .ok (.iadd, 1) := by decide +kernel
theorem dX9_nextToken_257 : decode cX9_nextToken 257 = .ok (.putfield 98, 3) := by decide +kernel
theorem dX9_nextToken_260 : decode cX9_nextToken 260 = .ok (.iload_n 1, 1) := by decide +kernel
theorem dX9_nextToken_261 : decode cX9_nextToken 261 = .ok (.bipush 60, 2) := by decide +kernel
theorem dX9_nextToken_263 : decode cX9_nextToken 263 = .ok (.if_icmp .eq 9, 3) := by decide +kernel
theorem dX9_nextToken_266 : decode cX9_nextToken 266 = .ok (.iload_n 1, 1) := by decide +kernel
theorem dX9_nextToken_267 : decode cX9_nextToken 267 = .ok (.bipush 62, 2) := by decide +kernel
theorem dX9_nextToken_269 : decode cX9_nextToken 269 = .ok (.if_icmp .ne 41, 3) := by decide +kernel
theorem dX9_nextToken_272 : decode cX9_nextToken 272 = .ok (.aload_n 0, 1) := by decide +kernel
theorem dX9_nextToken_273 : decode cX9_nextToken 273 = .ok (.aload_n 0, 1) := by decide +kernel
theorem dX9_nextToken_274 : decode cX9_nextToken 274 = .ok (.getfield 98, 3) := by decide +kernel
theorem dX9_nextToken_277 : decode cX9_nextToken 277 = .ok (.invokevirtual 101, 3) := by decide +kernel
theorem dX9_nextToken_280 : decode cX9_nextToken 280 = .ok (.bipush 61, 2) := by decide +kernel
theorem dX9_nextToken_282 : decode cX9_nextToken 282 = .ok (.if_icmp .ne 28, 3) := by decide +kernel
theorem dX9_nextToken_285 : decode cX9_nextToken 285 = .ok (.aload_n 0, 1) := by decide +kernel
theorem dX9_nextToken_286 : decode cX9_nextToken 286 = .ok (.iload_n 1, 1) := by decide +kernel
theorem dX9_nextToken_287 : decode cX9_nextToken 287 = .ok (.bipush 60, 2) := by decide +kernel
theorem dX9_nextToken_289 : decode cX9_nextToken 289 = .ok (.if_icmp .ne 7, 3) := by decide +kernel
theorem dX9_nextToken_292 : decode cX9_nextToken 292 = .ok (.iconst 4, 1) := by decide +kernel
theorem dX9_nextToken_293 : decode cX9_nextToken 293 = .ok (.goto 4, 3) := by decide +kernel
theorem dX9_nextToken_296 : decode cX9_nextToken 296 = .ok (.iconst 5, 1) := by decide +kernel
theorem dX9_nextToken_297 : decode cX9_nextToken 297 = .ok (.putfield 108, 3) := by decide +kernel
theorem dX9_nextToken_300 : decode cX9_nextToken 300 = .ok (.aload_n 0, 1) := by decide +kernel
theorem dX9_nextToken_301 : decode cX9_nextToken 301 = .ok (.dup, 1) := by decide +kernel
theorem dX9_nextToken_302 : decode cX9_nextToken 302 = .ok (.getfield 98, 3) := by decide +kernel
theorem dX9_nextToken_305 : decode cX9_nextToken 305 = .ok (.iconst 1, 1) := by decide +kernel
theorem dX9_nextToken_306 : decode cX9_nextToken 306 = .ok (.iadd, 1) := by decide +kernel
theorem dX9_nextToken_307 : decode cX9_nextToken 307 = .ok (.putfield 98, 3) := by decide +kernel
theorem dX9_nextToken_310 : decode cX9_nextToken 310 = .ok (.return_, 1) := by decide +kernel
def lX9_nextToken_0 (F : Nat) (K85 : mS → Option mS) (K168 : mS → Option mS) (K247 : mS → Int32 → Int32 → Option mS) (t : Nat) : Nat → mS → Option mS
  | 0, _ => none
  | n + 1, S => bd (f_X9_byteAt F S t (S.1 t 7)) fun q1 => if q1 = (32 : Int32) then (stp (sI S t 7 ((S.1 t 7) + (1 : Int32))) fun S2 => lX9_nextToken_0 F K85 K168 K247 t n S2 ) else (bd (f_X9_byteAt F S t (S.1 t 7)) fun q3 => if q3 = (10 : Int32) then (stp (sI S t 7 ((S.1 t 7) + (1 : Int32))) fun S15 => lX9_nextToken_0 F K85 K168 K247 t n S15 ) else (stp (sI S t 8 (S.1 t 7)) fun S4 => bd (f_X9_byteAt F S4 t (S4.1 t 7)) fun q5 => if 0 ≤ q5 then (if (f_X9_isFigure S4 q5) = true then (stp (sI S4 t 9 (1 : Int32)) fun S10 => stp (sI S10 t 10 (0 : Int32)) fun S11 => K85 S11 ) else (if (f_X9_isLetterByte S4 q5) = true then (stp (sI S4 t 9 (2 : Int32)) fun S7 => stp (sJ S7 t 11 (0 : Int64)) fun S8 => K168 S8 ) else (if (f_X9_isSign S4 q5) = true then (K247 S4 q5 q5) else (K247 S4 q5 (3 : Int32))))) else (stp (sI S4 t 9 (0 : Int32)) fun S13 => some S13)))
set_option maxHeartbeats 4000000 in
set_option maxRecDepth 100000 in
theorem gX9_nextToken_0 {x : mX} {F : Nat} {t : Nat}  {K85 : mS → Option mS} {K168 : mS → Option mS} {K247 : mS → Int32 → Int32 → Option mS} {R : mS} (ht : kd0 t = 9) (hK85 : ∀ (S : mS)  , K85 S  = some R → mG x μX9_nextToken 2 0 0 (mQe R none) 0 0 E0 S 85 [(0, .ref (t))] []) (hK168 : ∀ (S : mS)  , K168 S  = some R → mG x μX9_nextToken 2 0 0 (mQe R none) 0 0 E0 S 168 [(0, .ref (t))] []) (hK247 : ∀ (S : mS) (v1 : Int32) (s0 : Int32) (ks1 : kd0 (t) = 9), K247 S v1 s0 = some R → mG x μX9_nextToken 2 0 0 (mQe R none) 0 0 E0 S 247 [(0, .ref (t)), (1, .int (v1))] [.int (s0), .ref (t)]) : ∀ (n : Nat) (S : mS), lX9_nextToken_0 F K85 K168 K247 t n S  = some R → mG x μX9_nextToken 2 0 0 (mQe R none) 0 0 E0 S 0 [(0, .ref (t))] [] := by
  intro n
  induction n with
  | zero =>
    intro S h
    cases h
  | succ n ih =>
    intro S h
    unfold lX9_nextToken_0 at h
    refine mG.aload_n 0 dX9_nextToken_0 rfl ?_
    refine mG.aload_n 0 dX9_nextToken_1 rfl ?_
    refine mG.get (v := .int (S.1 t 7)) dX9_nextToken_2 mfX9_98 ht rfl ?_
    obtain ⟨q1, hq1, h⟩ := bdp h
    refine mG.callV0 (as := [.int (S.1 t 7)]) (st := []) (S2 := S) (r := some (.int (q1))) dX9_nextToken_5 mvX9_byteAt wk20_18 rfl ht rfl (by decide) (Nat.le_of_ble_eq_true rfl) (c_X9_byteAt ht hq1) ?_
    refine mG.bipush (v := 32) dX9_nextToken_8 (by decide) ?_
    refine mG.icmp_eq 26 dX9_nextToken_10 (by decide) (fun c17 => ?_) (fun c17 => ?_)
    · replace h := itp c17 h
      refine mG.aload_n 0 dX9_nextToken_26 rfl ?_
      refine mG.dup dX9_nextToken_27 rfl ?_
      refine mG.get (v := .int (S.1 t 7)) dX9_nextToken_28 mfX9_98 ht rfl ?_
      refine mG.iconst (v := 1) dX9_nextToken_31 rfl ?_
      refine mG.iadd dX9_nextToken_32 ?_
      obtain ⟨S2, hS2, h⟩ := stpp h
      refine mG.putI dX9_nextToken_33 mfX9_98 rfl (Or.inl rfl) ht hS2 ?_
      refine mG.goto 0 dX9_nextToken_36 (by decide) ?_
      refine mG.sub (lv2 := [(0, .ref (t))]) [0] rfl ?_
      exact ih S2   h
    · replace h := itn c17 h
      refine mG.aload_n 0 dX9_nextToken_13 rfl ?_
      refine mG.aload_n 0 dX9_nextToken_14 rfl ?_
      refine mG.get (v := .int (S.1 t 7)) dX9_nextToken_15 mfX9_98 ht rfl ?_
      obtain ⟨q3, hq3, h⟩ := bdp h
      refine mG.callV0 (as := [.int (S.1 t 7)]) (st := []) (S2 := S) (r := some (.int (q3))) dX9_nextToken_18 mvX9_byteAt wk20_18 rfl ht rfl (by decide) (Nat.le_of_ble_eq_true rfl) (c_X9_byteAt ht hq3) ?_
      refine mG.bipush (v := 10) dX9_nextToken_21 (by decide) ?_
      refine mG.icmp_ne 39 dX9_nextToken_23 (by decide) (fun c16 => ?_) (fun c16 => ?_)
      · replace h := itn c16 h
        refine mG.aload_n 0 dX9_nextToken_39 rfl ?_
        refine mG.aload_n 0 dX9_nextToken_40 rfl ?_
        refine mG.get (v := .int (S.1 t 7)) dX9_nextToken_41 mfX9_98 ht rfl ?_
        obtain ⟨S4, hS4, h⟩ := stpp h
        refine mG.putI dX9_nextToken_44 mfX9_105 rfl (Or.inl rfl) ht hS4 ?_
        refine mG.aload_n 0 dX9_nextToken_47 rfl ?_
        refine mG.aload_n 0 dX9_nextToken_48 rfl ?_
        refine mG.get (v := .int (S4.1 t 7)) dX9_nextToken_49 mfX9_98 ht rfl ?_
        obtain ⟨q5, hq5, h⟩ := bdp h
        refine mG.callV0 (as := [.int (S4.1 t 7)]) (st := []) (S2 := S4) (r := some (.int (q5))) dX9_nextToken_52 mvX9_byteAt wk20_18 rfl ht rfl (by decide) (Nat.le_of_ble_eq_true rfl) (c_X9_byteAt ht hq5) ?_
        refine mG.istore_n (lv2 := [(1, .int (q5)), (0, .ref (t))]) dX9_nextToken_55 rfl (by decide) rfl ?_
        refine mG.iload_n 0 dX9_nextToken_56 rfl ?_
        refine mG.if_ge 68 dX9_nextToken_57 (by decide) (fun c14 => ?_) (fun c14 => ?_)
        · replace h := itp c14 h
          refine mG.iload_n 0 dX9_nextToken_68 rfl ?_
          refine mG.callS0 (as := [.int (q5)]) (st := []) (S2 := S4) (r := some (.int (bI (f_X9_isFigure S4 q5)))) dX9_nextToken_69 mbX9_isFigure wk20_23 wk20_22 rfl rfl (by decide) (Nat.le_of_ble_eq_true rfl) (c_X9_isFigure  rfl) ?_
          refine mG.ifz_eq (b := f_X9_isFigure S4 q5) 151 dX9_nextToken_72 (by decide) (fun c12 => ?_) (fun c12 => ?_)
          · replace h := itn c12 h
            refine mG.iload_n 0 dX9_nextToken_151 rfl ?_
            refine mG.callS0 (as := [.int (q5)]) (st := []) (S2 := S4) (r := some (.int (bI (f_X9_isLetterByte S4 q5)))) dX9_nextToken_152 mbX9_isLetterByte wk21_2 wk21_1 rfl rfl (by decide) (Nat.le_of_ble_eq_true rfl) (c_X9_isLetterByte  rfl) ?_
            refine mG.ifz_eq (b := f_X9_isLetterByte S4 q5) 234 dX9_nextToken_155 (by decide) (fun c9 => ?_) (fun c9 => ?_)
            · replace h := itn c9 h
              refine mG.aload_n 1 dX9_nextToken_234 rfl ?_
              refine mG.iload_n 0 dX9_nextToken_235 rfl ?_
              refine mG.callS0 (as := [.int (q5)]) (st := [.ref (t)]) (S2 := S4) (r := some (.int (bI (f_X9_isSign S4 q5)))) dX9_nextToken_236 mbX9_isSign wk21_5 wk21_4 rfl rfl (by decide) (Nat.le_of_ble_eq_true rfl) (c_X9_isSign  rfl) ?_
              refine mG.ifz_eq (b := f_X9_isSign S4 q5) 246 dX9_nextToken_239 (by decide) (fun c6 => ?_) (fun c6 => ?_)
              · replace h := itn c6 h
                refine mG.iconst (v := 3) dX9_nextToken_246 rfl ?_
                refine mG.sub (lv2 := [(0, .ref (t)), (1, .int (q5))]) [1, 0] rfl ?_
                exact hK247 S4 q5 (3 : Int32) ht h
              · replace h := itp c6 h
                refine mG.iload_n 0 dX9_nextToken_242 rfl ?_
                refine mG.goto 247 dX9_nextToken_243 (by decide) ?_
                refine mG.sub (lv2 := [(0, .ref (t)), (1, .int (q5))]) [1, 0] rfl ?_
                exact hK247 S4 q5 q5 ht h
            · replace h := itp c9 h
              refine mG.aload_n 1 dX9_nextToken_158 rfl ?_
              refine mG.iconst (v := 2) dX9_nextToken_159 rfl ?_
              obtain ⟨S7, hS7, h⟩ := stpp h
              refine mG.putI dX9_nextToken_160 mfX9_108 rfl (Or.inl rfl) ht hS7 ?_
              refine mG.aload_n 1 dX9_nextToken_163 rfl ?_
              refine mG.lconst (v := 0) dX9_nextToken_164 rfl ?_
              obtain ⟨S8, hS8, h⟩ := stpp h
              refine mG.putJ dX9_nextToken_165 mfX9_121 rfl rfl ht hS8 ?_
              refine mG.sub (lv2 := [(0, .ref (t))]) [1] rfl ?_
              exact hK168 S8   h
          · replace h := itp c12 h
            refine mG.aload_n 1 dX9_nextToken_75 rfl ?_
            refine mG.iconst (v := 1) dX9_nextToken_76 rfl ?_
            obtain ⟨S10, hS10, h⟩ := stpp h
            refine mG.putI dX9_nextToken_77 mfX9_108 rfl (Or.inl rfl) ht hS10 ?_
            refine mG.aload_n 1 dX9_nextToken_80 rfl ?_
            refine mG.iconst (v := 0) dX9_nextToken_81 rfl ?_
            obtain ⟨S11, hS11, h⟩ := stpp h
            refine mG.putI dX9_nextToken_82 mfX9_114 rfl (Or.inl rfl) ht hS11 ?_
            refine mG.sub (lv2 := [(0, .ref (t))]) [1] rfl ?_
            exact hK85 S11   h
        · replace h := itn c14 h
          refine mG.aload_n 1 dX9_nextToken_60 rfl ?_
          refine mG.iconst (v := 0) dX9_nextToken_61 rfl ?_
          obtain ⟨S13, hS13, h⟩ := stpp h
          refine mG.putI dX9_nextToken_62 mfX9_108 rfl (Or.inl rfl) ht hS13 ?_
          refine mG.goto 310 dX9_nextToken_65 (by decide) ?_
          obtain rfl := Option.some.inj h
          exact mG.vret dX9_nextToken_310 rfl ⟨rfl, rfl, rfl⟩
      · replace h := itp c16 h
        refine mG.aload_n 0 dX9_nextToken_26 rfl ?_
        refine mG.dup dX9_nextToken_27 rfl ?_
        refine mG.get (v := .int (S.1 t 7)) dX9_nextToken_28 mfX9_98 ht rfl ?_
        refine mG.iconst (v := 1) dX9_nextToken_31 rfl ?_
        refine mG.iadd dX9_nextToken_32 ?_
        obtain ⟨S15, hS15, h⟩ := stpp h
        refine mG.putI dX9_nextToken_33 mfX9_98 rfl (Or.inl rfl) ht hS15 ?_
        refine mG.goto 0 dX9_nextToken_36 (by decide) ?_
        refine mG.sub (lv2 := [(0, .ref (t))]) [0] rfl ?_
        exact ih S15   h
def lX9_nextToken_85 (F : Nat)  (t : Nat) : Nat → mS → Option mS
  | 0, _ => none
  | n + 1, S => bd (f_X9_byteAt F S t (S.1 t 7)) fun q1 => if (f_X9_isFigure S q1) = true then (if (S.1 t 10) ≤ (99999 : Int32) then (bd (f_X9_byteAt F S t (S.1 t 7)) fun q2 => stp (sI S t 10 ((((10 : Int32) * (S.1 t 10)) + q2) - (48 : Int32))) fun S3 => stp (sI S3 t 7 ((S3.1 t 7) + (1 : Int32))) fun S4 => lX9_nextToken_85 F  t n S4 ) else (stp (sI S t 10 (S.1 t 10)) fun S5 => stp (sI S5 t 7 ((S5.1 t 7) + (1 : Int32))) fun S6 => lX9_nextToken_85 F  t n S6 )) else (some S)
set_option maxHeartbeats 4000000 in
set_option maxRecDepth 100000 in
theorem gX9_nextToken_85 {x : mX} {F : Nat} {t : Nat}   {R : mS} (ht : kd0 t = 9)  : ∀ (n : Nat) (S : mS), lX9_nextToken_85 F  t n S  = some R → mG x μX9_nextToken 2 0 0 (mQe R none) 0 0 E0 S 85 [(0, .ref (t))] [] := by
  intro n
  induction n with
  | zero =>
    intro S h
    cases h
  | succ n ih =>
    intro S h
    unfold lX9_nextToken_85 at h
    refine mG.aload_n 0 dX9_nextToken_85 rfl ?_
    refine mG.aload_n 0 dX9_nextToken_86 rfl ?_
    refine mG.get (v := .int (S.1 t 7)) dX9_nextToken_87 mfX9_98 ht rfl ?_
    obtain ⟨q1, hq1, h⟩ := bdp h
    refine mG.callV0 (as := [.int (S.1 t 7)]) (st := []) (S2 := S) (r := some (.int (q1))) dX9_nextToken_90 mvX9_byteAt wk20_18 rfl ht rfl (by decide) (Nat.le_of_ble_eq_true rfl) (c_X9_byteAt ht hq1) ?_
    refine mG.callS0 (as := [.int (q1)]) (st := []) (S2 := S) (r := some (.int (bI (f_X9_isFigure S q1)))) dX9_nextToken_93 mbX9_isFigure wk20_23 wk20_22 rfl rfl (by decide) (Nat.le_of_ble_eq_true rfl) (c_X9_isFigure  rfl) ?_
    refine mG.ifz_eq (b := f_X9_isFigure S q1) 310 dX9_nextToken_96 (by decide) (fun c8 => ?_) (fun c8 => ?_)
    · replace h := itn c8 h
      obtain rfl := Option.some.inj h
      exact mG.vret dX9_nextToken_310 rfl ⟨rfl, rfl, rfl⟩
    · replace h := itp c8 h
      refine mG.aload_n 0 dX9_nextToken_99 rfl ?_
      refine mG.aload_n 0 dX9_nextToken_100 rfl ?_
      refine mG.get (v := .int (S.1 t 10)) dX9_nextToken_101 mfX9_114 ht rfl ?_
      refine mG.ldc (v := 99999) dX9_nextToken_104 wk20_15 ?_
      refine mG.icmp_le 116 dX9_nextToken_106 (by decide) (fun c7 => ?_) (fun c7 => ?_)
      · replace h := itp c7 h
        refine mG.bipush (v := 10) dX9_nextToken_116 (by decide) ?_
        refine mG.aload_n 0 dX9_nextToken_118 rfl ?_
        refine mG.get (v := .int (S.1 t 10)) dX9_nextToken_119 mfX9_114 ht rfl ?_
        refine mG.imul dX9_nextToken_122 ?_
        refine mG.aload_n 0 dX9_nextToken_123 rfl ?_
        refine mG.aload_n 0 dX9_nextToken_124 rfl ?_
        refine mG.get (v := .int (S.1 t 7)) dX9_nextToken_125 mfX9_98 ht rfl ?_
        obtain ⟨q2, hq2, h⟩ := bdp h
        refine mG.callV0 (as := [.int (S.1 t 7)]) (st := [.int ((10 : Int32) * (S.1 t 10)), .ref (t)]) (S2 := S) (r := some (.int (q2))) dX9_nextToken_128 mvX9_byteAt wk20_18 rfl ht rfl (by decide) (Nat.le_of_ble_eq_true rfl) (c_X9_byteAt ht hq2) ?_
        refine mG.iadd dX9_nextToken_131 ?_
        refine mG.bipush (v := 48) dX9_nextToken_132 (by decide) ?_
        refine mG.isub dX9_nextToken_134 ?_
        obtain ⟨S3, hS3, h⟩ := stpp h
        refine mG.putI dX9_nextToken_135 mfX9_114 rfl (Or.inl rfl) ht hS3 ?_
        refine mG.aload_n 0 dX9_nextToken_138 rfl ?_
        refine mG.dup dX9_nextToken_139 rfl ?_
        refine mG.get (v := .int (S3.1 t 7)) dX9_nextToken_140 mfX9_98 ht rfl ?_
        refine mG.iconst (v := 1) dX9_nextToken_143 rfl ?_
        refine mG.iadd dX9_nextToken_144 ?_
        obtain ⟨S4, hS4, h⟩ := stpp h
        refine mG.putI dX9_nextToken_145 mfX9_98 rfl (Or.inl rfl) ht hS4 ?_
        refine mG.goto 85 dX9_nextToken_148 (by decide) ?_
        refine mG.sub (lv2 := [(0, .ref (t))]) [0] rfl ?_
        exact ih S4   h
      · replace h := itn c7 h
        refine mG.aload_n 0 dX9_nextToken_109 rfl ?_
        refine mG.get (v := .int (S.1 t 10)) dX9_nextToken_110 mfX9_114 ht rfl ?_
        refine mG.goto 135 dX9_nextToken_113 (by decide) ?_
        obtain ⟨S5, hS5, h⟩ := stpp h
        refine mG.putI dX9_nextToken_135 mfX9_114 rfl (Or.inl rfl) ht hS5 ?_
        refine mG.aload_n 0 dX9_nextToken_138 rfl ?_
        refine mG.dup dX9_nextToken_139 rfl ?_
        refine mG.get (v := .int (S5.1 t 7)) dX9_nextToken_140 mfX9_98 ht rfl ?_
        refine mG.iconst (v := 1) dX9_nextToken_143 rfl ?_
        refine mG.iadd dX9_nextToken_144 ?_
        obtain ⟨S6, hS6, h⟩ := stpp h
        refine mG.putI dX9_nextToken_145 mfX9_98 rfl (Or.inl rfl) ht hS6 ?_
        refine mG.goto 85 dX9_nextToken_148 (by decide) ?_
        refine mG.sub (lv2 := [(0, .ref (t))]) [0] rfl ?_
        exact ih S6   h
def lX9_nextToken_168 (F : Nat)  (t : Nat) : Nat → mS → Option mS
  | 0, _ => none
  | n + 1, S => bd (f_X9_byteAt F S t (S.1 t 7)) fun q1 => if (f_X9_isLetterByte S q1) = true then (if ((S.2 t 11) >>> (Int32.toInt64 (48 : Int32) &&& 63)) = (0 : Int64) then (bd (f_X9_byteAt F S t (S.1 t 7)) fun q2 => stp (sJ S t 11 (((S.2 t 11) <<< (Int32.toInt64 (8 : Int32) &&& 63)) ||| (Int32.toInt64 q2))) fun S3 => stp (sI S3 t 7 ((S3.1 t 7) + (1 : Int32))) fun S4 => lX9_nextToken_168 F  t n S4 ) else (stp (sJ S t 11 (1152921504606846976 : Int64)) fun S5 => stp (sI S5 t 7 ((S5.1 t 7) + (1 : Int32))) fun S6 => lX9_nextToken_168 F  t n S6 )) else (some S)
set_option maxHeartbeats 4000000 in
set_option maxRecDepth 100000 in
theorem gX9_nextToken_168 {x : mX} {F : Nat} {t : Nat}   {R : mS} (ht : kd0 t = 9)  : ∀ (n : Nat) (S : mS), lX9_nextToken_168 F  t n S  = some R → mG x μX9_nextToken 2 0 0 (mQe R none) 0 0 E0 S 168 [(0, .ref (t))] [] := by
  intro n
  induction n with
  | zero =>
    intro S h
    cases h
  | succ n ih =>
    intro S h
    unfold lX9_nextToken_168 at h
    refine mG.aload_n 0 dX9_nextToken_168 rfl ?_
    refine mG.aload_n 0 dX9_nextToken_169 rfl ?_
    refine mG.get (v := .int (S.1 t 7)) dX9_nextToken_170 mfX9_98 ht rfl ?_
    obtain ⟨q1, hq1, h⟩ := bdp h
    refine mG.callV0 (as := [.int (S.1 t 7)]) (st := []) (S2 := S) (r := some (.int (q1))) dX9_nextToken_173 mvX9_byteAt wk20_18 rfl ht rfl (by decide) (Nat.le_of_ble_eq_true rfl) (c_X9_byteAt ht hq1) ?_
    refine mG.callS0 (as := [.int (q1)]) (st := []) (S2 := S) (r := some (.int (bI (f_X9_isLetterByte S q1)))) dX9_nextToken_176 mbX9_isLetterByte wk21_2 wk21_1 rfl rfl (by decide) (Nat.le_of_ble_eq_true rfl) (c_X9_isLetterByte  rfl) ?_
    refine mG.ifz_eq (b := f_X9_isLetterByte S q1) 310 dX9_nextToken_179 (by decide) (fun c8 => ?_) (fun c8 => ?_)
    · replace h := itn c8 h
      obtain rfl := Option.some.inj h
      exact mG.vret dX9_nextToken_310 rfl ⟨rfl, rfl, rfl⟩
    · replace h := itp c8 h
      refine mG.aload_n 0 dX9_nextToken_182 rfl ?_
      refine mG.aload_n 0 dX9_nextToken_183 rfl ?_
      refine mG.get (v := .long (S.2 t 11)) dX9_nextToken_184 mfX9_121 ht rfl ?_
      refine mG.bipush (v := 48) dX9_nextToken_187 (by decide) ?_
      refine mG.lshr dX9_nextToken_189 ?_
      refine mG.lconst (v := 0) dX9_nextToken_190 rfl ?_
      refine mG.lcmp dX9_nextToken_191 ?_
      refine mG.ifl_eq 201 dX9_nextToken_192 (by decide) (fun c7 => ?_) (fun c7 => ?_)
      · replace h := itp c7 h
        refine mG.aload_n 0 dX9_nextToken_201 rfl ?_
        refine mG.get (v := .long (S.2 t 11)) dX9_nextToken_202 mfX9_121 ht rfl ?_
        refine mG.bipush (v := 8) dX9_nextToken_205 (by decide) ?_
        refine mG.lshl dX9_nextToken_207 ?_
        refine mG.aload_n 0 dX9_nextToken_208 rfl ?_
        refine mG.aload_n 0 dX9_nextToken_209 rfl ?_
        refine mG.get (v := .int (S.1 t 7)) dX9_nextToken_210 mfX9_98 ht rfl ?_
        obtain ⟨q2, hq2, h⟩ := bdp h
        refine mG.callV0 (as := [.int (S.1 t 7)]) (st := [.long ((S.2 t 11) <<< (Int32.toInt64 (8 : Int32) &&& 63)), .ref (t)]) (S2 := S) (r := some (.int (q2))) dX9_nextToken_213 mvX9_byteAt wk20_18 rfl ht rfl (by decide) (Nat.le_of_ble_eq_true rfl) (c_X9_byteAt ht hq2) ?_
        refine mG.i2l dX9_nextToken_216 ?_
        refine mG.lor dX9_nextToken_217 ?_
        obtain ⟨S3, hS3, h⟩ := stpp h
        refine mG.putJ dX9_nextToken_218 mfX9_121 rfl rfl ht hS3 ?_
        refine mG.aload_n 0 dX9_nextToken_221 rfl ?_
        refine mG.dup dX9_nextToken_222 rfl ?_
        refine mG.get (v := .int (S3.1 t 7)) dX9_nextToken_223 mfX9_98 ht rfl ?_
        refine mG.iconst (v := 1) dX9_nextToken_226 rfl ?_
        refine mG.iadd dX9_nextToken_227 ?_
        obtain ⟨S4, hS4, h⟩ := stpp h
        refine mG.putI dX9_nextToken_228 mfX9_98 rfl (Or.inl rfl) ht hS4 ?_
        refine mG.goto 168 dX9_nextToken_231 (by decide) ?_
        refine mG.sub (lv2 := [(0, .ref (t))]) [0] rfl ?_
        exact ih S4   h
      · replace h := itn c7 h
        refine mG.ldc2 (v := 1152921504606846976) dX9_nextToken_195 wk20_17 ?_
        refine mG.goto 218 dX9_nextToken_198 (by decide) ?_
        obtain ⟨S5, hS5, h⟩ := stpp h
        refine mG.putJ dX9_nextToken_218 mfX9_121 rfl rfl ht hS5 ?_
        refine mG.aload_n 0 dX9_nextToken_221 rfl ?_
        refine mG.dup dX9_nextToken_222 rfl ?_
        refine mG.get (v := .int (S5.1 t 7)) dX9_nextToken_223 mfX9_98 ht rfl ?_
        refine mG.iconst (v := 1) dX9_nextToken_226 rfl ?_
        refine mG.iadd dX9_nextToken_227 ?_
        obtain ⟨S6, hS6, h⟩ := stpp h
        refine mG.putI dX9_nextToken_228 mfX9_98 rfl (Or.inl rfl) ht hS6 ?_
        refine mG.goto 168 dX9_nextToken_231 (by decide) ?_
        refine mG.sub (lv2 := [(0, .ref (t))]) [0] rfl ?_
        exact ih S6   h
def lX9_nextToken_247 (F : Nat) (K272 : mS → Int32 → Option mS) (t : Nat) (S : mS) (v1 : Int32) (s0 : Int32) : Option mS := stp (sI S t 9 s0) fun S1 => stp (sI S1 t 7 ((S1.1 t 7) + (1 : Int32))) fun S2 => if v1 = (60 : Int32) then (K272 S2 v1) else (if v1 = (62 : Int32) then (K272 S2 v1) else (some S2))
set_option maxHeartbeats 4000000 in
set_option maxRecDepth 100000 in
theorem gX9_nextToken_247 {x : mX} {F : Nat} {t : Nat} {K272 : mS → Int32 → Option mS} {R : mS} (ht : kd0 t = 9) (hK272 : ∀ (S : mS) (v1 : Int32) , K272 S v1 = some R → mG x μX9_nextToken 2 0 0 (mQe R none) 0 0 E0 S 272 [(0, .ref (t)), (1, .int (v1))] []) (S : mS) (v1 : Int32) (s0 : Int32) (ks1 : kd0 (t) = 9) (h : lX9_nextToken_247 F K272 t S v1 s0 = some R) : mG x μX9_nextToken 2 0 0 (mQe R none) 0 0 E0 S 247 [(0, .ref (t)), (1, .int (v1))] [.int (s0), .ref (t)] := by
  unfold lX9_nextToken_247 at h
  obtain ⟨S1, hS1, h⟩ := stpp h
  refine mG.putI dX9_nextToken_247 mfX9_108 rfl (Or.inl rfl) ks1 hS1 ?_
  refine mG.aload_n 0 dX9_nextToken_250 rfl ?_
  refine mG.dup dX9_nextToken_251 rfl ?_
  refine mG.get (v := .int (S1.1 t 7)) dX9_nextToken_252 mfX9_98 ht rfl ?_
  refine mG.iconst (v := 1) dX9_nextToken_255 rfl ?_
  refine mG.iadd dX9_nextToken_256 ?_
  obtain ⟨S2, hS2, h⟩ := stpp h
  refine mG.putI dX9_nextToken_257 mfX9_98 rfl (Or.inl rfl) ht hS2 ?_
  refine mG.iload_n 1 dX9_nextToken_260 rfl ?_
  refine mG.bipush (v := 60) dX9_nextToken_261 (by decide) ?_
  refine mG.icmp_eq 272 dX9_nextToken_263 (by decide) (fun c4 => ?_) (fun c4 => ?_)
  · replace h := itp c4 h
    refine mG.sub (lv2 := [(0, .ref (t)), (1, .int (v1))]) [0, 1] rfl ?_
    exact hK272 S2 v1  h
  · replace h := itn c4 h
    refine mG.iload_n 1 dX9_nextToken_266 rfl ?_
    refine mG.bipush (v := 62) dX9_nextToken_267 (by decide) ?_
    refine mG.icmp_ne 310 dX9_nextToken_269 (by decide) (fun c3 => ?_) (fun c3 => ?_)
    · replace h := itn c3 h
      obtain rfl := Option.some.inj h
      exact mG.vret dX9_nextToken_310 rfl ⟨rfl, rfl, rfl⟩
    · replace h := itp c3 h
      refine mG.sub (lv2 := [(0, .ref (t)), (1, .int (v1))]) [0, 1] rfl ?_
      exact hK272 S2 v1  h
def lX9_nextToken_272 (F : Nat)  (t : Nat) (S : mS) (v1 : Int32) : Option mS := bd (f_X9_byteAt F S t (S.1 t 7)) fun q1 => if q1 = (61 : Int32) then (if v1 = (60 : Int32) then (stp (sI S t 9 (4 : Int32)) fun S4 => stp (sI S4 t 7 ((S4.1 t 7) + (1 : Int32))) fun S5 => some S5) else (stp (sI S t 9 (5 : Int32)) fun S2 => stp (sI S2 t 7 ((S2.1 t 7) + (1 : Int32))) fun S3 => some S3)) else (some S)
set_option maxHeartbeats 4000000 in
set_option maxRecDepth 100000 in
theorem gX9_nextToken_272 {x : mX} {F : Nat} {t : Nat}  {R : mS} (ht : kd0 t = 9)  (S : mS) (v1 : Int32)  (h : lX9_nextToken_272 F  t S v1 = some R) : mG x μX9_nextToken 2 0 0 (mQe R none) 0 0 E0 S 272 [(0, .ref (t)), (1, .int (v1))] [] := by
  unfold lX9_nextToken_272 at h
  refine mG.aload_n 0 dX9_nextToken_272 rfl ?_
  refine mG.aload_n 0 dX9_nextToken_273 rfl ?_
  refine mG.get (v := .int (S.1 t 7)) dX9_nextToken_274 mfX9_98 ht rfl ?_
  obtain ⟨q1, hq1, h⟩ := bdp h
  refine mG.callV0 (as := [.int (S.1 t 7)]) (st := []) (S2 := S) (r := some (.int (q1))) dX9_nextToken_277 mvX9_byteAt wk20_18 rfl ht rfl (by decide) (Nat.le_of_ble_eq_true rfl) (c_X9_byteAt ht hq1) ?_
  refine mG.bipush (v := 61) dX9_nextToken_280 (by decide) ?_
  refine mG.icmp_ne 310 dX9_nextToken_282 (by decide) (fun c7 => ?_) (fun c7 => ?_)
  · replace h := itn c7 h
    obtain rfl := Option.some.inj h
    exact mG.vret dX9_nextToken_310 rfl ⟨rfl, rfl, rfl⟩
  · replace h := itp c7 h
    refine mG.aload_n 0 dX9_nextToken_285 rfl ?_
    refine mG.iload_n 1 dX9_nextToken_286 rfl ?_
    refine mG.bipush (v := 60) dX9_nextToken_287 (by decide) ?_
    refine mG.icmp_ne 296 dX9_nextToken_289 (by decide) (fun c6 => ?_) (fun c6 => ?_)
    · replace h := itn c6 h
      refine mG.iconst (v := 5) dX9_nextToken_296 rfl ?_
      obtain ⟨S2, hS2, h⟩ := stpp h
      refine mG.putI dX9_nextToken_297 mfX9_108 rfl (Or.inl rfl) ht hS2 ?_
      refine mG.aload_n 0 dX9_nextToken_300 rfl ?_
      refine mG.dup dX9_nextToken_301 rfl ?_
      refine mG.get (v := .int (S2.1 t 7)) dX9_nextToken_302 mfX9_98 ht rfl ?_
      refine mG.iconst (v := 1) dX9_nextToken_305 rfl ?_
      refine mG.iadd dX9_nextToken_306 ?_
      obtain ⟨S3, hS3, h⟩ := stpp h
      refine mG.putI dX9_nextToken_307 mfX9_98 rfl (Or.inl rfl) ht hS3 ?_
      obtain rfl := Option.some.inj h
      exact mG.vret dX9_nextToken_310 rfl ⟨rfl, rfl, rfl⟩
    · replace h := itp c6 h
      refine mG.iconst (v := 4) dX9_nextToken_292 rfl ?_
      refine mG.goto 297 dX9_nextToken_293 (by decide) ?_
      obtain ⟨S4, hS4, h⟩ := stpp h
      refine mG.putI dX9_nextToken_297 mfX9_108 rfl (Or.inl rfl) ht hS4 ?_
      refine mG.aload_n 0 dX9_nextToken_300 rfl ?_
      refine mG.dup dX9_nextToken_301 rfl ?_
      refine mG.get (v := .int (S4.1 t 7)) dX9_nextToken_302 mfX9_98 ht rfl ?_
      refine mG.iconst (v := 1) dX9_nextToken_305 rfl ?_
      refine mG.iadd dX9_nextToken_306 ?_
      obtain ⟨S5, hS5, h⟩ := stpp h
      refine mG.putI dX9_nextToken_307 mfX9_98 rfl (Or.inl rfl) ht hS5 ?_
      obtain rfl := Option.some.inj h
      exact mG.vret dX9_nextToken_310 rfl ⟨rfl, rfl, rfl⟩
def f_X9_nextToken (F : Nat) (S : mS) (t : Nat) : Option mS := lX9_nextToken_0 F (fun (S : mS)  => lX9_nextToken_85 F  t F S ) (fun (S : mS)  => lX9_nextToken_168 F  t F S ) (fun (S : mS) (v1 : Int32) (s0 : Int32) => lX9_nextToken_247 F (fun (S : mS) (v1 : Int32) => lX9_nextToken_272 F  t S v1) t S v1 s0) t F S 
set_option maxHeartbeats 4000000 in
set_option maxRecDepth 100000 in
theorem c_X9_nextToken {F : Nat} {S : mS} {t : Nat} {R : mS} (ht : kd0 t = 9) (h : f_X9_nextToken F S t = some R) : mCt μX9_nextToken 2 0 0 E0 S [.ref (t)] (mQe R none) := by
  unfold f_X9_nextToken at h
  refine mCt.of (by decide) (Nat.le_of_ble_eq_true rfl) ?_
  intro x
  refine mG.sub (lv2 := [(0, .ref (t))]) [0] rfl ?_
  exact gX9_nextToken_0 ht (fun S h => by exact gX9_nextToken_85 ht  F S   h) (fun S h => by exact gX9_nextToken_168 ht  F S   h) (fun S v1 s0 ks1 h => by exact gX9_nextToken_247 ht (fun S v1 h => by exact gX9_nextToken_272 ht   S v1  h)  S v1 s0 ks1 h) F S   h
theorem dX9_w2_0 : decode cX9_w2 0 = .ok (.iload_n 0, 1) := by decide +kernel
theorem dX9_w2_1 : decode cX9_w2 1 = .ok (.i2l, 1) := by decide +kernel
theorem dX9_w2_2 : decode cX9_w2 2 = .ok (.bipush 8, 2) := by decide +kernel
theorem dX9_w2_4 : decode cX9_w2 4 = .ok (.lshl, 1) := by decide +kernel
theorem dX9_w2_5 : decode cX9_w2 5 = .ok (.iload_n 1, 1) := by decide +kernel
theorem dX9_w2_6 : decode cX9_w2 6 = .ok (.i2l, 1) := by decide +kernel
theorem dX9_w2_7 : decode cX9_w2 7 = .ok (.lor, 1) := by decide +kernel
theorem dX9_w2_8 : decode cX9_w2 8 = .ok (.lreturn, 1) := by decide +kernel
def f_X9_w2 (S0 : mS) (a1 : Int32) (a2 : Int32) : Int64 := ((Int32.toInt64 a1) <<< (Int32.toInt64 (8 : Int32) &&& 63)) ||| (Int32.toInt64 a2)
set_option maxHeartbeats 4000000 in
set_option maxRecDepth 100000 in
theorem c_X9_w2 {S0 : mS} {a1 : Int32} {a2 : Int32} {R : Int64}  (h : f_X9_w2 S0 a1 a2 = R) : mCt μX9_w2 1 0 0 E0 S0 [.int (a1), .int (a2)] (mQe S0 (some (.long R))) := by
  unfold f_X9_w2 at h
  refine mCt.of (by decide) (Nat.le_of_ble_eq_true rfl) ?_
  intro x
  refine mG.iload_n 0 dX9_w2_0 rfl ?_
  refine mG.i2l dX9_w2_1 ?_
  refine mG.bipush (v := 8) dX9_w2_2 (by decide) ?_
  refine mG.lshl dX9_w2_4 ?_
  refine mG.iload_n 1 dX9_w2_5 rfl ?_
  refine mG.i2l dX9_w2_6 ?_
  refine mG.lor dX9_w2_7 ?_
  subst h
  exact mG.lret dX9_w2_8 rfl ⟨rfl, rfl, rfl⟩
theorem dX9_w3_0 : decode cX9_w3 0 = .ok (.iload_n 0, 1) := by decide +kernel
theorem dX9_w3_1 : decode cX9_w3 1 = .ok (.iload_n 1, 1) := by decide +kernel
theorem dX9_w3_2 : decode cX9_w3 2 = .ok (.invokestatic 130, 3) := by decide +kernel
theorem dX9_w3_5 : decode cX9_w3 5 = .ok (.bipush 8, 2) := by decide +kernel
theorem dX9_w3_7 : decode cX9_w3 7 = .ok (.lshl, 1) := by decide +kernel
theorem dX9_w3_8 : decode cX9_w3 8 = .ok (.iload_n 2, 1) := by decide +kernel
theorem dX9_w3_9 : decode cX9_w3 9 = .ok (.i2l, 1) := by decide +kernel
theorem dX9_w3_10 : decode cX9_w3 10 = .ok (.lor, 1) := by decide +kernel
theorem dX9_w3_11 : decode cX9_w3 11 = .ok (.lreturn, 1) := by decide +kernel
def f_X9_w3 (S0 : mS) (a1 : Int32) (a2 : Int32) (a3 : Int32) : Int64 := ((f_X9_w2 S0 a1 a2) <<< (Int32.toInt64 (8 : Int32) &&& 63)) ||| (Int32.toInt64 a3)
set_option maxHeartbeats 4000000 in
set_option maxRecDepth 100000 in
theorem c_X9_w3 {S0 : mS} {a1 : Int32} {a2 : Int32} {a3 : Int32} {R : Int64}  (h : f_X9_w3 S0 a1 a2 a3 = R) : mCt μX9_w3 2 0 0 E0 S0 [.int (a1), .int (a2), .int (a3)] (mQe S0 (some (.long R))) := by
  unfold f_X9_w3 at h
  refine mCt.of (by decide) (Nat.le_of_ble_eq_true rfl) ?_
  intro x
  refine mG.iload_n 0 dX9_w3_0 rfl ?_
  refine mG.iload_n 1 dX9_w3_1 rfl ?_
  refine mG.callS0 (as := [.int (a1), .int (a2)]) (st := []) (S2 := S0) (r := some (.long (f_X9_w2 S0 a1 a2))) dX9_w3_2 mbX9_w2 wk22_2 wk22_1 rfl rfl (by decide) (Nat.le_of_ble_eq_true rfl) (c_X9_w2  rfl) ?_
  refine mG.bipush (v := 8) dX9_w3_5 (by decide) ?_
  refine mG.lshl dX9_w3_7 ?_
  refine mG.iload_n 2 dX9_w3_8 rfl ?_
  refine mG.i2l dX9_w3_9 ?_
  refine mG.lor dX9_w3_10 ?_
  subst h
  exact mG.lret dX9_w3_11 rfl ⟨rfl, rfl, rfl⟩
theorem dX9_w4_0 : decode cX9_w4 0 = .ok (.iload_n 0, 1) := by decide +kernel
theorem dX9_w4_1 : decode cX9_w4 1 = .ok (.iload_n 1, 1) := by decide +kernel
theorem dX9_w4_2 : decode cX9_w4 2 = .ok (.iload_n 2, 1) := by decide +kernel
theorem dX9_w4_3 : decode cX9_w4 3 = .ok (.invokestatic 134, 3) := by decide +kernel
theorem dX9_w4_6 : decode cX9_w4 6 = .ok (.bipush 8, 2) := by decide +kernel
theorem dX9_w4_8 : decode cX9_w4 8 = .ok (.lshl, 1) := by decide +kernel
theorem dX9_w4_9 : decode cX9_w4 9 = .ok (.iload_n 3, 1) := by decide +kernel
theorem dX9_w4_10 : decode cX9_w4 10 = .ok (.i2l, 1) := by decide +kernel
theorem dX9_w4_11 : decode cX9_w4 11 = .ok (.lor, 1) := by decide +kernel
theorem dX9_w4_12 : decode cX9_w4 12 = .ok (.lreturn, 1) := by decide +kernel
def f_X9_w4 (S0 : mS) (a1 : Int32) (a2 : Int32) (a3 : Int32) (a4 : Int32) : Int64 := ((f_X9_w3 S0 a1 a2 a3) <<< (Int32.toInt64 (8 : Int32) &&& 63)) ||| (Int32.toInt64 a4)
set_option maxHeartbeats 4000000 in
set_option maxRecDepth 100000 in
theorem c_X9_w4 {S0 : mS} {a1 : Int32} {a2 : Int32} {a3 : Int32} {a4 : Int32} {R : Int64}  (h : f_X9_w4 S0 a1 a2 a3 a4 = R) : mCt μX9_w4 3 0 0 E0 S0 [.int (a1), .int (a2), .int (a3), .int (a4)] (mQe S0 (some (.long R))) := by
  unfold f_X9_w4 at h
  refine mCt.of (by decide) (Nat.le_of_ble_eq_true rfl) ?_
  intro x
  refine mG.iload_n 0 dX9_w4_0 rfl ?_
  refine mG.iload_n 1 dX9_w4_1 rfl ?_
  refine mG.iload_n 2 dX9_w4_2 rfl ?_
  refine mG.callS0 (as := [.int (a1), .int (a2), .int (a3)]) (st := []) (S2 := S0) (r := some (.long (f_X9_w3 S0 a1 a2 a3))) dX9_w4_3 mbX9_w3 wk21_23 wk21_22 rfl rfl (by decide) (Nat.le_of_ble_eq_true rfl) (c_X9_w3  rfl) ?_
  refine mG.bipush (v := 8) dX9_w4_6 (by decide) ?_
  refine mG.lshl dX9_w4_8 ?_
  refine mG.iload_n 3 dX9_w4_9 rfl ?_
  refine mG.i2l dX9_w4_10 ?_
  refine mG.lor dX9_w4_11 ?_
  subst h
  exact mG.lret dX9_w4_12 rfl ⟨rfl, rfl, rfl⟩
theorem dX9_w5_0 : decode cX9_w5 0 = .ok (.iload_n 0, 1) := by decide +kernel
theorem dX9_w5_1 : decode cX9_w5 1 = .ok (.iload_n 1, 1) := by decide +kernel
theorem dX9_w5_2 : decode cX9_w5 2 = .ok (.iload_n 2, 1) := by decide +kernel
theorem dX9_w5_3 : decode cX9_w5 3 = .ok (.iload_n 3, 1) := by decide +kernel
theorem dX9_w5_4 : decode cX9_w5 4 = .ok (.invokestatic 138, 3) := by decide +kernel
theorem dX9_w5_7 : decode cX9_w5 7 = .ok (.bipush 8, 2) := by decide +kernel
theorem dX9_w5_9 : decode cX9_w5 9 = .ok (.lshl, 1) := by decide +kernel
theorem dX9_w5_10 : decode cX9_w5 10 = .ok (.iload 4, 2) := by decide +kernel
theorem dX9_w5_12 : decode cX9_w5 12 = .ok (.i2l, 1) := by decide +kernel
theorem dX9_w5_13 : decode cX9_w5 13 = .ok (.lor, 1) := by decide +kernel
theorem dX9_w5_14 : decode cX9_w5 14 = .ok (.lreturn, 1) := by decide +kernel
def f_X9_w5 (S0 : mS) (a1 : Int32) (a2 : Int32) (a3 : Int32) (a4 : Int32) (a5 : Int32) : Int64 := ((f_X9_w4 S0 a1 a2 a3 a4) <<< (Int32.toInt64 (8 : Int32) &&& 63)) ||| (Int32.toInt64 a5)
set_option maxHeartbeats 4000000 in
set_option maxRecDepth 100000 in
theorem c_X9_w5 {S0 : mS} {a1 : Int32} {a2 : Int32} {a3 : Int32} {a4 : Int32} {a5 : Int32} {R : Int64}  (h : f_X9_w5 S0 a1 a2 a3 a4 a5 = R) : mCt μX9_w5 4 0 0 E0 S0 [.int (a1), .int (a2), .int (a3), .int (a4), .int (a5)] (mQe S0 (some (.long R))) := by
  unfold f_X9_w5 at h
  refine mCt.of (by decide) (Nat.le_of_ble_eq_true rfl) ?_
  intro x
  refine mG.iload_n 0 dX9_w5_0 rfl ?_
  refine mG.iload_n 1 dX9_w5_1 rfl ?_
  refine mG.iload_n 2 dX9_w5_2 rfl ?_
  refine mG.iload_n 3 dX9_w5_3 rfl ?_
  refine mG.callS0 (as := [.int (a1), .int (a2), .int (a3), .int (a4)]) (st := []) (S2 := S0) (r := some (.long (f_X9_w4 S0 a1 a2 a3 a4))) dX9_w5_4 mbX9_w4 wk21_20 wk21_19 rfl rfl (by decide) (Nat.le_of_ble_eq_true rfl) (c_X9_w4  rfl) ?_
  refine mG.bipush (v := 8) dX9_w5_7 (by decide) ?_
  refine mG.lshl dX9_w5_9 ?_
  refine mG.iload 4 dX9_w5_10 rfl ?_
  refine mG.i2l dX9_w5_12 ?_
  refine mG.lor dX9_w5_13 ?_
  subst h
  exact mG.lret dX9_w5_14 rfl ⟨rfl, rfl, rfl⟩
theorem dX9_w6_0 : decode cX9_w6 0 = .ok (.iload_n 0, 1) := by decide +kernel
theorem dX9_w6_1 : decode cX9_w6 1 = .ok (.iload_n 1, 1) := by decide +kernel
theorem dX9_w6_2 : decode cX9_w6 2 = .ok (.iload_n 2, 1) := by decide +kernel
theorem dX9_w6_3 : decode cX9_w6 3 = .ok (.iload_n 3, 1) := by decide +kernel
theorem dX9_w6_4 : decode cX9_w6 4 = .ok (.iload 4, 2) := by decide +kernel
theorem dX9_w6_6 : decode cX9_w6 6 = .ok (.invokestatic 142, 3) := by decide +kernel
theorem dX9_w6_9 : decode cX9_w6 9 = .ok (.bipush 8, 2) := by decide +kernel
theorem dX9_w6_11 : decode cX9_w6 11 = .ok (.lshl, 1) := by decide +kernel
theorem dX9_w6_12 : decode cX9_w6 12 = .ok (.iload 5, 2) := by decide +kernel
theorem dX9_w6_14 : decode cX9_w6 14 = .ok (.i2l, 1) := by decide +kernel
theorem dX9_w6_15 : decode cX9_w6 15 = .ok (.lor, 1) := by decide +kernel
theorem dX9_w6_16 : decode cX9_w6 16 = .ok (.lreturn, 1) := by decide +kernel
def f_X9_w6 (S0 : mS) (a1 : Int32) (a2 : Int32) (a3 : Int32) (a4 : Int32) (a5 : Int32) (a6 : Int32) : Int64 := ((f_X9_w5 S0 a1 a2 a3 a4 a5) <<< (Int32.toInt64 (8 : Int32) &&& 63)) ||| (Int32.toInt64 a6)
set_option maxHeartbeats 4000000 in
set_option maxRecDepth 100000 in
theorem c_X9_w6 {S0 : mS} {a1 : Int32} {a2 : Int32} {a3 : Int32} {a4 : Int32} {a5 : Int32} {a6 : Int32} {R : Int64}  (h : f_X9_w6 S0 a1 a2 a3 a4 a5 a6 = R) : mCt μX9_w6 5 0 0 E0 S0 [.int (a1), .int (a2), .int (a3), .int (a4), .int (a5), .int (a6)] (mQe S0 (some (.long R))) := by
  unfold f_X9_w6 at h
  refine mCt.of (by decide) (Nat.le_of_ble_eq_true rfl) ?_
  intro x
  refine mG.iload_n 0 dX9_w6_0 rfl ?_
  refine mG.iload_n 1 dX9_w6_1 rfl ?_
  refine mG.iload_n 2 dX9_w6_2 rfl ?_
  refine mG.iload_n 3 dX9_w6_3 rfl ?_
  refine mG.iload 4 dX9_w6_4 rfl ?_
  refine mG.callS0 (as := [.int (a1), .int (a2), .int (a3), .int (a4), .int (a5)]) (st := []) (S2 := S0) (r := some (.long (f_X9_w5 S0 a1 a2 a3 a4 a5))) dX9_w6_6 mbX9_w5 wk21_17 wk21_16 rfl rfl (by decide) (Nat.le_of_ble_eq_true rfl) (c_X9_w5  rfl) ?_
  refine mG.bipush (v := 8) dX9_w6_9 (by decide) ?_
  refine mG.lshl dX9_w6_11 ?_
  refine mG.iload 5 dX9_w6_12 rfl ?_
  refine mG.i2l dX9_w6_14 ?_
  refine mG.lor dX9_w6_15 ?_
  subst h
  exact mG.lret dX9_w6_16 rfl ⟨rfl, rfl, rfl⟩
theorem dX9_isWord_0 : decode cX9_isWord 0 = .ok (.aload_n 0, 1) := by decide +kernel
theorem dX9_isWord_1 : decode cX9_isWord 1 = .ok (.getfield 108, 3) := by decide +kernel
theorem dX9_isWord_4 : decode cX9_isWord 4 = .ok (.iconst 2, 1) := by decide +kernel
theorem dX9_isWord_5 : decode cX9_isWord 5 = .ok (.if_icmp .ne 16, 3) := by decide +kernel
theorem dX9_isWord_8 : decode cX9_isWord 8 = .ok (.aload_n 0, 1) := by decide +kernel
theorem dX9_isWord_9 : decode cX9_isWord 9 = .ok (.getfield 121, 3) := by decide +kernel
theorem dX9_isWord_12 : decode cX9_isWord 12 = .ok (.lload_n 1, 1) := by decide +kernel
theorem dX9_isWord_13 : decode cX9_isWord 13 = .ok (.lcmp, 1) := by decide +kernel
theorem dX9_isWord_14 : decode cX9_isWord 14 = .ok (.ifCond .ne 7, 3) := by decide +kernel
theorem dX9_isWord_17 : decode cX9_isWord 17 = .ok (.iconst 1, 1) := by decide +kernel
theorem dX9_isWord_18 : decode cX9_isWord 18 = .ok (.goto 4, 3) := by decide +kernel
theorem dX9_isWord_21 : decode cX9_isWord 21 = .ok (.iconst 0, 1) := by decide +kernel
theorem dX9_isWord_22 : decode cX9_isWord 22 = .ok (.ireturn, 1) := by decide +kernel
def f_X9_isWord (S0 : mS) (t : Nat) (a1 : Int64) : Bool := if (S0.1 t 9) = (2 : Int32) then (if (S0.2 t 11) = a1 then (true) else (false)) else (false)
set_option maxHeartbeats 4000000 in
set_option maxRecDepth 100000 in
theorem c_X9_isWord {S0 : mS} {t : Nat} {a1 : Int64} {R : Bool} (ht : kd0 t = 9) (h : f_X9_isWord S0 t a1 = R) : mCt μX9_isWord 1 0 0 E0 S0 [.ref (t), .long (a1)] (mQe S0 (some (.int (bI R)))) := by
  unfold f_X9_isWord at h
  refine mCt.of (by decide) (Nat.le_of_ble_eq_true rfl) ?_
  intro x
  refine mG.aload_n 0 dX9_isWord_0 rfl ?_
  refine mG.get (v := .int (S0.1 t 9)) dX9_isWord_1 mfX9_108 ht rfl ?_
  refine mG.iconst (v := 2) dX9_isWord_4 rfl ?_
  refine mG.icmp_ne 21 dX9_isWord_5 (by decide) (fun c2 => ?_) (fun c2 => ?_)
  · replace h := itn c2 h
    refine mG.iconst (v := 0) dX9_isWord_21 rfl ?_
    subst h
    exact mG.zret (b := false) dX9_isWord_22 rfl rfl ⟨rfl, rfl, rfl⟩
  · replace h := itp c2 h
    refine mG.aload_n 0 dX9_isWord_8 rfl ?_
    refine mG.get (v := .long (S0.2 t 11)) dX9_isWord_9 mfX9_121 ht rfl ?_
    refine mG.lload_n 1 dX9_isWord_12 rfl ?_
    refine mG.lcmp dX9_isWord_13 ?_
    refine mG.ifl_ne 21 dX9_isWord_14 (by decide) (fun c1 => ?_) (fun c1 => ?_)
    · replace h := itn c1 h
      refine mG.iconst (v := 0) dX9_isWord_21 rfl ?_
      subst h
      exact mG.zret (b := false) dX9_isWord_22 rfl rfl ⟨rfl, rfl, rfl⟩
    · replace h := itp c1 h
      refine mG.iconst (v := 1) dX9_isWord_17 rfl ?_
      refine mG.goto 22 dX9_isWord_18 (by decide) ?_
      subst h
      exact mG.zret (b := true) dX9_isWord_22 rfl rfl ⟨rfl, rfl, rfl⟩
theorem dX9_emit_0 : decode cX9_emit 0 = .ok (.aload_n 0, 1) := by decide +kernel
theorem dX9_emit_1 : decode cX9_emit 1 = .ok (.getfield 16, 3) := by decide +kernel
theorem dX9_emit_4 : decode cX9_emit 4 = .ok (.aload_n 0, 1) := by decide +kernel
theorem dX9_emit_5 : decode cX9_emit 5 = .ok (.getfield 146, 3) := by decide +kernel
theorem dX9_emit_8 : decode cX9_emit 8 = .ok (.bipush 97, 2) := by decide +kernel
theorem dX9_emit_10 : decode cX9_emit 10 = .ok (.iadd, 1) := by decide +kernel
theorem dX9_emit_11 : decode cX9_emit 11 = .ok (.iconst 2, 1) := by decide +kernel
theorem dX9_emit_12 : decode cX9_emit 12 = .ok (.aload_n 0, 1) := by decide +kernel
theorem dX9_emit_13 : decode cX9_emit 13 = .ok (.getfield 149, 3) := by decide +kernel
theorem dX9_emit_16 : decode cX9_emit 16 = .ok (.imul, 1) := by decide +kernel
theorem dX9_emit_17 : decode cX9_emit 17 = .ok (.iadd, 1) := by decide +kernel
theorem dX9_emit_18 : decode cX9_emit 18 = .ok (.iload_n 1, 1) := by decide +kernel
theorem dX9_emit_19 : decode cX9_emit 19 = .ok (.iastore, 1) := by decide +kernel
theorem dX9_emit_20 : decode cX9_emit 20 = .ok (.aload_n 0, 1) := by decide +kernel
theorem dX9_emit_21 : decode cX9_emit 21 = .ok (.getfield 16, 3) := by decide +kernel
theorem dX9_emit_24 : decode cX9_emit 24 = .ok (.aload_n 0, 1) := by decide +kernel
theorem dX9_emit_25 : decode cX9_emit 25 = .ok (.getfield 146, 3) := by decide +kernel
theorem dX9_emit_28 : decode cX9_emit 28 = .ok (.bipush 97, 2) := by decide +kernel
theorem dX9_emit_30 : decode cX9_emit 30 = .ok (.iadd, 1) := by decide +kernel
theorem dX9_emit_31 : decode cX9_emit 31 = .ok (.iconst 2, 1) := by decide +kernel
theorem dX9_emit_32 : decode cX9_emit 32 = .ok (.aload_n 0, 1) := by decide +kernel
theorem dX9_emit_33 : decode cX9_emit 33 = .ok (.getfield 149, 3) := by decide +kernel
theorem dX9_emit_36 : decode cX9_emit 36 = .ok (.imul, 1) := by decide +kernel
theorem dX9_emit_37 : decode cX9_emit 37 = .ok (.iadd, 1) := by decide +kernel
theorem dX9_emit_38 : decode cX9_emit 38 = .ok (.iconst 1, 1) := by decide +kernel
theorem dX9_emit_39 : decode cX9_emit 39 = .ok (.iadd, 1) := by decide +kernel
theorem dX9_emit_40 : decode cX9_emit 40 = .ok (.iload_n 2, 1) := by decide +kernel
theorem dX9_emit_41 : decode cX9_emit 41 = .ok (.iastore, 1) := by decide +kernel
theorem dX9_emit_42 : decode cX9_emit 42 = .ok (.aload_n 0, 1) := by decide +kernel
theorem dX9_emit_43 : decode cX9_emit 43 = .ok (.dup, 1) := by decide +kernel
theorem dX9_emit_44 : decode cX9_emit 44 = .ok (.getfield 149, 3) := by decide +kernel
theorem dX9_emit_47 : decode cX9_emit 47 = .ok (.iconst 1, 1) := by decide +kernel
theorem dX9_emit_48 : decode cX9_emit 48 = .ok (.iadd, 1) := by decide +kernel
theorem dX9_emit_49 : decode cX9_emit 49 = .ok (.putfield 149, 3) := by decide +kernel
theorem dX9_emit_52 : decode cX9_emit 52 = .ok (.return_, 1) := by decide +kernel
def f_X9_emit (F : Nat) (S : mS) (t : Nat) (a1 : Int32) (a2 : Int32) : Option mS := ck (inb (((S.1 t 12) + (97 : Int32)) + ((2 : Int32) * (S.1 t 13))) 2820) (stp (sI S (t + 3) (((S.1 t 12) + (97 : Int32)) + ((2 : Int32) * (S.1 t 13))).toNatClampNeg a1) fun S2 => ck (inb ((((S2.1 t 12) + (97 : Int32)) + ((2 : Int32) * (S2.1 t 13))) + (1 : Int32)) 2820) (stp (sI S2 (t + 3) ((((S2.1 t 12) + (97 : Int32)) + ((2 : Int32) * (S2.1 t 13))) + (1 : Int32)).toNatClampNeg a2) fun S4 => stp (sI S4 t 13 ((S4.1 t 13) + (1 : Int32))) fun S5 => some S5))
set_option maxHeartbeats 4000000 in
set_option maxRecDepth 100000 in
theorem c_X9_emit {F : Nat} {S : mS} {t : Nat} {a1 : Int32} {a2 : Int32} {R : mS} (ht : kd0 t = 9) (h : f_X9_emit F S t a1 a2 = some R) : mCt μX9_emit 1 0 0 E0 S [.ref (t), .int (a1), .int (a2)] (mQe R none) := by
  unfold f_X9_emit at h
  refine mCt.of (by decide) (Nat.le_of_ble_eq_true rfl) ?_
  intro x
  refine mG.aload_n 0 dX9_emit_0 rfl ?_
  refine mG.get (v := .ref (t + 3)) dX9_emit_1 mfX9_16 ht (lr9_texts ht) ?_
  refine mG.aload_n 0 dX9_emit_4 rfl ?_
  refine mG.get (v := .int (S.1 t 12)) dX9_emit_5 mfX9_146 ht rfl ?_
  refine mG.bipush (v := 97) dX9_emit_8 (by decide) ?_
  refine mG.iadd dX9_emit_10 ?_
  refine mG.iconst (v := 2) dX9_emit_11 rfl ?_
  refine mG.aload_n 0 dX9_emit_12 rfl ?_
  refine mG.get (v := .int (S.1 t 13)) dX9_emit_13 mfX9_149 ht rfl ?_
  refine mG.imul dX9_emit_16 ?_
  refine mG.iadd dX9_emit_17 ?_
  refine mG.iload_n 1 dX9_emit_18 rfl ?_
  obtain ⟨b1, h⟩ := ckp h
  obtain ⟨S2, hS2, h⟩ := stpp h
  refine mG.iast dX9_emit_19 (lk9_texts ht) (ll9_texts ht) (inbp b1) hS2 ?_
  refine mG.aload_n 0 dX9_emit_20 rfl ?_
  refine mG.get (v := .ref (t + 3)) dX9_emit_21 mfX9_16 ht (lr9_texts ht) ?_
  refine mG.aload_n 0 dX9_emit_24 rfl ?_
  refine mG.get (v := .int (S2.1 t 12)) dX9_emit_25 mfX9_146 ht rfl ?_
  refine mG.bipush (v := 97) dX9_emit_28 (by decide) ?_
  refine mG.iadd dX9_emit_30 ?_
  refine mG.iconst (v := 2) dX9_emit_31 rfl ?_
  refine mG.aload_n 0 dX9_emit_32 rfl ?_
  refine mG.get (v := .int (S2.1 t 13)) dX9_emit_33 mfX9_149 ht rfl ?_
  refine mG.imul dX9_emit_36 ?_
  refine mG.iadd dX9_emit_37 ?_
  refine mG.iconst (v := 1) dX9_emit_38 rfl ?_
  refine mG.iadd dX9_emit_39 ?_
  refine mG.iload_n 2 dX9_emit_40 rfl ?_
  obtain ⟨b3, h⟩ := ckp h
  obtain ⟨S4, hS4, h⟩ := stpp h
  refine mG.iast dX9_emit_41 (lk9_texts ht) (ll9_texts ht) (inbp b3) hS4 ?_
  refine mG.aload_n 0 dX9_emit_42 rfl ?_
  refine mG.dup dX9_emit_43 rfl ?_
  refine mG.get (v := .int (S4.1 t 13)) dX9_emit_44 mfX9_149 ht rfl ?_
  refine mG.iconst (v := 1) dX9_emit_47 rfl ?_
  refine mG.iadd dX9_emit_48 ?_
  obtain ⟨S5, hS5, h⟩ := stpp h
  refine mG.putI dX9_emit_49 mfX9_149 rfl (Or.inl rfl) ht hS5 ?_
  obtain rfl := Option.some.inj h
  exact mG.vret dX9_emit_52 rfl ⟨rfl, rfl, rfl⟩
theorem dX9_isLong_0 : decode cX9_isLong 0 = .ok (.aload_n 0, 1) := by decide +kernel
theorem dX9_isLong_1 : decode cX9_isLong 1 = .ok (.getfield 108, 3) := by decide +kernel
theorem dX9_isLong_4 : decode cX9_isLong 4 = .ok (.iconst 2, 1) := by decide +kernel
theorem dX9_isLong_5 : decode cX9_isLong 5 = .ok (.if_icmp .ne 17, 3) := by decide +kernel
theorem dX9_isLong_8 : decode cX9_isLong 8 = .ok (.aload_n 0, 1) := by decide +kernel
theorem dX9_isLong_9 : decode cX9_isLong 9 = .ok (.getfield 98, 3) := by decide +kernel
theorem dX9_isLong_12 : decode cX9_isLong 12 = .ok (.aload_n 0, 1) := by decide +kernel
theorem dX9_isLong_13 : decode cX9_isLong 13 = .ok (.getfield 105, 3) := by decide +kernel
theorem dX9_isLong_16 : decode cX9_isLong 16 = .ok (.isub, 1) := by decide +kernel
theorem dX9_isLong_17 : decode cX9_isLong 17 = .ok (.bipush 7, 2) := by decide +kernel
theorem dX9_isLong_19 : decode cX9_isLong 19 = .ok (.if_icmp .eq 5, 3) := by decide +kernel
theorem dX9_isLong_22 : decode cX9_isLong 22 = .ok (.iconst 0, 1) := by decide +kernel
theorem dX9_isLong_23 : decode cX9_isLong 23 = .ok (.ireturn, 1) := by decide +kernel
theorem dX9_isLong_24 : decode cX9_isLong 24 = .ok (.aload_n 0, 1) := by decide +kernel
theorem dX9_isLong_25 : decode cX9_isLong 25 = .ok (.aload_n 0, 1) := by decide +kernel
theorem dX9_isLong_26 : decode cX9_isLong 26 = .ok (.getfield 105, 3) := by decide +kernel
theorem dX9_isLong_29 : decode cX9_isLong 29 = .ok (.invokevirtual 101, 3) := by decide +kernel
theorem dX9_isLong_32 : decode cX9_isLong 32 = .ok (.aload_n 0, 1) := by decide +kernel
theorem dX9_isLong_33 : decode cX9_isLong 33 = .ok (.aload_n 0, 1) := by decide +kernel
theorem dX9_isLong_34 : decode cX9_isLong 34 = .ok (.getfield 105, 3) := by decide +kernel
theorem dX9_isLong_37 : decode cX9_isLong 37 = .ok (.iconst 1, 1) := by decide +kernel
theorem dX9_isLong_38 : decode cX9_isLong 38 = .ok (.iadd, 1) := by decide +kernel
theorem dX9_isLong_39 : decode cX9_isLong 39 = .ok (.invokevirtual 101, 3) := by decide +kernel
theorem dX9_isLong_42 : decode cX9_isLong 42 = .ok (.aload_n 0, 1) := by decide +kernel
theorem dX9_isLong_43 : decode cX9_isLong 43 = .ok (.aload_n 0, 1) := by decide +kernel
theorem dX9_isLong_44 : decode cX9_isLong 44 = .ok (.getfield 105, 3) := by decide +kernel
theorem dX9_isLong_47 : decode cX9_isLong 47 = .ok (.iconst 2, 1) := by decide +kernel
theorem dX9_isLong_48 : decode cX9_isLong 48 = .ok (.iadd, 1) := by decide +kernel
theorem dX9_isLong_49 : decode cX9_isLong 49 = .ok (.invokevirtual 101, 3) := by decide +kernel
theorem dX9_isLong_52 : decode cX9_isLong 52 = .ok (.aload_n 0, 1) := by decide +kernel
theorem dX9_isLong_53 : decode cX9_isLong 53 = .ok (.aload_n 0, 1) := by decide +kernel
theorem dX9_isLong_54 : decode cX9_isLong 54 = .ok (.getfield 105, 3) := by decide +kernel
theorem dX9_isLong_57 : decode cX9_isLong 57 = .ok (.iconst 3, 1) := by decide +kernel
theorem dX9_isLong_58 : decode cX9_isLong 58 = .ok (.iadd, 1) := by decide +kernel
theorem dX9_isLong_59 : decode cX9_isLong 59 = .ok (.invokevirtual 101, 3) := by decide +kernel
theorem dX9_isLong_62 : decode cX9_isLong 62 = .ok (.invokestatic 138, 3) := by decide +kernel
theorem dX9_isLong_65 : decode cX9_isLong 65 = .ok (.lload_n 1, 1) := by decide +kernel
theorem dX9_isLong_66 : decode cX9_isLong 66 = .ok (.lcmp, 1) := by decide +kernel
theorem dX9_isLong_67 : decode cX9_isLong 67 = .ok (.ifCond .ne 46, 3) := by decide +kernel
theorem dX9_isLong_70 : decode cX9_isLong 70 = .ok (.aload_n 0, 1) := by decide +kernel
theorem dX9_isLong_71 : decode cX9_isLong 71 = .ok (.aload_n 0, 1) := by decide +kernel
theorem dX9_isLong_72 : decode cX9_isLong 72 = .ok (.getfield 105, 3) := by decide +kernel
theorem dX9_isLong_75 : decode cX9_isLong 75 = .ok (.iconst 4, 1) := by decide +kernel
theorem dX9_isLong_76 : decode cX9_isLong 76 = .ok (.iadd, 1) := by decide +kernel
theorem dX9_isLong_77 : decode cX9_isLong 77 = .ok (.invokevirtual 101, 3) := by decide +kernel
theorem dX9_isLong_80 : decode cX9_isLong 80 = .ok (.aload_n 0, 1) := by decide +kernel
theorem dX9_isLong_81 : decode cX9_isLong 81 = .ok (.aload_n 0, 1) := by decide +kernel
theorem dX9_isLong_82 : decode cX9_isLong 82 = .ok (.getfield 105, 3) := by decide +kernel
theorem dX9_isLong_85 : decode cX9_isLong 85 = .ok (.iconst 5, 1) := by decide +kernel
theorem dX9_isLong_86 : decode cX9_isLong 86 = .ok (.iadd, 1) := by decide +kernel
theorem dX9_isLong_87 : decode cX9_isLong 87 = .ok (.invokevirtual 101, 3) := by decide +kernel
theorem dX9_isLong_90 : decode cX9_isLong 90 = .ok (.aload_n 0, 1) := by decide +kernel
theorem dX9_isLong_91 : decode cX9_isLong 91 = .ok (.aload_n 0, 1) := by decide +kernel
theorem dX9_isLong_92 : decode cX9_isLong 92 = .ok (.getfield 105, 3) := by decide +kernel
theorem dX9_isLong_95 : decode cX9_isLong 95 = .ok (.bipush 6, 2) := by decide +kernel
theorem dX9_isLong_97 : decode cX9_isLong 97 = .ok (.iadd, 1) := by decide +kernel
theorem dX9_isLong_98 : decode cX9_isLong 98 = .ok (.invokevirtual 101, 3) := by decide +kernel
theorem dX9_isLong_101 : decode cX9_isLong 101 = .ok (.invokestatic 134, 3) := by decide +kernel
theorem dX9_isLong_104 : decode cX9_isLong 104 = .ok (.lload_n 3, 1) := by decide +kernel
theorem dX9_isLong_105 : decode cX9_isLong 105 = .ok (.lcmp, 1) := by decide +kernel
theorem dX9_isLong_106 : decode cX9_isLong 106 = .ok (.ifCond .ne 7, 3) := by decide +kernel
theorem dX9_isLong_109 : decode cX9_isLong 109 = .ok (.iconst 1, 1) := by decide +kernel
theorem dX9_isLong_110 : decode cX9_isLong 110 = .ok (.goto 4, 3) := by decide +kernel
theorem dX9_isLong_113 : decode cX9_isLong 113 = .ok (.iconst 0, 1) := by decide +kernel
theorem dX9_isLong_114 : decode cX9_isLong 114 = .ok (.ireturn, 1) := by decide +kernel
def f_X9_isLong (F : Nat) (S0 : mS) (t : Nat) (a1 : Int64) (a2 : Int64) : Option Bool := if (S0.1 t 9) = (2 : Int32) then (if ((S0.1 t 7) - (S0.1 t 8)) = (7 : Int32) then (bd (f_X9_byteAt F S0 t (S0.1 t 8)) fun q1 => bd (f_X9_byteAt F S0 t ((S0.1 t 8) + (1 : Int32))) fun q2 => bd (f_X9_byteAt F S0 t ((S0.1 t 8) + (2 : Int32))) fun q3 => bd (f_X9_byteAt F S0 t ((S0.1 t 8) + (3 : Int32))) fun q4 => if (f_X9_w4 S0 q1 q2 q3 q4) = a1 then (bd (f_X9_byteAt F S0 t ((S0.1 t 8) + (4 : Int32))) fun q5 => bd (f_X9_byteAt F S0 t ((S0.1 t 8) + (5 : Int32))) fun q6 => bd (f_X9_byteAt F S0 t ((S0.1 t 8) + (6 : Int32))) fun q7 => if (f_X9_w3 S0 q5 q6 q7) = a2 then (some true) else (some false)) else (some false)) else (some false)) else (some false)
set_option maxHeartbeats 4000000 in
set_option maxRecDepth 100000 in
theorem c_X9_isLong {F : Nat} {S0 : mS} {t : Nat} {a1 : Int64} {a2 : Int64} {R : Bool} (ht : kd0 t = 9) (h : f_X9_isLong F S0 t a1 a2 = some R) : mCt μX9_isLong 4 0 0 E0 S0 [.ref (t), .long (a1), .long (a2)] (mQe S0 (some (.int (bI R)))) := by
  unfold f_X9_isLong at h
  refine mCt.of (by decide) (Nat.le_of_ble_eq_true rfl) ?_
  intro x
  refine mG.aload_n 0 dX9_isLong_0 rfl ?_
  refine mG.get (v := .int (S0.1 t 9)) dX9_isLong_1 mfX9_108 ht rfl ?_
  refine mG.iconst (v := 2) dX9_isLong_4 rfl ?_
  refine mG.icmp_ne 22 dX9_isLong_5 (by decide) (fun c11 => ?_) (fun c11 => ?_)
  · replace h := itn c11 h
    refine mG.iconst (v := 0) dX9_isLong_22 rfl ?_
    obtain rfl := Option.some.inj h
    exact mG.zret (b := false) dX9_isLong_23 rfl rfl ⟨rfl, rfl, rfl⟩
  · replace h := itp c11 h
    refine mG.aload_n 0 dX9_isLong_8 rfl ?_
    refine mG.get (v := .int (S0.1 t 7)) dX9_isLong_9 mfX9_98 ht rfl ?_
    refine mG.aload_n 0 dX9_isLong_12 rfl ?_
    refine mG.get (v := .int (S0.1 t 8)) dX9_isLong_13 mfX9_105 ht rfl ?_
    refine mG.isub dX9_isLong_16 ?_
    refine mG.bipush (v := 7) dX9_isLong_17 (by decide) ?_
    refine mG.icmp_eq 24 dX9_isLong_19 (by decide) (fun c10 => ?_) (fun c10 => ?_)
    · replace h := itp c10 h
      refine mG.aload_n 0 dX9_isLong_24 rfl ?_
      refine mG.aload_n 0 dX9_isLong_25 rfl ?_
      refine mG.get (v := .int (S0.1 t 8)) dX9_isLong_26 mfX9_105 ht rfl ?_
      obtain ⟨q1, hq1, h⟩ := bdp h
      refine mG.callV0 (as := [.int (S0.1 t 8)]) (st := []) (S2 := S0) (r := some (.int (q1))) dX9_isLong_29 mvX9_byteAt wk20_18 rfl ht rfl (by decide) (Nat.le_of_ble_eq_true rfl) (c_X9_byteAt ht hq1) ?_
      refine mG.aload_n 0 dX9_isLong_32 rfl ?_
      refine mG.aload_n 0 dX9_isLong_33 rfl ?_
      refine mG.get (v := .int (S0.1 t 8)) dX9_isLong_34 mfX9_105 ht rfl ?_
      refine mG.iconst (v := 1) dX9_isLong_37 rfl ?_
      refine mG.iadd dX9_isLong_38 ?_
      obtain ⟨q2, hq2, h⟩ := bdp h
      refine mG.callV0 (as := [.int ((S0.1 t 8) + (1 : Int32))]) (st := [.int (q1)]) (S2 := S0) (r := some (.int (q2))) dX9_isLong_39 mvX9_byteAt wk20_18 rfl ht rfl (by decide) (Nat.le_of_ble_eq_true rfl) (c_X9_byteAt ht hq2) ?_
      refine mG.aload_n 0 dX9_isLong_42 rfl ?_
      refine mG.aload_n 0 dX9_isLong_43 rfl ?_
      refine mG.get (v := .int (S0.1 t 8)) dX9_isLong_44 mfX9_105 ht rfl ?_
      refine mG.iconst (v := 2) dX9_isLong_47 rfl ?_
      refine mG.iadd dX9_isLong_48 ?_
      obtain ⟨q3, hq3, h⟩ := bdp h
      refine mG.callV0 (as := [.int ((S0.1 t 8) + (2 : Int32))]) (st := [.int (q2), .int (q1)]) (S2 := S0) (r := some (.int (q3))) dX9_isLong_49 mvX9_byteAt wk20_18 rfl ht rfl (by decide) (Nat.le_of_ble_eq_true rfl) (c_X9_byteAt ht hq3) ?_
      refine mG.aload_n 0 dX9_isLong_52 rfl ?_
      refine mG.aload_n 0 dX9_isLong_53 rfl ?_
      refine mG.get (v := .int (S0.1 t 8)) dX9_isLong_54 mfX9_105 ht rfl ?_
      refine mG.iconst (v := 3) dX9_isLong_57 rfl ?_
      refine mG.iadd dX9_isLong_58 ?_
      obtain ⟨q4, hq4, h⟩ := bdp h
      refine mG.callV0 (as := [.int ((S0.1 t 8) + (3 : Int32))]) (st := [.int (q3), .int (q2), .int (q1)]) (S2 := S0) (r := some (.int (q4))) dX9_isLong_59 mvX9_byteAt wk20_18 rfl ht rfl (by decide) (Nat.le_of_ble_eq_true rfl) (c_X9_byteAt ht hq4) ?_
      refine mG.callS0 (as := [.int (q1), .int (q2), .int (q3), .int (q4)]) (st := []) (S2 := S0) (r := some (.long (f_X9_w4 S0 q1 q2 q3 q4))) dX9_isLong_62 mbX9_w4 wk21_20 wk21_19 rfl rfl (by decide) (Nat.le_of_ble_eq_true rfl) (c_X9_w4  rfl) ?_
      refine mG.lload_n 1 dX9_isLong_65 rfl ?_
      refine mG.lcmp dX9_isLong_66 ?_
      refine mG.ifl_ne 113 dX9_isLong_67 (by decide) (fun c9 => ?_) (fun c9 => ?_)
      · replace h := itn c9 h
        refine mG.iconst (v := 0) dX9_isLong_113 rfl ?_
        obtain rfl := Option.some.inj h
        exact mG.zret (b := false) dX9_isLong_114 rfl rfl ⟨rfl, rfl, rfl⟩
      · replace h := itp c9 h
        refine mG.aload_n 0 dX9_isLong_70 rfl ?_
        refine mG.aload_n 0 dX9_isLong_71 rfl ?_
        refine mG.get (v := .int (S0.1 t 8)) dX9_isLong_72 mfX9_105 ht rfl ?_
        refine mG.iconst (v := 4) dX9_isLong_75 rfl ?_
        refine mG.iadd dX9_isLong_76 ?_
        obtain ⟨q5, hq5, h⟩ := bdp h
        refine mG.callV0 (as := [.int ((S0.1 t 8) + (4 : Int32))]) (st := []) (S2 := S0) (r := some (.int (q5))) dX9_isLong_77 mvX9_byteAt wk20_18 rfl ht rfl (by decide) (Nat.le_of_ble_eq_true rfl) (c_X9_byteAt ht hq5) ?_
        refine mG.aload_n 0 dX9_isLong_80 rfl ?_
        refine mG.aload_n 0 dX9_isLong_81 rfl ?_
        refine mG.get (v := .int (S0.1 t 8)) dX9_isLong_82 mfX9_105 ht rfl ?_
        refine mG.iconst (v := 5) dX9_isLong_85 rfl ?_
        refine mG.iadd dX9_isLong_86 ?_
        obtain ⟨q6, hq6, h⟩ := bdp h
        refine mG.callV0 (as := [.int ((S0.1 t 8) + (5 : Int32))]) (st := [.int (q5)]) (S2 := S0) (r := some (.int (q6))) dX9_isLong_87 mvX9_byteAt wk20_18 rfl ht rfl (by decide) (Nat.le_of_ble_eq_true rfl) (c_X9_byteAt ht hq6) ?_
        refine mG.aload_n 0 dX9_isLong_90 rfl ?_
        refine mG.aload_n 0 dX9_isLong_91 rfl ?_
        refine mG.get (v := .int (S0.1 t 8)) dX9_isLong_92 mfX9_105 ht rfl ?_
        refine mG.bipush (v := 6) dX9_isLong_95 (by decide) ?_
        refine mG.iadd dX9_isLong_97 ?_
        obtain ⟨q7, hq7, h⟩ := bdp h
        refine mG.callV0 (as := [.int ((S0.1 t 8) + (6 : Int32))]) (st := [.int (q6), .int (q5)]) (S2 := S0) (r := some (.int (q7))) dX9_isLong_98 mvX9_byteAt wk20_18 rfl ht rfl (by decide) (Nat.le_of_ble_eq_true rfl) (c_X9_byteAt ht hq7) ?_
        refine mG.callS0 (as := [.int (q5), .int (q6), .int (q7)]) (st := []) (S2 := S0) (r := some (.long (f_X9_w3 S0 q5 q6 q7))) dX9_isLong_101 mbX9_w3 wk21_23 wk21_22 rfl rfl (by decide) (Nat.le_of_ble_eq_true rfl) (c_X9_w3  rfl) ?_
        refine mG.lload_n 2 dX9_isLong_104 rfl ?_
        refine mG.lcmp dX9_isLong_105 ?_
        refine mG.ifl_ne 113 dX9_isLong_106 (by decide) (fun c8 => ?_) (fun c8 => ?_)
        · replace h := itn c8 h
          refine mG.iconst (v := 0) dX9_isLong_113 rfl ?_
          obtain rfl := Option.some.inj h
          exact mG.zret (b := false) dX9_isLong_114 rfl rfl ⟨rfl, rfl, rfl⟩
        · replace h := itp c8 h
          refine mG.iconst (v := 1) dX9_isLong_109 rfl ?_
          refine mG.goto 114 dX9_isLong_110 (by decide) ?_
          obtain rfl := Option.some.inj h
          exact mG.zret (b := true) dX9_isLong_114 rfl rfl ⟨rfl, rfl, rfl⟩
    · replace h := itn c10 h
      refine mG.iconst (v := 0) dX9_isLong_22 rfl ?_
      obtain rfl := Option.some.inj h
      exact mG.zret (b := false) dX9_isLong_23 rfl rfl ⟨rfl, rfl, rfl⟩
theorem dX9_isFriends_0 : decode cX9_isFriends 0 = .ok (.aload_n 0, 1) := by decide +kernel
theorem dX9_isFriends_1 : decode cX9_isFriends 1 = .ok (.bipush 102, 2) := by decide +kernel
theorem dX9_isFriends_3 : decode cX9_isFriends 3 = .ok (.bipush 114, 2) := by decide +kernel
theorem dX9_isFriends_5 : decode cX9_isFriends 5 = .ok (.bipush 105, 2) := by decide +kernel
theorem dX9_isFriends_7 : decode cX9_isFriends 7 = .ok (.bipush 101, 2) := by decide +kernel
theorem dX9_isFriends_9 : decode cX9_isFriends 9 = .ok (.invokestatic 138, 3) := by decide +kernel
theorem dX9_isFriends_12 : decode cX9_isFriends 12 = .ok (.bipush 110, 2) := by decide +kernel
theorem dX9_isFriends_14 : decode cX9_isFriends 14 = .ok (.bipush 100, 2) := by decide +kernel
theorem dX9_isFriends_16 : decode cX9_isFriends 16 = .ok (.bipush 115, 2) := by decide +kernel
theorem dX9_isFriends_18 : decode cX9_isFriends 18 = .ok (.invokestatic 134, 3) := by decide +kernel
theorem dX9_isFriends_21 : decode cX9_isFriends 21 = .ok (.invokevirtual 152, 3) := by decide +kernel
theorem dX9_isFriends_24 : decode cX9_isFriends 24 = .ok (.ireturn, 1) := by decide +kernel
def f_X9_isFriends (F : Nat) (S0 : mS) (t : Nat) : Option Bool := bd (f_X9_isLong F S0 t (f_X9_w4 S0 (102 : Int32) (114 : Int32) (105 : Int32) (101 : Int32)) (f_X9_w3 S0 (110 : Int32) (100 : Int32) (115 : Int32))) fun q1 => some q1
set_option maxHeartbeats 4000000 in
set_option maxRecDepth 100000 in
theorem c_X9_isFriends {F : Nat} {S0 : mS} {t : Nat} {R : Bool} (ht : kd0 t = 9) (h : f_X9_isFriends F S0 t = some R) : mCt μX9_isFriends 5 0 0 E0 S0 [.ref (t)] (mQe S0 (some (.int (bI R)))) := by
  unfold f_X9_isFriends at h
  refine mCt.of (by decide) (Nat.le_of_ble_eq_true rfl) ?_
  intro x
  refine mG.aload_n 0 dX9_isFriends_0 rfl ?_
  refine mG.bipush (v := 102) dX9_isFriends_1 (by decide) ?_
  refine mG.bipush (v := 114) dX9_isFriends_3 (by decide) ?_
  refine mG.bipush (v := 105) dX9_isFriends_5 (by decide) ?_
  refine mG.bipush (v := 101) dX9_isFriends_7 (by decide) ?_
  refine mG.callS0 (as := [.int 102, .int 114, .int 105, .int 101]) (st := [.ref (t)]) (S2 := S0) (r := some (.long (f_X9_w4 S0 (102 : Int32) (114 : Int32) (105 : Int32) (101 : Int32)))) dX9_isFriends_9 mbX9_w4 wk21_20 wk21_19 rfl rfl (by decide) (Nat.le_of_ble_eq_true rfl) (c_X9_w4  rfl) ?_
  refine mG.bipush (v := 110) dX9_isFriends_12 (by decide) ?_
  refine mG.bipush (v := 100) dX9_isFriends_14 (by decide) ?_
  refine mG.bipush (v := 115) dX9_isFriends_16 (by decide) ?_
  refine mG.callS0 (as := [.int 110, .int 100, .int 115]) (st := [.long (f_X9_w4 S0 (102 : Int32) (114 : Int32) (105 : Int32) (101 : Int32)), .ref (t)]) (S2 := S0) (r := some (.long (f_X9_w3 S0 (110 : Int32) (100 : Int32) (115 : Int32)))) dX9_isFriends_18 mbX9_w3 wk21_23 wk21_22 rfl rfl (by decide) (Nat.le_of_ble_eq_true rfl) (c_X9_w3  rfl) ?_
  obtain ⟨q1, hq1, h⟩ := bdp h
  refine mG.callV0 (as := [.long (f_X9_w4 S0 (102 : Int32) (114 : Int32) (105 : Int32) (101 : Int32)), .long (f_X9_w3 S0 (110 : Int32) (100 : Int32) (115 : Int32))]) (st := []) (S2 := S0) (r := some (.int (bI (q1)))) dX9_isFriends_21 mvX9_isLong wk23_10 rfl ht rfl (by decide) (Nat.le_of_ble_eq_true rfl) (c_X9_isLong ht hq1) ?_
  obtain rfl := Option.some.inj h
  exact mG.zret (b := q1) dX9_isFriends_24 rfl rfl ⟨rfl, rfl, rfl⟩
theorem dX9_nameOf_0 : decode cX9_nameOf 0 = .ok (.aload_n 0, 1) := by decide +kernel
theorem dX9_nameOf_1 : decode cX9_nameOf 1 = .ok (.getfield 108, 3) := by decide +kernel
theorem dX9_nameOf_4 : decode cX9_nameOf 4 = .ok (.iconst 2, 1) := by decide +kernel
theorem dX9_nameOf_5 : decode cX9_nameOf 5 = .ok (.if_icmp .eq 5, 3) := by decide +kernel
theorem dX9_nameOf_8 : decode cX9_nameOf 8 = .ok (.iconst (-1), 1) := by decide +kernel
theorem dX9_nameOf_9 : decode cX9_nameOf 9 = .ok (.ireturn, 1) := by decide +kernel
theorem dX9_nameOf_10 : decode cX9_nameOf 10 = .ok (.aload_n 0, 1) := by decide +kernel
theorem dX9_nameOf_11 : decode cX9_nameOf 11 = .ok (.getfield 121, 3) := by decide +kernel
theorem dX9_nameOf_14 : decode cX9_nameOf 14 = .ok (.bipush 100, 2) := by decide +kernel
theorem dX9_nameOf_16 : decode cX9_nameOf 16 = .ok (.bipush 97, 2) := by decide +kernel
theorem dX9_nameOf_18 : decode cX9_nameOf 18 = .ok (.bipush 121, 2) := by decide +kernel
theorem dX9_nameOf_20 : decode cX9_nameOf 20 = .ok (.invokestatic 134, 3) := by decide +kernel
theorem dX9_nameOf_23 : decode cX9_nameOf 23 = .ok (.lcmp, 1) := by decide +kernel
theorem dX9_nameOf_24 : decode cX9_nameOf 24 = .ok (.ifCond .ne 5, 3) := by decide +kernel
theorem dX9_nameOf_27 : decode cX9_nameOf 27 = .ok (.iconst 0, 1) := by decide +kernel
theorem dX9_nameOf_28 : decode cX9_nameOf 28 = .ok (.ireturn, 1) := by decide +kernel
theorem dX9_nameOf_29 : decode cX9_nameOf 29 = .ok (.aload_n 0, 1) := by decide +kernel
theorem dX9_nameOf_30 : decode cX9_nameOf 30 = .ok (.getfield 121, 3) := by decide +kernel
theorem dX9_nameOf_33 : decode cX9_nameOf 33 = .ok (.bipush 100, 2) := by decide +kernel
theorem dX9_nameOf_35 : decode cX9_nameOf 35 = .ok (.bipush 97, 2) := by decide +kernel
theorem dX9_nameOf_37 : decode cX9_nameOf 37 = .ok (.bipush 116, 2) := by decide +kernel
theorem dX9_nameOf_39 : decode cX9_nameOf 39 = .ok (.bipush 101, 2) := by decide +kernel
theorem dX9_nameOf_41 : decode cX9_nameOf 41 = .ok (.invokestatic 138, 3) := by decide +kernel
theorem dX9_nameOf_44 : decode cX9_nameOf 44 = .ok (.lcmp, 1) := by decide +kernel
theorem dX9_nameOf_45 : decode cX9_nameOf 45 = .ok (.ifCond .ne 5, 3) := by decide +kernel
theorem dX9_nameOf_48 : decode cX9_nameOf 48 = .ok (.iconst 1, 1) := by decide +kernel
theorem dX9_nameOf_49 : decode cX9_nameOf 49 = .ok (.ireturn, 1) := by decide +kernel
theorem dX9_nameOf_50 : decode cX9_nameOf 50 = .ok (.aload_n 0, 1) := by decide +kernel
theorem dX9_nameOf_51 : decode cX9_nameOf 51 = .ok (.getfield 121, 3) := by decide +kernel
theorem dX9_nameOf_54 : decode cX9_nameOf 54 = .ok (.bipush 104, 2) := by decide +kernel
theorem dX9_nameOf_56 : decode cX9_nameOf 56 = .ok (.bipush 111, 2) := by decide +kernel
theorem dX9_nameOf_58 : decode cX9_nameOf 58 = .ok (.bipush 117, 2) := by decide +kernel
theorem dX9_nameOf_60 : decode cX9_nameOf 60 = .ok (.bipush 115, 2) := by decide +kernel
theorem dX9_nameOf_62 : decode cX9_nameOf 62 = .ok (.bipush 101, 2) := by decide +kernel
theorem dX9_nameOf_64 : decode cX9_nameOf 64 = .ok (.invokestatic 142, 3) := by decide +kernel
theorem dX9_nameOf_67 : decode cX9_nameOf 67 = .ok (.lcmp, 1) := by decide +kernel
theorem dX9_nameOf_68 : decode cX9_nameOf 68 = .ok (.ifCond .ne 5, 3) := by decide +kernel
theorem dX9_nameOf_71 : decode cX9_nameOf 71 = .ok (.iconst 2, 1) := by decide +kernel
theorem dX9_nameOf_72 : decode cX9_nameOf 72 = .ok (.ireturn, 1) := by decide +kernel
theorem dX9_nameOf_73 : decode cX9_nameOf 73 = .ok (.aload_n 0, 1) := by decide +kernel
theorem dX9_nameOf_74 : decode cX9_nameOf 74 = .ok (.getfield 121, 3) := by decide +kernel
theorem dX9_nameOf_77 : decode cX9_nameOf 77 = .ok (.bipush 112, 2) := by decide +kernel
theorem dX9_nameOf_79 : decode cX9_nameOf 79 = .ok (.bipush 117, 2) := by decide +kernel
theorem dX9_nameOf_81 : decode cX9_nameOf 81 = .ok (.bipush 114, 2) := by decide +kernel
theorem dX9_nameOf_83 : decode cX9_nameOf 83 = .ok (.bipush 115, 2) := by decide +kernel
theorem dX9_nameOf_85 : decode cX9_nameOf 85 = .ok (.bipush 101, 2) := by decide +kernel
theorem dX9_nameOf_87 : decode cX9_nameOf 87 = .ok (.invokestatic 142, 3) := by decide +kernel
theorem dX9_nameOf_90 : decode cX9_nameOf 90 = .ok (.lcmp, 1) := by decide +kernel
theorem dX9_nameOf_91 : decode cX9_nameOf 91 = .ok (.ifCond .ne 5, 3) := by decide +kernel
theorem dX9_nameOf_94 : decode cX9_nameOf 94 = .ok (.iconst 3, 1) := by decide +kernel
theorem dX9_nameOf_95 : decode cX9_nameOf 95 = .ok (.ireturn, 1) := by decide +kernel
theorem dX9_nameOf_96 : decode cX9_nameOf 96 = .ok (.aload_n 0, 1) := by decide +kernel
theorem dX9_nameOf_97 : decode cX9_nameOf 97 = .ok (.invokevirtual 156, 3) := by decide +kernel
theorem dX9_nameOf_100 : decode cX9_nameOf 100 = .ok (.ifCond .eq 5, 3) := by decide +kernel
theorem dX9_nameOf_103 : decode cX9_nameOf 103 = .ok (.iconst 4, 1) := by decide +kernel
theorem dX9_nameOf_104 : decode cX9_nameOf 104 = .ok (.ireturn, 1) := by decide +kernel
theorem dX9_nameOf_105 : decode cX9_nameOf 105 = .ok (.aload_n 0, 1) := by decide +kernel
theorem dX9_nameOf_106 : decode cX9_nameOf 106 = .ok (.getfield 121, 3) := by decide +kernel
theorem dX9_nameOf_109 : decode cX9_nameOf 109 = .ok (.bipush 100, 2) := by decide +kernel
theorem dX9_nameOf_111 : decode cX9_nameOf 111 = .ok (.bipush 97, 2) := by decide +kernel
theorem dX9_nameOf_113 : decode cX9_nameOf 113 = .ok (.bipush 121, 2) := by decide +kernel
theorem dX9_nameOf_115 : decode cX9_nameOf 115 = .ok (.bipush 115, 2) := by decide +kernel
theorem dX9_nameOf_117 : decode cX9_nameOf 117 = .ok (.invokestatic 138, 3) := by decide +kernel
theorem dX9_nameOf_120 : decode cX9_nameOf 120 = .ok (.lcmp, 1) := by decide +kernel
theorem dX9_nameOf_121 : decode cX9_nameOf 121 = .ok (.ifCond .ne 5, 3) := by decide +kernel
theorem dX9_nameOf_124 : decode cX9_nameOf 124 = .ok (.iconst 5, 1) := by decide +kernel
theorem dX9_nameOf_125 : decode cX9_nameOf 125 = .ok (.ireturn, 1) := by decide +kernel
theorem dX9_nameOf_126 : decode cX9_nameOf 126 = .ok (.aload_n 0, 1) := by decide +kernel
theorem dX9_nameOf_127 : decode cX9_nameOf 127 = .ok (.getfield 121, 3) := by decide +kernel
theorem dX9_nameOf_130 : decode cX9_nameOf 130 = .ok (.bipush 111, 2) := by decide +kernel
theorem dX9_nameOf_132 : decode cX9_nameOf 132 = .ok (.bipush 112, 2) := by decide +kernel
theorem dX9_nameOf_134 : decode cX9_nameOf 134 = .ok (.bipush 101, 2) := by decide +kernel
theorem dX9_nameOf_136 : decode cX9_nameOf 136 = .ok (.bipush 110, 2) := by decide +kernel
theorem dX9_nameOf_138 : decode cX9_nameOf 138 = .ok (.invokestatic 138, 3) := by decide +kernel
theorem dX9_nameOf_141 : decode cX9_nameOf 141 = .ok (.lcmp, 1) := by decide +kernel
theorem dX9_nameOf_142 : decode cX9_nameOf 142 = .ok (.ifCond .ne 8, 3) := by decide +kernel
theorem dX9_nameOf_145 : decode cX9_nameOf 145 = .ok (.bipush 6, 2) := by decide +kernel
theorem dX9_nameOf_147 : decode cX9_nameOf 147 = .ok (.goto 32, 3) := by decide +kernel
theorem dX9_nameOf_150 : decode cX9_nameOf 150 = .ok (.aload_n 0, 1) := by decide +kernel
theorem dX9_nameOf_151 : decode cX9_nameOf 151 = .ok (.getfield 121, 3) := by decide +kernel
theorem dX9_nameOf_154 : decode cX9_nameOf 154 = .ok (.bipush 98, 2) := by decide +kernel
theorem dX9_nameOf_156 : decode cX9_nameOf 156 = .ok (.bipush 101, 2) := by decide +kernel
theorem dX9_nameOf_158 : decode cX9_nameOf 158 = .ok (.bipush 115, 2) := by decide +kernel
theorem dX9_nameOf_160 : decode cX9_nameOf 160 = .ok (.bipush 105, 2) := by decide +kernel
theorem dX9_nameOf_162 : decode cX9_nameOf 162 = .ok (.bipush 100, 2) := by decide +kernel
theorem dX9_nameOf_164 : decode cX9_nameOf 164 = .ok (.bipush 101, 2) := by decide +kernel
theorem dX9_nameOf_166 : decode cX9_nameOf 166 = .ok (.invokestatic 160, 3) := by decide +kernel
theorem dX9_nameOf_169 : decode cX9_nameOf 169 = .ok (.lcmp, 1) := by decide +kernel
theorem dX9_nameOf_170 : decode cX9_nameOf 170 = .ok (.ifCond .ne 8, 3) := by decide +kernel
theorem dX9_nameOf_173 : decode cX9_nameOf 173 = .ok (.bipush 7, 2) := by decide +kernel
theorem dX9_nameOf_175 : decode cX9_nameOf 175 = .ok (.goto 4, 3) := by decide +kernel
theorem dX9_nameOf_178 : decode cX9_nameOf 178 = .ok (.iconst (-1), 1) := by decide +kernel
theorem dX9_nameOf_179 : decode cX9_nameOf 179 = .ok (.ireturn, 1) := by decide +kernel
def f_X9_nameOf (F : Nat) (S0 : mS) (t : Nat) : Option Int32 := if (S0.1 t 9) = (2 : Int32) then (if (S0.2 t 11) = (f_X9_w3 S0 (100 : Int32) (97 : Int32) (121 : Int32)) then (some (0 : Int32)) else (if (S0.2 t 11) = (f_X9_w4 S0 (100 : Int32) (97 : Int32) (116 : Int32) (101 : Int32)) then (some (1 : Int32)) else (if (S0.2 t 11) = (f_X9_w5 S0 (104 : Int32) (111 : Int32) (117 : Int32) (115 : Int32) (101 : Int32)) then (some (2 : Int32)) else (if (S0.2 t 11) = (f_X9_w5 S0 (112 : Int32) (117 : Int32) (114 : Int32) (115 : Int32) (101 : Int32)) then (some (3 : Int32)) else (bd (f_X9_isFriends F S0 t) fun q1 => if q1 = true then (some (4 : Int32)) else (if (S0.2 t 11) = (f_X9_w4 S0 (100 : Int32) (97 : Int32) (121 : Int32) (115 : Int32)) then (some (5 : Int32)) else (if (S0.2 t 11) = (f_X9_w4 S0 (111 : Int32) (112 : Int32) (101 : Int32) (110 : Int32)) then (some (6 : Int32)) else (if (S0.2 t 11) = (f_X9_w6 S0 (98 : Int32) (101 : Int32) (115 : Int32) (105 : Int32) (100 : Int32) (101 : Int32)) then (some (7 : Int32)) else (some (-1 : Int32)))))))))) else (some (-1 : Int32))
set_option maxHeartbeats 4000000 in
set_option maxRecDepth 100000 in
theorem c_X9_nameOf {F : Nat} {S0 : mS} {t : Nat} {R : Int32} (ht : kd0 t = 9) (h : f_X9_nameOf F S0 t = some R) : mCt μX9_nameOf 6 0 0 E0 S0 [.ref (t)] (mQe S0 (some (.int R))) := by
  unfold f_X9_nameOf at h
  refine mCt.of (by decide) (Nat.le_of_ble_eq_true rfl) ?_
  intro x
  refine mG.aload_n 0 dX9_nameOf_0 rfl ?_
  refine mG.get (v := .int (S0.1 t 9)) dX9_nameOf_1 mfX9_108 ht rfl ?_
  refine mG.iconst (v := 2) dX9_nameOf_4 rfl ?_
  refine mG.icmp_eq 10 dX9_nameOf_5 (by decide) (fun c10 => ?_) (fun c10 => ?_)
  · replace h := itp c10 h
    refine mG.aload_n 0 dX9_nameOf_10 rfl ?_
    refine mG.get (v := .long (S0.2 t 11)) dX9_nameOf_11 mfX9_121 ht rfl ?_
    refine mG.bipush (v := 100) dX9_nameOf_14 (by decide) ?_
    refine mG.bipush (v := 97) dX9_nameOf_16 (by decide) ?_
    refine mG.bipush (v := 121) dX9_nameOf_18 (by decide) ?_
    refine mG.callS0 (as := [.int 100, .int 97, .int 121]) (st := [.long (S0.2 t 11)]) (S2 := S0) (r := some (.long (f_X9_w3 S0 (100 : Int32) (97 : Int32) (121 : Int32)))) dX9_nameOf_20 mbX9_w3 wk21_23 wk21_22 rfl rfl (by decide) (Nat.le_of_ble_eq_true rfl) (c_X9_w3  rfl) ?_
    refine mG.lcmp dX9_nameOf_23 ?_
    refine mG.ifl_ne 29 dX9_nameOf_24 (by decide) (fun c9 => ?_) (fun c9 => ?_)
    · replace h := itn c9 h
      refine mG.aload_n 0 dX9_nameOf_29 rfl ?_
      refine mG.get (v := .long (S0.2 t 11)) dX9_nameOf_30 mfX9_121 ht rfl ?_
      refine mG.bipush (v := 100) dX9_nameOf_33 (by decide) ?_
      refine mG.bipush (v := 97) dX9_nameOf_35 (by decide) ?_
      refine mG.bipush (v := 116) dX9_nameOf_37 (by decide) ?_
      refine mG.bipush (v := 101) dX9_nameOf_39 (by decide) ?_
      refine mG.callS0 (as := [.int 100, .int 97, .int 116, .int 101]) (st := [.long (S0.2 t 11)]) (S2 := S0) (r := some (.long (f_X9_w4 S0 (100 : Int32) (97 : Int32) (116 : Int32) (101 : Int32)))) dX9_nameOf_41 mbX9_w4 wk21_20 wk21_19 rfl rfl (by decide) (Nat.le_of_ble_eq_true rfl) (c_X9_w4  rfl) ?_
      refine mG.lcmp dX9_nameOf_44 ?_
      refine mG.ifl_ne 50 dX9_nameOf_45 (by decide) (fun c8 => ?_) (fun c8 => ?_)
      · replace h := itn c8 h
        refine mG.aload_n 0 dX9_nameOf_50 rfl ?_
        refine mG.get (v := .long (S0.2 t 11)) dX9_nameOf_51 mfX9_121 ht rfl ?_
        refine mG.bipush (v := 104) dX9_nameOf_54 (by decide) ?_
        refine mG.bipush (v := 111) dX9_nameOf_56 (by decide) ?_
        refine mG.bipush (v := 117) dX9_nameOf_58 (by decide) ?_
        refine mG.bipush (v := 115) dX9_nameOf_60 (by decide) ?_
        refine mG.bipush (v := 101) dX9_nameOf_62 (by decide) ?_
        refine mG.callS0 (as := [.int 104, .int 111, .int 117, .int 115, .int 101]) (st := [.long (S0.2 t 11)]) (S2 := S0) (r := some (.long (f_X9_w5 S0 (104 : Int32) (111 : Int32) (117 : Int32) (115 : Int32) (101 : Int32)))) dX9_nameOf_64 mbX9_w5 wk21_17 wk21_16 rfl rfl (by decide) (Nat.le_of_ble_eq_true rfl) (c_X9_w5  rfl) ?_
        refine mG.lcmp dX9_nameOf_67 ?_
        refine mG.ifl_ne 73 dX9_nameOf_68 (by decide) (fun c7 => ?_) (fun c7 => ?_)
        · replace h := itn c7 h
          refine mG.aload_n 0 dX9_nameOf_73 rfl ?_
          refine mG.get (v := .long (S0.2 t 11)) dX9_nameOf_74 mfX9_121 ht rfl ?_
          refine mG.bipush (v := 112) dX9_nameOf_77 (by decide) ?_
          refine mG.bipush (v := 117) dX9_nameOf_79 (by decide) ?_
          refine mG.bipush (v := 114) dX9_nameOf_81 (by decide) ?_
          refine mG.bipush (v := 115) dX9_nameOf_83 (by decide) ?_
          refine mG.bipush (v := 101) dX9_nameOf_85 (by decide) ?_
          refine mG.callS0 (as := [.int 112, .int 117, .int 114, .int 115, .int 101]) (st := [.long (S0.2 t 11)]) (S2 := S0) (r := some (.long (f_X9_w5 S0 (112 : Int32) (117 : Int32) (114 : Int32) (115 : Int32) (101 : Int32)))) dX9_nameOf_87 mbX9_w5 wk21_17 wk21_16 rfl rfl (by decide) (Nat.le_of_ble_eq_true rfl) (c_X9_w5  rfl) ?_
          refine mG.lcmp dX9_nameOf_90 ?_
          refine mG.ifl_ne 96 dX9_nameOf_91 (by decide) (fun c6 => ?_) (fun c6 => ?_)
          · replace h := itn c6 h
            refine mG.aload_n 0 dX9_nameOf_96 rfl ?_
            obtain ⟨q1, hq1, h⟩ := bdp h
            refine mG.callV0 (as := []) (st := []) (S2 := S0) (r := some (.int (bI (q1)))) dX9_nameOf_97 mvX9_isFriends wk23_6 rfl ht rfl (by decide) (Nat.le_of_ble_eq_true rfl) (c_X9_isFriends ht hq1) ?_
            refine mG.ifz_eq (b := q1) 105 dX9_nameOf_100 (by decide) (fun c5 => ?_) (fun c5 => ?_)
            · replace h := itn c5 h
              refine mG.aload_n 0 dX9_nameOf_105 rfl ?_
              refine mG.get (v := .long (S0.2 t 11)) dX9_nameOf_106 mfX9_121 ht rfl ?_
              refine mG.bipush (v := 100) dX9_nameOf_109 (by decide) ?_
              refine mG.bipush (v := 97) dX9_nameOf_111 (by decide) ?_
              refine mG.bipush (v := 121) dX9_nameOf_113 (by decide) ?_
              refine mG.bipush (v := 115) dX9_nameOf_115 (by decide) ?_
              refine mG.callS0 (as := [.int 100, .int 97, .int 121, .int 115]) (st := [.long (S0.2 t 11)]) (S2 := S0) (r := some (.long (f_X9_w4 S0 (100 : Int32) (97 : Int32) (121 : Int32) (115 : Int32)))) dX9_nameOf_117 mbX9_w4 wk21_20 wk21_19 rfl rfl (by decide) (Nat.le_of_ble_eq_true rfl) (c_X9_w4  rfl) ?_
              refine mG.lcmp dX9_nameOf_120 ?_
              refine mG.ifl_ne 126 dX9_nameOf_121 (by decide) (fun c4 => ?_) (fun c4 => ?_)
              · replace h := itn c4 h
                refine mG.aload_n 0 dX9_nameOf_126 rfl ?_
                refine mG.get (v := .long (S0.2 t 11)) dX9_nameOf_127 mfX9_121 ht rfl ?_
                refine mG.bipush (v := 111) dX9_nameOf_130 (by decide) ?_
                refine mG.bipush (v := 112) dX9_nameOf_132 (by decide) ?_
                refine mG.bipush (v := 101) dX9_nameOf_134 (by decide) ?_
                refine mG.bipush (v := 110) dX9_nameOf_136 (by decide) ?_
                refine mG.callS0 (as := [.int 111, .int 112, .int 101, .int 110]) (st := [.long (S0.2 t 11)]) (S2 := S0) (r := some (.long (f_X9_w4 S0 (111 : Int32) (112 : Int32) (101 : Int32) (110 : Int32)))) dX9_nameOf_138 mbX9_w4 wk21_20 wk21_19 rfl rfl (by decide) (Nat.le_of_ble_eq_true rfl) (c_X9_w4  rfl) ?_
                refine mG.lcmp dX9_nameOf_141 ?_
                refine mG.ifl_ne 150 dX9_nameOf_142 (by decide) (fun c3 => ?_) (fun c3 => ?_)
                · replace h := itn c3 h
                  refine mG.aload_n 0 dX9_nameOf_150 rfl ?_
                  refine mG.get (v := .long (S0.2 t 11)) dX9_nameOf_151 mfX9_121 ht rfl ?_
                  refine mG.bipush (v := 98) dX9_nameOf_154 (by decide) ?_
                  refine mG.bipush (v := 101) dX9_nameOf_156 (by decide) ?_
                  refine mG.bipush (v := 115) dX9_nameOf_158 (by decide) ?_
                  refine mG.bipush (v := 105) dX9_nameOf_160 (by decide) ?_
                  refine mG.bipush (v := 100) dX9_nameOf_162 (by decide) ?_
                  refine mG.bipush (v := 101) dX9_nameOf_164 (by decide) ?_
                  refine mG.callS0 (as := [.int 98, .int 101, .int 115, .int 105, .int 100, .int 101]) (st := [.long (S0.2 t 11)]) (S2 := S0) (r := some (.long (f_X9_w6 S0 (98 : Int32) (101 : Int32) (115 : Int32) (105 : Int32) (100 : Int32) (101 : Int32)))) dX9_nameOf_166 mbX9_w6 wk22_9 wk22_8 rfl rfl (by decide) (Nat.le_of_ble_eq_true rfl) (c_X9_w6  rfl) ?_
                  refine mG.lcmp dX9_nameOf_169 ?_
                  refine mG.ifl_ne 178 dX9_nameOf_170 (by decide) (fun c2 => ?_) (fun c2 => ?_)
                  · replace h := itn c2 h
                    refine mG.iconst (v := (-1)) dX9_nameOf_178 rfl ?_
                    obtain rfl := Option.some.inj h
                    exact mG.iret dX9_nameOf_179 rfl ⟨rfl, rfl, rfl⟩
                  · replace h := itp c2 h
                    refine mG.bipush (v := 7) dX9_nameOf_173 (by decide) ?_
                    refine mG.goto 179 dX9_nameOf_175 (by decide) ?_
                    obtain rfl := Option.some.inj h
                    exact mG.iret dX9_nameOf_179 rfl ⟨rfl, rfl, rfl⟩
                · replace h := itp c3 h
                  refine mG.bipush (v := 6) dX9_nameOf_145 (by decide) ?_
                  refine mG.goto 179 dX9_nameOf_147 (by decide) ?_
                  obtain rfl := Option.some.inj h
                  exact mG.iret dX9_nameOf_179 rfl ⟨rfl, rfl, rfl⟩
              · replace h := itp c4 h
                refine mG.iconst (v := 5) dX9_nameOf_124 rfl ?_
                obtain rfl := Option.some.inj h
                exact mG.iret dX9_nameOf_125 rfl ⟨rfl, rfl, rfl⟩
            · replace h := itp c5 h
              refine mG.iconst (v := 4) dX9_nameOf_103 rfl ?_
              obtain rfl := Option.some.inj h
              exact mG.iret dX9_nameOf_104 rfl ⟨rfl, rfl, rfl⟩
          · replace h := itp c6 h
            refine mG.iconst (v := 3) dX9_nameOf_94 rfl ?_
            obtain rfl := Option.some.inj h
            exact mG.iret dX9_nameOf_95 rfl ⟨rfl, rfl, rfl⟩
        · replace h := itp c7 h
          refine mG.iconst (v := 2) dX9_nameOf_71 rfl ?_
          obtain rfl := Option.some.inj h
          exact mG.iret dX9_nameOf_72 rfl ⟨rfl, rfl, rfl⟩
      · replace h := itp c8 h
        refine mG.iconst (v := 1) dX9_nameOf_48 rfl ?_
        obtain rfl := Option.some.inj h
        exact mG.iret dX9_nameOf_49 rfl ⟨rfl, rfl, rfl⟩
    · replace h := itp c9 h
      refine mG.iconst (v := 0) dX9_nameOf_27 rfl ?_
      obtain rfl := Option.some.inj h
      exact mG.iret dX9_nameOf_28 rfl ⟨rfl, rfl, rfl⟩
  · replace h := itn c10 h
    refine mG.iconst (v := (-1)) dX9_nameOf_8 rfl ?_
    obtain rfl := Option.some.inj h
    exact mG.iret dX9_nameOf_9 rfl ⟨rfl, rfl, rfl⟩
theorem dX9_rank_0 : decode cX9_rank 0 = .ok (.iload_n 0, 1) := by decide +kernel
theorem dX9_rank_1 : decode cX9_rank 1 = .ok (.bipush 40, 2) := by decide +kernel
theorem dX9_rank_3 : decode cX9_rank 3 = .ok (.if_icmp .lt 7, 3) := by decide +kernel
theorem dX9_rank_6 : decode cX9_rank 6 = .ok (.iconst 0, 1) := by decide +kernel
theorem dX9_rank_7 : decode cX9_rank 7 = .ok (.goto 70, 3) := by decide +kernel
theorem dX9_rank_10 : decode cX9_rank 10 = .ok (.iload_n 0, 1) := by decide +kernel
theorem dX9_rank_11 : decode cX9_rank 11 = .ok (.bipush 22, 2) := by decide +kernel
theorem dX9_rank_13 : decode cX9_rank 13 = .ok (.if_icmp .ne 7, 3) := by decide +kernel
theorem dX9_rank_16 : decode cX9_rank 16 = .ok (.iconst 1, 1) := by decide +kernel
theorem dX9_rank_17 : decode cX9_rank 17 = .ok (.goto 60, 3) := by decide +kernel
theorem dX9_rank_20 : decode cX9_rank 20 = .ok (.iload_n 0, 1) := by decide +kernel
theorem dX9_rank_21 : decode cX9_rank 21 = .ok (.bipush 21, 2) := by decide +kernel
theorem dX9_rank_23 : decode cX9_rank 23 = .ok (.if_icmp .ne 7, 3) := by decide +kernel
theorem dX9_rank_26 : decode cX9_rank 26 = .ok (.iconst 2, 1) := by decide +kernel
theorem dX9_rank_27 : decode cX9_rank 27 = .ok (.goto 50, 3) := by decide +kernel
theorem dX9_rank_30 : decode cX9_rank 30 = .ok (.iload_n 0, 1) := by decide +kernel
theorem dX9_rank_31 : decode cX9_rank 31 = .ok (.bipush 20, 2) := by decide +kernel
theorem dX9_rank_33 : decode cX9_rank 33 = .ok (.if_icmp .ne 7, 3) := by decide +kernel
theorem dX9_rank_36 : decode cX9_rank 36 = .ok (.iconst 3, 1) := by decide +kernel
theorem dX9_rank_37 : decode cX9_rank 37 = .ok (.goto 40, 3) := by decide +kernel
theorem dX9_rank_40 : decode cX9_rank 40 = .ok (.iload_n 0, 1) := by decide +kernel
theorem dX9_rank_41 : decode cX9_rank 41 = .ok (.bipush 10, 2) := by decide +kernel
theorem dX9_rank_43 : decode cX9_rank 43 = .ok (.if_icmp .lt 7, 3) := by decide +kernel
theorem dX9_rank_46 : decode cX9_rank 46 = .ok (.iconst 4, 1) := by decide +kernel
theorem dX9_rank_47 : decode cX9_rank 47 = .ok (.goto 30, 3) := by decide +kernel
theorem dX9_rank_50 : decode cX9_rank 50 = .ok (.iload_n 0, 1) := by decide +kernel
theorem dX9_rank_51 : decode cX9_rank 51 = .ok (.iconst 2, 1) := by decide +kernel
theorem dX9_rank_52 : decode cX9_rank 52 = .ok (.if_icmp .eq 9, 3) := by decide +kernel
theorem dX9_rank_55 : decode cX9_rank 55 = .ok (.iload_n 0, 1) := by decide +kernel
theorem dX9_rank_56 : decode cX9_rank 56 = .ok (.bipush 7, 2) := by decide +kernel
theorem dX9_rank_58 : decode cX9_rank 58 = .ok (.if_icmp .ne 8, 3) := by decide +kernel
theorem dX9_rank_61 : decode cX9_rank 61 = .ok (.bipush 7, 2) := by decide +kernel
theorem dX9_rank_63 : decode cX9_rank 63 = .ok (.goto 14, 3) := by decide +kernel
theorem dX9_rank_66 : decode cX9_rank 66 = .ok (.iload_n 0, 1) := by decide +kernel
theorem dX9_rank_67 : decode cX9_rank 67 = .ok (.iconst 5, 1) := by decide +kernel
theorem dX9_rank_68 : decode cX9_rank 68 = .ok (.if_icmp .lt 8, 3) := by decide +kernel
theorem dX9_rank_71 : decode cX9_rank 71 = .ok (.bipush 6, 2) := by decide +kernel
theorem dX9_rank_73 : decode cX9_rank 73 = .ok (.goto 4, 3) := by decide +kernel
theorem dX9_rank_76 : decode cX9_rank 76 = .ok (.iconst 5, 1) := by decide +kernel
theorem dX9_rank_77 : decode cX9_rank 77 = .ok (.ireturn, 1) := by decide +kernel
def f_X9_rank (S0 : mS) (a1 : Int32) : Int32 := if a1 < (40 : Int32) then (if a1 = (22 : Int32) then ((1 : Int32)) else (if a1 = (21 : Int32) then ((2 : Int32)) else (if a1 = (20 : Int32) then ((3 : Int32)) else (if a1 < (10 : Int32) then (if a1 = (2 : Int32) then ((7 : Int32)) else (if a1 = (7 : Int32) then ((7 : Int32)) else (if a1 < (5 : Int32) then ((5 : Int32)) else ((6 : Int32))))) else ((4 : Int32)))))) else ((0 : Int32))
set_option maxHeartbeats 4000000 in
set_option maxRecDepth 100000 in
theorem c_X9_rank {S0 : mS} {a1 : Int32} {R : Int32}  (h : f_X9_rank S0 a1 = R) : mCt μX9_rank 1 0 0 E0 S0 [.int (a1)] (mQe S0 (some (.int R))) := by
  unfold f_X9_rank at h
  refine mCt.of (by decide) (Nat.le_of_ble_eq_true rfl) ?_
  intro x
  refine mG.iload_n 0 dX9_rank_0 rfl ?_
  refine mG.bipush (v := 40) dX9_rank_1 (by decide) ?_
  refine mG.icmp_lt 10 dX9_rank_3 (by decide) (fun c8 => ?_) (fun c8 => ?_)
  · replace h := itp c8 h
    refine mG.iload_n 0 dX9_rank_10 rfl ?_
    refine mG.bipush (v := 22) dX9_rank_11 (by decide) ?_
    refine mG.icmp_ne 20 dX9_rank_13 (by decide) (fun c7 => ?_) (fun c7 => ?_)
    · replace h := itn c7 h
      refine mG.iload_n 0 dX9_rank_20 rfl ?_
      refine mG.bipush (v := 21) dX9_rank_21 (by decide) ?_
      refine mG.icmp_ne 30 dX9_rank_23 (by decide) (fun c6 => ?_) (fun c6 => ?_)
      · replace h := itn c6 h
        refine mG.iload_n 0 dX9_rank_30 rfl ?_
        refine mG.bipush (v := 20) dX9_rank_31 (by decide) ?_
        refine mG.icmp_ne 40 dX9_rank_33 (by decide) (fun c5 => ?_) (fun c5 => ?_)
        · replace h := itn c5 h
          refine mG.iload_n 0 dX9_rank_40 rfl ?_
          refine mG.bipush (v := 10) dX9_rank_41 (by decide) ?_
          refine mG.icmp_lt 50 dX9_rank_43 (by decide) (fun c4 => ?_) (fun c4 => ?_)
          · replace h := itp c4 h
            refine mG.iload_n 0 dX9_rank_50 rfl ?_
            refine mG.iconst (v := 2) dX9_rank_51 rfl ?_
            refine mG.icmp_eq 61 dX9_rank_52 (by decide) (fun c3 => ?_) (fun c3 => ?_)
            · replace h := itp c3 h
              refine mG.bipush (v := 7) dX9_rank_61 (by decide) ?_
              refine mG.goto 77 dX9_rank_63 (by decide) ?_
              subst h
              exact mG.iret dX9_rank_77 rfl ⟨rfl, rfl, rfl⟩
            · replace h := itn c3 h
              refine mG.iload_n 0 dX9_rank_55 rfl ?_
              refine mG.bipush (v := 7) dX9_rank_56 (by decide) ?_
              refine mG.icmp_ne 66 dX9_rank_58 (by decide) (fun c2 => ?_) (fun c2 => ?_)
              · replace h := itn c2 h
                refine mG.iload_n 0 dX9_rank_66 rfl ?_
                refine mG.iconst (v := 5) dX9_rank_67 rfl ?_
                refine mG.icmp_lt 76 dX9_rank_68 (by decide) (fun c1 => ?_) (fun c1 => ?_)
                · replace h := itp c1 h
                  refine mG.iconst (v := 5) dX9_rank_76 rfl ?_
                  subst h
                  exact mG.iret dX9_rank_77 rfl ⟨rfl, rfl, rfl⟩
                · replace h := itn c1 h
                  refine mG.bipush (v := 6) dX9_rank_71 (by decide) ?_
                  refine mG.goto 77 dX9_rank_73 (by decide) ?_
                  subst h
                  exact mG.iret dX9_rank_77 rfl ⟨rfl, rfl, rfl⟩
              · replace h := itp c2 h
                refine mG.bipush (v := 7) dX9_rank_61 (by decide) ?_
                refine mG.goto 77 dX9_rank_63 (by decide) ?_
                subst h
                exact mG.iret dX9_rank_77 rfl ⟨rfl, rfl, rfl⟩
          · replace h := itn c4 h
            refine mG.iconst (v := 4) dX9_rank_46 rfl ?_
            refine mG.goto 77 dX9_rank_47 (by decide) ?_
            subst h
            exact mG.iret dX9_rank_77 rfl ⟨rfl, rfl, rfl⟩
        · replace h := itp c5 h
          refine mG.iconst (v := 3) dX9_rank_36 rfl ?_
          refine mG.goto 77 dX9_rank_37 (by decide) ?_
          subst h
          exact mG.iret dX9_rank_77 rfl ⟨rfl, rfl, rfl⟩
      · replace h := itp c6 h
        refine mG.iconst (v := 2) dX9_rank_26 rfl ?_
        refine mG.goto 77 dX9_rank_27 (by decide) ?_
        subst h
        exact mG.iret dX9_rank_77 rfl ⟨rfl, rfl, rfl⟩
    · replace h := itp c7 h
      refine mG.iconst (v := 1) dX9_rank_16 rfl ?_
      refine mG.goto 77 dX9_rank_17 (by decide) ?_
      subst h
      exact mG.iret dX9_rank_77 rfl ⟨rfl, rfl, rfl⟩
  · replace h := itn c8 h
    refine mG.iconst (v := 0) dX9_rank_6 rfl ?_
    refine mG.goto 77 dX9_rank_7 (by decide) ?_
    subst h
    exact mG.iret dX9_rank_77 rfl ⟨rfl, rfl, rfl⟩
theorem dX9_settle_0 : decode cX9_settle 0 = .ok (.aload_n 0, 1) := by decide +kernel
theorem dX9_settle_1 : decode cX9_settle 1 = .ok (.getfield 164, 3) := by decide +kernel
theorem dX9_settle_4 : decode cX9_settle 4 = .ok (.ifCond .le 89, 3) := by decide +kernel
theorem dX9_settle_7 : decode cX9_settle 7 = .ok (.aload_n 0, 1) := by decide +kernel
theorem dX9_settle_8 : decode cX9_settle 8 = .ok (.getfield 29, 3) := by decide +kernel
theorem dX9_settle_11 : decode cX9_settle 11 = .ok (.aload_n 0, 1) := by decide +kernel
theorem dX9_settle_12 : decode cX9_settle 12 = .ok (.getfield 164, 3) := by decide +kernel
theorem dX9_settle_15 : decode cX9_settle 15 = .ok (.iconst 1, 1) := by decide +kernel
theorem dX9_settle_16 : decode cX9_settle 16 = .ok (.isub, 1) := by decide +kernel
theorem dX9_settle_17 : decode cX9_settle 17 = .ok (.iaload, 1) := by decide +kernel
theorem dX9_settle_18 : decode cX9_settle 18 = .ok (.invokestatic 167, 3) := by decide +kernel
theorem dX9_settle_21 : decode cX9_settle 21 = .ok (.iload_n 1, 1) := by decide +kernel
theorem dX9_settle_22 : decode cX9_settle 22 = .ok (.if_icmp .lt 71, 3) := by decide +kernel
theorem dX9_settle_25 : decode cX9_settle 25 = .ok (.aload_n 0, 1) := by decide +kernel
theorem dX9_settle_26 : decode cX9_settle 26 = .ok (.dup, 1) := by decide +kernel
theorem dX9_settle_27 : decode cX9_settle 27 = .ok (.getfield 164, 3) := by decide +kernel
theorem dX9_settle_30 : decode cX9_settle 30 = .ok (.iconst 1, 1) := by decide +kernel
theorem dX9_settle_31 : decode cX9_settle 31 = .ok (.isub, 1) := by decide +kernel
theorem dX9_settle_32 : decode cX9_settle 32 = .ok (.putfield 164, 3) := by decide +kernel
theorem dX9_settle_35 : decode cX9_settle 35 = .ok (.aload_n 0, 1) := by decide +kernel
theorem dX9_settle_36 : decode cX9_settle 36 = .ok (.aload_n 0, 1) := by decide +kernel
theorem dX9_settle_37 : decode cX9_settle 37 = .ok (.getfield 29, 3) := by decide +kernel
theorem dX9_settle_40 : decode cX9_settle 40 = .ok (.aload_n 0, 1) := by decide +kernel
theorem dX9_settle_41 : decode cX9_settle 41 = .ok (.getfield 164, 3) := by decide +kernel
theorem dX9_settle_44 : decode cX9_settle 44 = .ok (.iaload, 1) := by decide +kernel
theorem dX9_settle_45 : decode cX9_settle 45 = .ok (.iconst 0, 1) := by decide +kernel
theorem dX9_settle_46 : decode cX9_settle 46 = .ok (.invokevirtual 170, 3) := by decide +kernel
theorem dX9_settle_49 : decode cX9_settle 49 = .ok (.aload_n 0, 1) := by decide +kernel
theorem dX9_settle_50 : decode cX9_settle 50 = .ok (.getfield 29, 3) := by decide +kernel
theorem dX9_settle_53 : decode cX9_settle 53 = .ok (.aload_n 0, 1) := by decide +kernel
theorem dX9_settle_54 : decode cX9_settle 54 = .ok (.getfield 164, 3) := by decide +kernel
theorem dX9_settle_57 : decode cX9_settle 57 = .ok (.iaload, 1) := by decide +kernel
theorem dX9_settle_58 : decode cX9_settle 58 = .ok (.invokestatic 167, 3) := by decide +kernel
theorem dX9_settle_61 : decode cX9_settle 61 = .ok (.bipush 7, 2) := by decide +kernel
theorem dX9_settle_63 : decode cX9_settle 63 = .ok (.if_icmp .eq 17, 3) := by decide +kernel
theorem dX9_settle_66 : decode cX9_settle 66 = .ok (.aload_n 0, 1) := by decide +kernel
theorem dX9_settle_67 : decode cX9_settle 67 = .ok (.getfield 29, 3) := by decide +kernel
theorem dX9_settle_70 : decode cX9_settle 70 = .ok (.aload_n 0, 1) := by decide +kernel
theorem dX9_settle_71 : decode cX9_settle 71 = .ok (.getfield 164, 3) := by decide +kernel
theorem dX9_settle_74 : decode cX9_settle 74 = .ok (.iaload, 1) := by decide +kernel
theorem dX9_settle_75 : decode cX9_settle 75 = .ok (.bipush 20, 2) := by decide +kernel
theorem dX9_settle_77 : decode cX9_settle 77 = .ok (.if_icmp .ne (-77), 3) := by decide +kernel
theorem dX9_settle_80 : decode cX9_settle 80 = .ok (.aload_n 0, 1) := by decide +kernel
theorem dX9_settle_81 : decode cX9_settle 81 = .ok (.dup, 1) := by decide +kernel
theorem dX9_settle_82 : decode cX9_settle 82 = .ok (.getfield 174, 3) := by decide +kernel
theorem dX9_settle_85 : decode cX9_settle 85 = .ok (.iconst 1, 1) := by decide +kernel
theorem dX9_settle_86 : decode cX9_settle 86 = .ok (.isub, 1) := by decide +kernel
theorem dX9_settle_87 : decode cX9_settle 87 = .ok (.putfield 174, 3) := by decide +kernel
theorem dX9_settle_90 : decode cX9_settle 90 = .ok (.goto (-90), 3) := by decide +kernel
theorem dX9_settle_93 : decode cX9_settle 93 = .ok (.return_, 1) := by decide +kernel
def lX9_settle_0 (F : Nat)  (t : Nat) (a1 : Int32) : Nat → mS → Option mS
  | 0, _ => none
  | n + 1, S => if (S.1 t 16) ≤ 0 then (some S) else (ck (inb ((S.1 t 16) - (1 : Int32)) 160) (if (f_X9_rank S (S.1 (t + 5) ((S.1 t 16) - (1 : Int32)).toNatClampNeg)) < a1 then (some S) else (stp (sI S t 16 ((S.1 t 16) - (1 : Int32))) fun S2 => ck (inb (S2.1 t 16) 160) (bd (f_X9_emit F S2 t (S2.1 (t + 5) (S2.1 t 16).toNatClampNeg) (0 : Int32)) fun q4 => ck (inb (q4.1 t 16) 160) (if (f_X9_rank q4 (q4.1 (t + 5) (q4.1 t 16).toNatClampNeg)) = (7 : Int32) then (stp (sI q4 t 17 ((q4.1 t 17) - (1 : Int32))) fun S6 => lX9_settle_0 F  t a1 n S6 ) else (ck (inb (q4.1 t 16) 160) (if (q4.1 (t + 5) (q4.1 t 16).toNatClampNeg) = (20 : Int32) then (stp (sI q4 t 17 ((q4.1 t 17) - (1 : Int32))) fun S8 => lX9_settle_0 F  t a1 n S8 ) else (lX9_settle_0 F  t a1 n q4 ))))))))
set_option maxHeartbeats 4000000 in
set_option maxRecDepth 100000 in
theorem gX9_settle_0 {x : mX} {F : Nat} {t : Nat} {a1 : Int32}   {R : mS} (ht : kd0 t = 9)  : ∀ (n : Nat) (S : mS), lX9_settle_0 F  t a1 n S  = some R → mG x μX9_settle 2 0 0 (mQe R none) 0 0 E0 S 0 [(0, .ref (t)), (1, .int (a1))] [] := by
  intro n
  induction n with
  | zero =>
    intro S h
    cases h
  | succ n ih =>
    intro S h
    unfold lX9_settle_0 at h
    refine mG.aload_n 0 dX9_settle_0 rfl ?_
    refine mG.get (v := .int (S.1 t 16)) dX9_settle_1 mfX9_164 ht rfl ?_
    refine mG.if_le 93 dX9_settle_4 (by decide) (fun c12 => ?_) (fun c12 => ?_)
    · replace h := itp c12 h
      obtain rfl := Option.some.inj h
      exact mG.vret dX9_settle_93 rfl ⟨rfl, rfl, rfl⟩
    · replace h := itn c12 h
      refine mG.aload_n 0 dX9_settle_7 rfl ?_
      refine mG.get (v := .ref (t + 5)) dX9_settle_8 mfX9_29 ht (lr9_pile ht) ?_
      refine mG.aload_n 0 dX9_settle_11 rfl ?_
      refine mG.get (v := .int (S.1 t 16)) dX9_settle_12 mfX9_164 ht rfl ?_
      refine mG.iconst (v := 1) dX9_settle_15 rfl ?_
      refine mG.isub dX9_settle_16 ?_
      obtain ⟨b1, h⟩ := ckp h
      refine mG.iald dX9_settle_17 (lk9_pile ht) (ll9_pile ht) (inbp b1) ?_
      refine mG.callS0 (as := [.int (S.1 (t + 5) ((S.1 t 16) - (1 : Int32)).toNatClampNeg)]) (st := []) (S2 := S) (r := some (.int (f_X9_rank S (S.1 (t + 5) ((S.1 t 16) - (1 : Int32)).toNatClampNeg)))) dX9_settle_18 mbX9_rank wk24_19 wk24_18 rfl rfl (by decide) (Nat.le_of_ble_eq_true rfl) (c_X9_rank  rfl) ?_
      refine mG.iload_n 1 dX9_settle_21 rfl ?_
      refine mG.icmp_lt 93 dX9_settle_22 (by decide) (fun c11 => ?_) (fun c11 => ?_)
      · replace h := itp c11 h
        obtain rfl := Option.some.inj h
        exact mG.vret dX9_settle_93 rfl ⟨rfl, rfl, rfl⟩
      · replace h := itn c11 h
        refine mG.aload_n 0 dX9_settle_25 rfl ?_
        refine mG.dup dX9_settle_26 rfl ?_
        refine mG.get (v := .int (S.1 t 16)) dX9_settle_27 mfX9_164 ht rfl ?_
        refine mG.iconst (v := 1) dX9_settle_30 rfl ?_
        refine mG.isub dX9_settle_31 ?_
        obtain ⟨S2, hS2, h⟩ := stpp h
        refine mG.putI dX9_settle_32 mfX9_164 rfl (Or.inl rfl) ht hS2 ?_
        refine mG.aload_n 0 dX9_settle_35 rfl ?_
        refine mG.aload_n 0 dX9_settle_36 rfl ?_
        refine mG.get (v := .ref (t + 5)) dX9_settle_37 mfX9_29 ht (lr9_pile ht) ?_
        refine mG.aload_n 0 dX9_settle_40 rfl ?_
        refine mG.get (v := .int (S2.1 t 16)) dX9_settle_41 mfX9_164 ht rfl ?_
        obtain ⟨b3, h⟩ := ckp h
        refine mG.iald dX9_settle_44 (lk9_pile ht) (ll9_pile ht) (inbp b3) ?_
        refine mG.iconst (v := 0) dX9_settle_45 rfl ?_
        obtain ⟨q4, hq4, h⟩ := bdp h
        refine mG.callV0 (as := [.int (S2.1 (t + 5) (S2.1 t 16).toNatClampNeg), .int 0]) (st := []) (S2 := q4) (r := none) dX9_settle_46 mvX9_emit wk25_5 rfl ht rfl (by decide) (Nat.le_of_ble_eq_true rfl) (c_X9_emit ht hq4) ?_
        refine mG.aload_n 0 dX9_settle_49 rfl ?_
        refine mG.get (v := .ref (t + 5)) dX9_settle_50 mfX9_29 ht (lr9_pile ht) ?_
        refine mG.aload_n 0 dX9_settle_53 rfl ?_
        refine mG.get (v := .int (q4.1 t 16)) dX9_settle_54 mfX9_164 ht rfl ?_
        obtain ⟨b5, h⟩ := ckp h
        refine mG.iald dX9_settle_57 (lk9_pile ht) (ll9_pile ht) (inbp b5) ?_
        refine mG.callS0 (as := [.int (q4.1 (t + 5) (q4.1 t 16).toNatClampNeg)]) (st := []) (S2 := q4) (r := some (.int (f_X9_rank q4 (q4.1 (t + 5) (q4.1 t 16).toNatClampNeg)))) dX9_settle_58 mbX9_rank wk24_19 wk24_18 rfl rfl (by decide) (Nat.le_of_ble_eq_true rfl) (c_X9_rank  rfl) ?_
        refine mG.bipush (v := 7) dX9_settle_61 (by decide) ?_
        refine mG.icmp_eq 80 dX9_settle_63 (by decide) (fun c10 => ?_) (fun c10 => ?_)
        · replace h := itp c10 h
          refine mG.aload_n 0 dX9_settle_80 rfl ?_
          refine mG.dup dX9_settle_81 rfl ?_
          refine mG.get (v := .int (q4.1 t 17)) dX9_settle_82 mfX9_174 ht rfl ?_
          refine mG.iconst (v := 1) dX9_settle_85 rfl ?_
          refine mG.isub dX9_settle_86 ?_
          obtain ⟨S6, hS6, h⟩ := stpp h
          refine mG.putI dX9_settle_87 mfX9_174 rfl (Or.inl rfl) ht hS6 ?_
          refine mG.goto 0 dX9_settle_90 (by decide) ?_
          refine mG.sub (lv2 := [(0, .ref (t)), (1, .int (a1))]) [0, 1] rfl ?_
          exact ih S6   h
        · replace h := itn c10 h
          refine mG.aload_n 0 dX9_settle_66 rfl ?_
          refine mG.get (v := .ref (t + 5)) dX9_settle_67 mfX9_29 ht (lr9_pile ht) ?_
          refine mG.aload_n 0 dX9_settle_70 rfl ?_
          refine mG.get (v := .int (q4.1 t 16)) dX9_settle_71 mfX9_164 ht rfl ?_
          obtain ⟨b7, h⟩ := ckp h
          refine mG.iald dX9_settle_74 (lk9_pile ht) (ll9_pile ht) (inbp b7) ?_
          refine mG.bipush (v := 20) dX9_settle_75 (by decide) ?_
          refine mG.icmp_ne 0 dX9_settle_77 (by decide) (fun c9 => ?_) (fun c9 => ?_)
          · replace h := itn c9 h
            refine mG.sub (lv2 := [(0, .ref (t)), (1, .int (a1))]) [0, 1] rfl ?_
            exact ih q4   h
          · replace h := itp c9 h
            refine mG.aload_n 0 dX9_settle_80 rfl ?_
            refine mG.dup dX9_settle_81 rfl ?_
            refine mG.get (v := .int (q4.1 t 17)) dX9_settle_82 mfX9_174 ht rfl ?_
            refine mG.iconst (v := 1) dX9_settle_85 rfl ?_
            refine mG.isub dX9_settle_86 ?_
            obtain ⟨S8, hS8, h⟩ := stpp h
            refine mG.putI dX9_settle_87 mfX9_174 rfl (Or.inl rfl) ht hS8 ?_
            refine mG.goto 0 dX9_settle_90 (by decide) ?_
            refine mG.sub (lv2 := [(0, .ref (t)), (1, .int (a1))]) [0, 1] rfl ?_
            exact ih S8   h
def f_X9_settle (F : Nat) (S : mS) (t : Nat) (a1 : Int32) : Option mS := lX9_settle_0 F  t a1 F S 
set_option maxHeartbeats 4000000 in
set_option maxRecDepth 100000 in
theorem c_X9_settle {F : Nat} {S : mS} {t : Nat} {a1 : Int32} {R : mS} (ht : kd0 t = 9) (h : f_X9_settle F S t a1 = some R) : mCt μX9_settle 2 0 0 E0 S [.ref (t), .int (a1)] (mQe R none) := by
  unfold f_X9_settle at h
  refine mCt.of (by decide) (Nat.le_of_ble_eq_true rfl) ?_
  intro x
  refine mG.sub (lv2 := [(0, .ref (t)), (1, .int (a1))]) [0, 1] rfl ?_
  exact gX9_settle_0 ht  F S   h
theorem dX9_isShut_0 : decode cX9_isShut 0 = .ok (.iconst 0, 1) := by decide +kernel
theorem dX9_isShut_1 : decode cX9_isShut 1 = .ok (.istore_n 1, 1) := by decide +kernel
theorem dX9_isShut_2 : decode cX9_isShut 2 = .ok (.iload_n 1, 1) := by decide +kernel
theorem dX9_isShut_3 : decode cX9_isShut 3 = .ok (.aload_n 0, 1) := by decide +kernel
theorem dX9_isShut_4 : decode cX9_isShut 4 = .ok (.getfield 164, 3) := by decide +kernel
theorem dX9_isShut_7 : decode cX9_isShut 7 = .ok (.if_icmp .ge 22, 3) := by decide +kernel
theorem dX9_isShut_10 : decode cX9_isShut 10 = .ok (.aload_n 0, 1) := by decide +kernel
theorem dX9_isShut_11 : decode cX9_isShut 11 = .ok (.getfield 29, 3) := by decide +kernel
theorem dX9_isShut_14 : decode cX9_isShut 14 = .ok (.iload_n 1, 1) := by decide +kernel
theorem dX9_isShut_15 : decode cX9_isShut 15 = .ok (.iaload, 1) := by decide +kernel
theorem dX9_isShut_16 : decode cX9_isShut 16 = .ok (.bipush 40, 2) := by decide +kernel
theorem dX9_isShut_18 : decode cX9_isShut 18 = .ok (.if_icmp .ne 5, 3) := by decide +kernel
theorem dX9_isShut_21 : decode cX9_isShut 21 = .ok (.iconst 1, 1) := by decide +kernel
theorem dX9_isShut_22 : decode cX9_isShut 22 = .ok (.ireturn, 1) := by decide +kernel
theorem dX9_isShut_23 : decode cX9_isShut 23 = .ok (.iinc 1 1, 3) := by decide +kernel
theorem dX9_isShut_26 : decode cX9_isShut 26 = .ok (.goto (-24), 3) := by decide +kernel
theorem dX9_isShut_29 : decode cX9_isShut 29 = .ok (.iconst 0, 1) := by decide +kernel
theorem dX9_isShut_30 : decode cX9_isShut 30 = .ok (.ireturn, 1) := by decide +kernel
def lX9_isShut_2 (F : Nat)  (t : Nat) : Nat → mS → Int32 → Option Bool
  | 0, _, _ => none
  | n + 1, S0, v1 => if (S0.1 t 16) ≤ v1 then (some false) else (ck (inb v1 160) (if (S0.1 (t + 5) v1.toNatClampNeg) = (40 : Int32) then (some true) else (lX9_isShut_2 F  t n S0 (v1 + 1))))
set_option maxHeartbeats 4000000 in
set_option maxRecDepth 100000 in
theorem gX9_isShut_2 {x : mX} {F : Nat} {t : Nat} {S0 : mS}   {R : Bool} (ht : kd0 t = 9)  : ∀ (n : Nat) (v1 : Int32), lX9_isShut_2 F  t n S0 v1 = some R → mG x μX9_isShut 1 0 0 (mQe S0 (some (.int (bI R)))) 0 0 E0 S0 2 [(0, .ref (t)), (1, .int (v1))] [] := by
  intro n
  induction n with
  | zero =>
    intro v1 h
    cases h
  | succ n ih =>
    intro v1 h
    unfold lX9_isShut_2 at h
    refine mG.iload_n 1 dX9_isShut_2 rfl ?_
    refine mG.aload_n 0 dX9_isShut_3 rfl ?_
    refine mG.get (v := .int (S0.1 t 16)) dX9_isShut_4 mfX9_164 ht rfl ?_
    refine mG.icmp_ge 29 dX9_isShut_7 (by decide) (fun c3 => ?_) (fun c3 => ?_)
    · replace h := itp c3 h
      refine mG.iconst (v := 0) dX9_isShut_29 rfl ?_
      obtain rfl := Option.some.inj h
      exact mG.zret (b := false) dX9_isShut_30 rfl rfl ⟨rfl, rfl, rfl⟩
    · replace h := itn c3 h
      refine mG.aload_n 0 dX9_isShut_10 rfl ?_
      refine mG.get (v := .ref (t + 5)) dX9_isShut_11 mfX9_29 ht (lr9_pile ht) ?_
      refine mG.iload_n 1 dX9_isShut_14 rfl ?_
      obtain ⟨b1, h⟩ := ckp h
      refine mG.iald dX9_isShut_15 (lk9_pile ht) (ll9_pile ht) (inbp b1) ?_
      refine mG.bipush (v := 40) dX9_isShut_16 (by decide) ?_
      refine mG.icmp_ne 23 dX9_isShut_18 (by decide) (fun c2 => ?_) (fun c2 => ?_)
      · replace h := itn c2 h
        refine mG.iinc 1 (u := v1 + 1) (lv2 := [(1, .int (v1 + 1)), (0, .ref (t))]) dX9_isShut_23 rfl rfl (by decide) rfl ?_
        refine mG.goto 2 dX9_isShut_26 (by decide) ?_
        refine mG.sub (lv2 := [(0, .ref (t)), (1, .int (v1 + 1))]) [1, 0] rfl ?_
        exact ih  (v1 + 1)  h
      · replace h := itp c2 h
        refine mG.iconst (v := 1) dX9_isShut_21 rfl ?_
        obtain rfl := Option.some.inj h
        exact mG.zret (b := true) dX9_isShut_22 rfl rfl ⟨rfl, rfl, rfl⟩
def f_X9_isShut (F : Nat) (S0 : mS) (t : Nat) : Option Bool := lX9_isShut_2 F  t F S0 (0 : Int32)
set_option maxHeartbeats 4000000 in
set_option maxRecDepth 100000 in
theorem c_X9_isShut {F : Nat} {S0 : mS} {t : Nat} {R : Bool} (ht : kd0 t = 9) (h : f_X9_isShut F S0 t = some R) : mCt μX9_isShut 1 0 0 E0 S0 [.ref (t)] (mQe S0 (some (.int (bI R)))) := by
  unfold f_X9_isShut at h
  refine mCt.of (by decide) (Nat.le_of_ble_eq_true rfl) ?_
  intro x
  refine mG.iconst (v := 0) dX9_isShut_0 rfl ?_
  refine mG.istore_n (lv2 := [(1, .int 0), (0, .ref (t))]) dX9_isShut_1 rfl (by decide) rfl ?_
  refine mG.sub (lv2 := [(0, .ref (t)), (1, .int 0)]) [1, 0] rfl ?_
  exact gX9_isShut_2 ht  F  (0 : Int32)  h
theorem dX9_isCompared_0 : decode cX9_isCompared 0 = .ok (.aload_n 0, 1) := by decide +kernel
theorem dX9_isCompared_1 : decode cX9_isCompared 1 = .ok (.getfield 164, 3) := by decide +kernel
theorem dX9_isCompared_4 : decode cX9_isCompared 4 = .ok (.iconst 1, 1) := by decide +kernel
theorem dX9_isCompared_5 : decode cX9_isCompared 5 = .ok (.isub, 1) := by decide +kernel
theorem dX9_isCompared_6 : decode cX9_isCompared 6 = .ok (.istore_n 1, 1) := by decide +kernel
theorem dX9_isCompared_7 : decode cX9_isCompared 7 = .ok (.iload_n 1, 1) := by decide +kernel
theorem dX9_isCompared_8 : decode cX9_isCompared 8 = .ok (.ifCond .lt 22, 3) := by decide +kernel
theorem dX9_isCompared_11 : decode cX9_isCompared 11 = .ok (.aload_n 0, 1) := by decide +kernel
theorem dX9_isCompared_12 : decode cX9_isCompared 12 = .ok (.getfield 29, 3) := by decide +kernel
theorem dX9_isCompared_15 : decode cX9_isCompared 15 = .ok (.iload_n 1, 1) := by decide +kernel
theorem dX9_isCompared_16 : decode cX9_isCompared 16 = .ok (.iaload, 1) := by decide +kernel
theorem dX9_isCompared_17 : decode cX9_isCompared 17 = .ok (.invokestatic 167, 3) := by decide +kernel
theorem dX9_isCompared_20 : decode cX9_isCompared 20 = .ok (.iconst 4, 1) := by decide +kernel
theorem dX9_isCompared_21 : decode cX9_isCompared 21 = .ok (.if_icmp .le 9, 3) := by decide +kernel
theorem dX9_isCompared_24 : decode cX9_isCompared 24 = .ok (.iinc 1 (-1), 3) := by decide +kernel
theorem dX9_isCompared_27 : decode cX9_isCompared 27 = .ok (.goto (-20), 3) := by decide +kernel
theorem dX9_isCompared_30 : decode cX9_isCompared 30 = .ok (.iload_n 1, 1) := by decide +kernel
theorem dX9_isCompared_31 : decode cX9_isCompared 31 = .ok (.ifCond .lt 20, 3) := by decide +kernel
theorem dX9_isCompared_34 : decode cX9_isCompared 34 = .ok (.aload_n 0, 1) := by decide +kernel
theorem dX9_isCompared_35 : decode cX9_isCompared 35 = .ok (.getfield 29, 3) := by decide +kernel
theorem dX9_isCompared_38 : decode cX9_isCompared 38 = .ok (.iload_n 1, 1) := by decide +kernel
theorem dX9_isCompared_39 : decode cX9_isCompared 39 = .ok (.iaload, 1) := by decide +kernel
theorem dX9_isCompared_40 : decode cX9_isCompared 40 = .ok (.invokestatic 167, 3) := by decide +kernel
theorem dX9_isCompared_43 : decode cX9_isCompared 43 = .ok (.iconst 4, 1) := by decide +kernel
theorem dX9_isCompared_44 : decode cX9_isCompared 44 = .ok (.if_icmp .ne 7, 3) := by decide +kernel
theorem dX9_isCompared_47 : decode cX9_isCompared 47 = .ok (.iconst 1, 1) := by decide +kernel
theorem dX9_isCompared_48 : decode cX9_isCompared 48 = .ok (.goto 4, 3) := by decide +kernel
theorem dX9_isCompared_51 : decode cX9_isCompared 51 = .ok (.iconst 0, 1) := by decide +kernel
theorem dX9_isCompared_52 : decode cX9_isCompared 52 = .ok (.ireturn, 1) := by decide +kernel
def lX9_isCompared_7 (F : Nat) (K30 : Int32 → Option Bool) (t : Nat) : Nat → mS → Int32 → Option Bool
  | 0, _, _ => none
  | n + 1, S0, v1 => if v1 < 0 then (K30 v1) else (ck (inb v1 160) (if (f_X9_rank S0 (S0.1 (t + 5) v1.toNatClampNeg)) ≤ (4 : Int32) then (K30 v1) else (lX9_isCompared_7 F K30 t n S0 (v1 + (-1)))))
set_option maxHeartbeats 4000000 in
set_option maxRecDepth 100000 in
theorem gX9_isCompared_7 {x : mX} {F : Nat} {t : Nat} {S0 : mS}  {K30 : Int32 → Option Bool} {R : Bool} (ht : kd0 t = 9) (hK30 : ∀ (v1 : Int32) , K30 v1 = some R → mG x μX9_isCompared 2 0 0 (mQe S0 (some (.int (bI R)))) 0 0 E0 S0 30 [(0, .ref (t)), (1, .int (v1))] []) : ∀ (n : Nat) (v1 : Int32), lX9_isCompared_7 F K30 t n S0 v1 = some R → mG x μX9_isCompared 2 0 0 (mQe S0 (some (.int (bI R)))) 0 0 E0 S0 7 [(0, .ref (t)), (1, .int (v1))] [] := by
  intro n
  induction n with
  | zero =>
    intro v1 h
    cases h
  | succ n ih =>
    intro v1 h
    unfold lX9_isCompared_7 at h
    refine mG.iload_n 1 dX9_isCompared_7 rfl ?_
    refine mG.if_lt 30 dX9_isCompared_8 (by decide) (fun c3 => ?_) (fun c3 => ?_)
    · replace h := itp c3 h
      refine mG.sub (lv2 := [(0, .ref (t)), (1, .int (v1))]) [0, 1] rfl ?_
      exact hK30  v1  h
    · replace h := itn c3 h
      refine mG.aload_n 0 dX9_isCompared_11 rfl ?_
      refine mG.get (v := .ref (t + 5)) dX9_isCompared_12 mfX9_29 ht (lr9_pile ht) ?_
      refine mG.iload_n 1 dX9_isCompared_15 rfl ?_
      obtain ⟨b1, h⟩ := ckp h
      refine mG.iald dX9_isCompared_16 (lk9_pile ht) (ll9_pile ht) (inbp b1) ?_
      refine mG.callS0 (as := [.int (S0.1 (t + 5) v1.toNatClampNeg)]) (st := []) (S2 := S0) (r := some (.int (f_X9_rank S0 (S0.1 (t + 5) v1.toNatClampNeg)))) dX9_isCompared_17 mbX9_rank wk24_19 wk24_18 rfl rfl (by decide) (Nat.le_of_ble_eq_true rfl) (c_X9_rank  rfl) ?_
      refine mG.iconst (v := 4) dX9_isCompared_20 rfl ?_
      refine mG.icmp_le 30 dX9_isCompared_21 (by decide) (fun c2 => ?_) (fun c2 => ?_)
      · replace h := itp c2 h
        refine mG.sub (lv2 := [(0, .ref (t)), (1, .int (v1))]) [0, 1] rfl ?_
        exact hK30  v1  h
      · replace h := itn c2 h
        refine mG.iinc 1 (u := v1 + (-1)) (lv2 := [(1, .int (v1 + (-1))), (0, .ref (t))]) dX9_isCompared_24 rfl rfl (by decide) rfl ?_
        refine mG.goto 7 dX9_isCompared_27 (by decide) ?_
        refine mG.sub (lv2 := [(0, .ref (t)), (1, .int (v1 + (-1)))]) [1, 0] rfl ?_
        exact ih  (v1 + (-1))  h
def lX9_isCompared_30 (F : Nat)  (t : Nat) (S0 : mS) (v1 : Int32) : Option Bool := if v1 < 0 then (some false) else (ck (inb v1 160) (if (f_X9_rank S0 (S0.1 (t + 5) v1.toNatClampNeg)) = (4 : Int32) then (some true) else (some false)))
set_option maxHeartbeats 4000000 in
set_option maxRecDepth 100000 in
theorem gX9_isCompared_30 {x : mX} {F : Nat} {t : Nat} {S0 : mS}  {R : Bool} (ht : kd0 t = 9)  (v1 : Int32)  (h : lX9_isCompared_30 F  t S0 v1 = some R) : mG x μX9_isCompared 2 0 0 (mQe S0 (some (.int (bI R)))) 0 0 E0 S0 30 [(0, .ref (t)), (1, .int (v1))] [] := by
  unfold lX9_isCompared_30 at h
  refine mG.iload_n 1 dX9_isCompared_30 rfl ?_
  refine mG.if_lt 51 dX9_isCompared_31 (by decide) (fun c3 => ?_) (fun c3 => ?_)
  · replace h := itp c3 h
    refine mG.iconst (v := 0) dX9_isCompared_51 rfl ?_
    obtain rfl := Option.some.inj h
    exact mG.zret (b := false) dX9_isCompared_52 rfl rfl ⟨rfl, rfl, rfl⟩
  · replace h := itn c3 h
    refine mG.aload_n 0 dX9_isCompared_34 rfl ?_
    refine mG.get (v := .ref (t + 5)) dX9_isCompared_35 mfX9_29 ht (lr9_pile ht) ?_
    refine mG.iload_n 1 dX9_isCompared_38 rfl ?_
    obtain ⟨b1, h⟩ := ckp h
    refine mG.iald dX9_isCompared_39 (lk9_pile ht) (ll9_pile ht) (inbp b1) ?_
    refine mG.callS0 (as := [.int (S0.1 (t + 5) v1.toNatClampNeg)]) (st := []) (S2 := S0) (r := some (.int (f_X9_rank S0 (S0.1 (t + 5) v1.toNatClampNeg)))) dX9_isCompared_40 mbX9_rank wk24_19 wk24_18 rfl rfl (by decide) (Nat.le_of_ble_eq_true rfl) (c_X9_rank  rfl) ?_
    refine mG.iconst (v := 4) dX9_isCompared_43 rfl ?_
    refine mG.icmp_ne 51 dX9_isCompared_44 (by decide) (fun c2 => ?_) (fun c2 => ?_)
    · replace h := itn c2 h
      refine mG.iconst (v := 0) dX9_isCompared_51 rfl ?_
      obtain rfl := Option.some.inj h
      exact mG.zret (b := false) dX9_isCompared_52 rfl rfl ⟨rfl, rfl, rfl⟩
    · replace h := itp c2 h
      refine mG.iconst (v := 1) dX9_isCompared_47 rfl ?_
      refine mG.goto 52 dX9_isCompared_48 (by decide) ?_
      obtain rfl := Option.some.inj h
      exact mG.zret (b := true) dX9_isCompared_52 rfl rfl ⟨rfl, rfl, rfl⟩
def f_X9_isCompared (F : Nat) (S0 : mS) (t : Nat) : Option Bool := lX9_isCompared_7 F (fun (v1 : Int32) => lX9_isCompared_30 F  t S0 v1) t F S0 ((S0.1 t 16) - (1 : Int32))
set_option maxHeartbeats 4000000 in
set_option maxRecDepth 100000 in
theorem c_X9_isCompared {F : Nat} {S0 : mS} {t : Nat} {R : Bool} (ht : kd0 t = 9) (h : f_X9_isCompared F S0 t = some R) : mCt μX9_isCompared 2 0 0 E0 S0 [.ref (t)] (mQe S0 (some (.int (bI R)))) := by
  unfold f_X9_isCompared at h
  refine mCt.of (by decide) (Nat.le_of_ble_eq_true rfl) ?_
  intro x
  refine mG.aload_n 0 dX9_isCompared_0 rfl ?_
  refine mG.get (v := .int (S0.1 t 16)) dX9_isCompared_1 mfX9_164 ht rfl ?_
  refine mG.iconst (v := 1) dX9_isCompared_4 rfl ?_
  refine mG.isub dX9_isCompared_5 ?_
  refine mG.istore_n (lv2 := [(1, .int ((S0.1 t 16) - (1 : Int32))), (0, .ref (t))]) dX9_isCompared_6 rfl (by decide) rfl ?_
  refine mG.sub (lv2 := [(0, .ref (t)), (1, .int ((S0.1 t 16) - (1 : Int32)))]) [1, 0] rfl ?_
  exact gX9_isCompared_7 ht (fun v1 h => by exact gX9_isCompared_30 ht    v1  h) F  ((S0.1 t 16) - (1 : Int32))  h
theorem dX9_isAskAhead_0 : decode cX9_isAskAhead 0 = .ok (.aload_n 0, 1) := by decide +kernel
theorem dX9_isAskAhead_1 : decode cX9_isAskAhead 1 = .ok (.getfield 177, 3) := by decide +kernel
theorem dX9_isAskAhead_4 : decode cX9_isAskAhead 4 = .ok (.ifCond .eq 43, 3) := by decide +kernel
theorem dX9_isAskAhead_7 : decode cX9_isAskAhead 7 = .ok (.aload_n 0, 1) := by decide +kernel
theorem dX9_isAskAhead_8 : decode cX9_isAskAhead 8 = .ok (.getfield 164, 3) := by decide +kernel
theorem dX9_isAskAhead_11 : decode cX9_isAskAhead 11 = .ok (.ifCond .eq 25, 3) := by decide +kernel
theorem dX9_isAskAhead_14 : decode cX9_isAskAhead 14 = .ok (.aload_n 0, 1) := by decide +kernel
theorem dX9_isAskAhead_15 : decode cX9_isAskAhead 15 = .ok (.getfield 29, 3) := by decide +kernel
theorem dX9_isAskAhead_18 : decode cX9_isAskAhead 18 = .ok (.aload_n 0, 1) := by decide +kernel
theorem dX9_isAskAhead_19 : decode cX9_isAskAhead 19 = .ok (.getfield 164, 3) := by decide +kernel
theorem dX9_isAskAhead_22 : decode cX9_isAskAhead 22 = .ok (.iconst 1, 1) := by decide +kernel
theorem dX9_isAskAhead_23 : decode cX9_isAskAhead 23 = .ok (.isub, 1) := by decide +kernel
theorem dX9_isAskAhead_24 : decode cX9_isAskAhead 24 = .ok (.iaload, 1) := by decide +kernel
theorem dX9_isAskAhead_25 : decode cX9_isAskAhead 25 = .ok (.invokestatic 167, 3) := by decide +kernel
theorem dX9_isAskAhead_28 : decode cX9_isAskAhead 28 = .ok (.iconst 1, 1) := by decide +kernel
theorem dX9_isAskAhead_29 : decode cX9_isAskAhead 29 = .ok (.iconst 3, 1) := by decide +kernel
theorem dX9_isAskAhead_30 : decode cX9_isAskAhead 30 = .ok (.invokestatic 65, 3) := by decide +kernel
theorem dX9_isAskAhead_33 : decode cX9_isAskAhead 33 = .ok (.ifCond .eq 14, 3) := by decide +kernel
theorem dX9_isAskAhead_36 : decode cX9_isAskAhead 36 = .ok (.aload_n 0, 1) := by decide +kernel
theorem dX9_isAskAhead_37 : decode cX9_isAskAhead 37 = .ok (.invokevirtual 181, 3) := by decide +kernel
theorem dX9_isAskAhead_40 : decode cX9_isAskAhead 40 = .ok (.ifCond .ne 7, 3) := by decide +kernel
theorem dX9_isAskAhead_43 : decode cX9_isAskAhead 43 = .ok (.iconst 1, 1) := by decide +kernel
theorem dX9_isAskAhead_44 : decode cX9_isAskAhead 44 = .ok (.goto 4, 3) := by decide +kernel
theorem dX9_isAskAhead_47 : decode cX9_isAskAhead 47 = .ok (.iconst 0, 1) := by decide +kernel
theorem dX9_isAskAhead_48 : decode cX9_isAskAhead 48 = .ok (.ireturn, 1) := by decide +kernel
def f_X9_isAskAhead (F : Nat) (S0 : mS) (t : Nat) : Option Bool := if (S0.1 t 19) = 0 then (some false) else (if (S0.1 t 16) = 0 then (bd (f_X9_isShut F S0 t) fun q1 => if q1 = true then (some false) else (some true)) else (ck (inb ((S0.1 t 16) - (1 : Int32)) 160) (if (f_X9_isIn S0 (f_X9_rank S0 (S0.1 (t + 5) ((S0.1 t 16) - (1 : Int32)).toNatClampNeg)) (1 : Int32) (3 : Int32)) = true then (bd (f_X9_isShut F S0 t) fun q4 => if q4 = true then (some false) else (some true)) else (some false))))
set_option maxHeartbeats 4000000 in
set_option maxRecDepth 100000 in
theorem c_X9_isAskAhead {F : Nat} {S0 : mS} {t : Nat} {R : Bool} (ht : kd0 t = 9) (h : f_X9_isAskAhead F S0 t = some R) : mCt μX9_isAskAhead 2 0 0 E0 S0 [.ref (t)] (mQe S0 (some (.int (bI R)))) := by
  unfold f_X9_isAskAhead at h
  refine mCt.of (by decide) (Nat.le_of_ble_eq_true rfl) ?_
  intro x
  refine mG.aload_n 0 dX9_isAskAhead_0 rfl ?_
  refine mG.get (v := .int (S0.1 t 19)) dX9_isAskAhead_1 mfX9_177 ht rfl ?_
  refine mG.if_eq 47 dX9_isAskAhead_4 (by decide) (fun c8 => ?_) (fun c8 => ?_)
  · replace h := itp c8 h
    refine mG.iconst (v := 0) dX9_isAskAhead_47 rfl ?_
    obtain rfl := Option.some.inj h
    exact mG.zret (b := false) dX9_isAskAhead_48 rfl rfl ⟨rfl, rfl, rfl⟩
  · replace h := itn c8 h
    refine mG.aload_n 0 dX9_isAskAhead_7 rfl ?_
    refine mG.get (v := .int (S0.1 t 16)) dX9_isAskAhead_8 mfX9_164 ht rfl ?_
    refine mG.if_eq 36 dX9_isAskAhead_11 (by decide) (fun c7 => ?_) (fun c7 => ?_)
    · replace h := itp c7 h
      refine mG.aload_n 0 dX9_isAskAhead_36 rfl ?_
      obtain ⟨q1, hq1, h⟩ := bdp h
      refine mG.callV0 (as := []) (st := []) (S2 := S0) (r := some (.int (bI (q1)))) dX9_isAskAhead_37 mvX9_isShut wk24_10 rfl ht rfl (by decide) (Nat.le_of_ble_eq_true rfl) (c_X9_isShut ht hq1) ?_
      refine mG.ifz_ne (b := q1) 47 dX9_isAskAhead_40 (by decide) (fun c2 => ?_) (fun c2 => ?_)
      · replace h := itp c2 h
        refine mG.iconst (v := 0) dX9_isAskAhead_47 rfl ?_
        obtain rfl := Option.some.inj h
        exact mG.zret (b := false) dX9_isAskAhead_48 rfl rfl ⟨rfl, rfl, rfl⟩
      · replace h := itn c2 h
        refine mG.iconst (v := 1) dX9_isAskAhead_43 rfl ?_
        refine mG.goto 48 dX9_isAskAhead_44 (by decide) ?_
        obtain rfl := Option.some.inj h
        exact mG.zret (b := true) dX9_isAskAhead_48 rfl rfl ⟨rfl, rfl, rfl⟩
    · replace h := itn c7 h
      refine mG.aload_n 0 dX9_isAskAhead_14 rfl ?_
      refine mG.get (v := .ref (t + 5)) dX9_isAskAhead_15 mfX9_29 ht (lr9_pile ht) ?_
      refine mG.aload_n 0 dX9_isAskAhead_18 rfl ?_
      refine mG.get (v := .int (S0.1 t 16)) dX9_isAskAhead_19 mfX9_164 ht rfl ?_
      refine mG.iconst (v := 1) dX9_isAskAhead_22 rfl ?_
      refine mG.isub dX9_isAskAhead_23 ?_
      obtain ⟨b3, h⟩ := ckp h
      refine mG.iald dX9_isAskAhead_24 (lk9_pile ht) (ll9_pile ht) (inbp b3) ?_
      refine mG.callS0 (as := [.int (S0.1 (t + 5) ((S0.1 t 16) - (1 : Int32)).toNatClampNeg)]) (st := []) (S2 := S0) (r := some (.int (f_X9_rank S0 (S0.1 (t + 5) ((S0.1 t 16) - (1 : Int32)).toNatClampNeg)))) dX9_isAskAhead_25 mbX9_rank wk24_19 wk24_18 rfl rfl (by decide) (Nat.le_of_ble_eq_true rfl) (c_X9_rank  rfl) ?_
      refine mG.iconst (v := 1) dX9_isAskAhead_28 rfl ?_
      refine mG.iconst (v := 3) dX9_isAskAhead_29 rfl ?_
      refine mG.callS0 (as := [.int (f_X9_rank S0 (S0.1 (t + 5) ((S0.1 t 16) - (1 : Int32)).toNatClampNeg)), .int 1, .int 3]) (st := []) (S2 := S0) (r := some (.int (bI (f_X9_isIn S0 (f_X9_rank S0 (S0.1 (t + 5) ((S0.1 t 16) - (1 : Int32)).toNatClampNeg)) (1 : Int32) (3 : Int32))))) dX9_isAskAhead_30 mbX9_isIn wk7_13 wk7_12 rfl rfl (by decide) (Nat.le_of_ble_eq_true rfl) (c_X9_isIn  rfl) ?_
      refine mG.ifz_eq (b := f_X9_isIn S0 (f_X9_rank S0 (S0.1 (t + 5) ((S0.1 t 16) - (1 : Int32)).toNatClampNeg)) (1 : Int32) (3 : Int32)) 47 dX9_isAskAhead_33 (by decide) (fun c6 => ?_) (fun c6 => ?_)
      · replace h := itn c6 h
        refine mG.iconst (v := 0) dX9_isAskAhead_47 rfl ?_
        obtain rfl := Option.some.inj h
        exact mG.zret (b := false) dX9_isAskAhead_48 rfl rfl ⟨rfl, rfl, rfl⟩
      · replace h := itp c6 h
        refine mG.aload_n 0 dX9_isAskAhead_36 rfl ?_
        obtain ⟨q4, hq4, h⟩ := bdp h
        refine mG.callV0 (as := []) (st := []) (S2 := S0) (r := some (.int (bI (q4)))) dX9_isAskAhead_37 mvX9_isShut wk24_10 rfl ht rfl (by decide) (Nat.le_of_ble_eq_true rfl) (c_X9_isShut ht hq4) ?_
        refine mG.ifz_ne (b := q4) 47 dX9_isAskAhead_40 (by decide) (fun c5 => ?_) (fun c5 => ?_)
        · replace h := itp c5 h
          refine mG.iconst (v := 0) dX9_isAskAhead_47 rfl ?_
          obtain rfl := Option.some.inj h
          exact mG.zret (b := false) dX9_isAskAhead_48 rfl rfl ⟨rfl, rfl, rfl⟩
        · replace h := itn c5 h
          refine mG.iconst (v := 1) dX9_isAskAhead_43 rfl ?_
          refine mG.goto 48 dX9_isAskAhead_44 (by decide) ?_
          obtain rfl := Option.some.inj h
          exact mG.zret (b := true) dX9_isAskAhead_48 rfl rfl ⟨rfl, rfl, rfl⟩
theorem dX9_opened_0 : decode cX9_opened 0 = .ok (.aload_n 0, 1) := by decide +kernel
theorem dX9_opened_1 : decode cX9_opened 1 = .ok (.getfield 174, 3) := by decide +kernel
theorem dX9_opened_4 : decode cX9_opened 4 = .ok (.bipush 8, 2) := by decide +kernel
theorem dX9_opened_6 : decode cX9_opened 6 = .ok (.if_icmp .ne 5, 3) := by decide +kernel
theorem dX9_opened_9 : decode cX9_opened 9 = .ok (.iconst 3, 1) := by decide +kernel
theorem dX9_opened_10 : decode cX9_opened 10 = .ok (.ireturn, 1) := by decide +kernel
theorem dX9_opened_11 : decode cX9_opened 11 = .ok (.aload_n 0, 1) := by decide +kernel
theorem dX9_opened_12 : decode cX9_opened 12 = .ok (.dup, 1) := by decide +kernel
theorem dX9_opened_13 : decode cX9_opened 13 = .ok (.getfield 174, 3) := by decide +kernel
theorem dX9_opened_16 : decode cX9_opened 16 = .ok (.iconst 1, 1) := by decide +kernel
theorem dX9_opened_17 : decode cX9_opened 17 = .ok (.iadd, 1) := by decide +kernel
theorem dX9_opened_18 : decode cX9_opened 18 = .ok (.putfield 174, 3) := by decide +kernel
theorem dX9_opened_21 : decode cX9_opened 21 = .ok (.aload_n 0, 1) := by decide +kernel
theorem dX9_opened_22 : decode cX9_opened 22 = .ok (.getfield 29, 3) := by decide +kernel
theorem dX9_opened_25 : decode cX9_opened 25 = .ok (.aload_n 0, 1) := by decide +kernel
theorem dX9_opened_26 : decode cX9_opened 26 = .ok (.getfield 164, 3) := by decide +kernel
theorem dX9_opened_29 : decode cX9_opened 29 = .ok (.iload_n 1, 1) := by decide +kernel
theorem dX9_opened_30 : decode cX9_opened 30 = .ok (.iastore, 1) := by decide +kernel
theorem dX9_opened_31 : decode cX9_opened 31 = .ok (.aload_n 0, 1) := by decide +kernel
theorem dX9_opened_32 : decode cX9_opened 32 = .ok (.dup, 1) := by decide +kernel
theorem dX9_opened_33 : decode cX9_opened 33 = .ok (.getfield 164, 3) := by decide +kernel
theorem dX9_opened_36 : decode cX9_opened 36 = .ok (.iconst 1, 1) := by decide +kernel
theorem dX9_opened_37 : decode cX9_opened 37 = .ok (.iadd, 1) := by decide +kernel
theorem dX9_opened_38 : decode cX9_opened 38 = .ok (.putfield 164, 3) := by decide +kernel
theorem dX9_opened_41 : decode cX9_opened 41 = .ok (.aload_n 0, 1) := by decide +kernel
theorem dX9_opened_42 : decode cX9_opened 42 = .ok (.invokevirtual 184, 3) := by decide +kernel
theorem dX9_opened_45 : decode cX9_opened 45 = .ok (.iconst 0, 1) := by decide +kernel
theorem dX9_opened_46 : decode cX9_opened 46 = .ok (.ireturn, 1) := by decide +kernel
def f_X9_opened (F : Nat) (S : mS) (t : Nat) (a1 : Int32) : Option (mS × Int32) := if (S.1 t 17) = (8 : Int32) then (some (S, (3 : Int32))) else (stp (sI S t 17 ((S.1 t 17) + (1 : Int32))) fun S1 => ck (inb (S1.1 t 16) 160) (stp (sI S1 (t + 5) (S1.1 t 16).toNatClampNeg a1) fun S3 => stp (sI S3 t 16 ((S3.1 t 16) + (1 : Int32))) fun S4 => bd (f_X9_nextToken F S4 t) fun q5 => some (q5, (0 : Int32))))
set_option maxHeartbeats 4000000 in
set_option maxRecDepth 100000 in
theorem c_X9_opened {F : Nat} {S : mS} {t : Nat} {a1 : Int32} {R : mS × Int32} (ht : kd0 t = 9) (h : f_X9_opened F S t a1 = some R) : mCt μX9_opened 3 0 0 E0 S [.ref (t), .int (a1)] (mQe R.1 (some (.int R.2))) := by
  unfold f_X9_opened at h
  refine mCt.of (by decide) (Nat.le_of_ble_eq_true rfl) ?_
  intro x
  refine mG.aload_n 0 dX9_opened_0 rfl ?_
  refine mG.get (v := .int (S.1 t 17)) dX9_opened_1 mfX9_174 ht rfl ?_
  refine mG.bipush (v := 8) dX9_opened_4 (by decide) ?_
  refine mG.icmp_ne 11 dX9_opened_6 (by decide) (fun c6 => ?_) (fun c6 => ?_)
  · replace h := itn c6 h
    refine mG.aload_n 0 dX9_opened_11 rfl ?_
    refine mG.dup dX9_opened_12 rfl ?_
    refine mG.get (v := .int (S.1 t 17)) dX9_opened_13 mfX9_174 ht rfl ?_
    refine mG.iconst (v := 1) dX9_opened_16 rfl ?_
    refine mG.iadd dX9_opened_17 ?_
    obtain ⟨S1, hS1, h⟩ := stpp h
    refine mG.putI dX9_opened_18 mfX9_174 rfl (Or.inl rfl) ht hS1 ?_
    refine mG.aload_n 0 dX9_opened_21 rfl ?_
    refine mG.get (v := .ref (t + 5)) dX9_opened_22 mfX9_29 ht (lr9_pile ht) ?_
    refine mG.aload_n 0 dX9_opened_25 rfl ?_
    refine mG.get (v := .int (S1.1 t 16)) dX9_opened_26 mfX9_164 ht rfl ?_
    refine mG.iload_n 1 dX9_opened_29 rfl ?_
    obtain ⟨b2, h⟩ := ckp h
    obtain ⟨S3, hS3, h⟩ := stpp h
    refine mG.iast dX9_opened_30 (lk9_pile ht) (ll9_pile ht) (inbp b2) hS3 ?_
    refine mG.aload_n 0 dX9_opened_31 rfl ?_
    refine mG.dup dX9_opened_32 rfl ?_
    refine mG.get (v := .int (S3.1 t 16)) dX9_opened_33 mfX9_164 ht rfl ?_
    refine mG.iconst (v := 1) dX9_opened_36 rfl ?_
    refine mG.iadd dX9_opened_37 ?_
    obtain ⟨S4, hS4, h⟩ := stpp h
    refine mG.putI dX9_opened_38 mfX9_164 rfl (Or.inl rfl) ht hS4 ?_
    refine mG.aload_n 0 dX9_opened_41 rfl ?_
    obtain ⟨q5, hq5, h⟩ := bdp h
    refine mG.callV0 (as := []) (st := []) (S2 := q5) (r := none) dX9_opened_42 mvX9_nextToken wk20_10 rfl ht rfl (by decide) (Nat.le_of_ble_eq_true rfl) (c_X9_nextToken ht hq5) ?_
    refine mG.iconst (v := 0) dX9_opened_45 rfl ?_
    obtain rfl := Option.some.inj h
    exact mG.iret dX9_opened_46 rfl ⟨rfl, rfl, rfl⟩
  · replace h := itp c6 h
    refine mG.iconst (v := 3) dX9_opened_9 rfl ?_
    obtain rfl := Option.some.inj h
    exact mG.iret dX9_opened_10 rfl ⟨rfl, rfl, rfl⟩
theorem dX9_endOne_0 : decode cX9_endOne 0 = .ok (.aload_n 0, 1) := by decide +kernel
theorem dX9_endOne_1 : decode cX9_endOne 1 = .ok (.bipush 7, 2) := by decide +kernel
theorem dX9_endOne_3 : decode cX9_endOne 3 = .ok (.invokevirtual 207, 3) := by decide +kernel
theorem dX9_endOne_6 : decode cX9_endOne 6 = .ok (.aload_n 0, 1) := by decide +kernel
theorem dX9_endOne_7 : decode cX9_endOne 7 = .ok (.iconst 1, 1) := by decide +kernel
theorem dX9_endOne_8 : decode cX9_endOne 8 = .ok (.putfield 210, 3) := by decide +kernel
theorem dX9_endOne_11 : decode cX9_endOne 11 = .ok (.aload_n 0, 1) := by decide +kernel
theorem dX9_endOne_12 : decode cX9_endOne 12 = .ok (.getfield 164, 3) := by decide +kernel
theorem dX9_endOne_15 : decode cX9_endOne 15 = .ok (.ifCond .eq 19, 3) := by decide +kernel
theorem dX9_endOne_18 : decode cX9_endOne 18 = .ok (.aload_n 0, 1) := by decide +kernel
theorem dX9_endOne_19 : decode cX9_endOne 19 = .ok (.getfield 29, 3) := by decide +kernel
theorem dX9_endOne_22 : decode cX9_endOne 22 = .ok (.aload_n 0, 1) := by decide +kernel
theorem dX9_endOne_23 : decode cX9_endOne 23 = .ok (.getfield 164, 3) := by decide +kernel
theorem dX9_endOne_26 : decode cX9_endOne 26 = .ok (.iconst 1, 1) := by decide +kernel
theorem dX9_endOne_27 : decode cX9_endOne 27 = .ok (.isub, 1) := by decide +kernel
theorem dX9_endOne_28 : decode cX9_endOne 28 = .ok (.iaload, 1) := by decide +kernel
theorem dX9_endOne_29 : decode cX9_endOne 29 = .ok (.bipush 41, 2) := by decide +kernel
theorem dX9_endOne_31 : decode cX9_endOne 31 = .ok (.if_icmp .eq 5, 3) := by decide +kernel
theorem dX9_endOne_34 : decode cX9_endOne 34 = .ok (.iconst 0, 1) := by decide +kernel
theorem dX9_endOne_35 : decode cX9_endOne 35 = .ok (.ireturn, 1) := by decide +kernel
theorem dX9_endOne_36 : decode cX9_endOne 36 = .ok (.aload_n 0, 1) := by decide +kernel
theorem dX9_endOne_37 : decode cX9_endOne 37 = .ok (.bipush 111, 2) := by decide +kernel
theorem dX9_endOne_39 : decode cX9_endOne 39 = .ok (.bipush 102, 2) := by decide +kernel
theorem dX9_endOne_41 : decode cX9_endOne 41 = .ok (.invokestatic 130, 3) := by decide +kernel
theorem dX9_endOne_44 : decode cX9_endOne 44 = .ok (.invokevirtual 200, 3) := by decide +kernel
theorem dX9_endOne_47 : decode cX9_endOne 47 = .ok (.ifCond .ne 5, 3) := by decide +kernel
theorem dX9_endOne_50 : decode cX9_endOne 50 = .ok (.iconst 1, 1) := by decide +kernel
theorem dX9_endOne_51 : decode cX9_endOne 51 = .ok (.ireturn, 1) := by decide +kernel
theorem dX9_endOne_52 : decode cX9_endOne 52 = .ok (.aload_n 0, 1) := by decide +kernel
theorem dX9_endOne_53 : decode cX9_endOne 53 = .ok (.invokevirtual 184, 3) := by decide +kernel
theorem dX9_endOne_56 : decode cX9_endOne 56 = .ok (.aload_n 0, 1) := by decide +kernel
theorem dX9_endOne_57 : decode cX9_endOne 57 = .ok (.getfield 29, 3) := by decide +kernel
theorem dX9_endOne_60 : decode cX9_endOne 60 = .ok (.aload_n 0, 1) := by decide +kernel
theorem dX9_endOne_61 : decode cX9_endOne 61 = .ok (.getfield 164, 3) := by decide +kernel
theorem dX9_endOne_64 : decode cX9_endOne 64 = .ok (.iconst 1, 1) := by decide +kernel
theorem dX9_endOne_65 : decode cX9_endOne 65 = .ok (.isub, 1) := by decide +kernel
theorem dX9_endOne_66 : decode cX9_endOne 66 = .ok (.bipush 7, 2) := by decide +kernel
theorem dX9_endOne_68 : decode cX9_endOne 68 = .ok (.iastore, 1) := by decide +kernel
theorem dX9_endOne_69 : decode cX9_endOne 69 = .ok (.aload_n 0, 1) := by decide +kernel
theorem dX9_endOne_70 : decode cX9_endOne 70 = .ok (.iconst 0, 1) := by decide +kernel
theorem dX9_endOne_71 : decode cX9_endOne 71 = .ok (.putfield 210, 3) := by decide +kernel
theorem dX9_endOne_74 : decode cX9_endOne 74 = .ok (.iconst 0, 1) := by decide +kernel
theorem dX9_endOne_75 : decode cX9_endOne 75 = .ok (.ireturn, 1) := by decide +kernel
def f_X9_endOne (F : Nat) (S : mS) (t : Nat) : Option (mS × Int32) := bd (f_X9_settle F S t (7 : Int32)) fun q1 => stp (sI q1 t 18 (1 : Int32)) fun S2 => if (S2.1 t 16) = 0 then (some (S2, (0 : Int32))) else (ck (inb ((S2.1 t 16) - (1 : Int32)) 160) (if (S2.1 (t + 5) ((S2.1 t 16) - (1 : Int32)).toNatClampNeg) = (41 : Int32) then (if (f_X9_isWord S2 t (f_X9_w2 S2 (111 : Int32) (102 : Int32))) = true then (bd (f_X9_nextToken F S2 t) fun q4 => ck (inb ((q4.1 t 16) - (1 : Int32)) 160) (stp (sI q4 (t + 5) ((q4.1 t 16) - (1 : Int32)).toNatClampNeg (7 : Int32)) fun S6 => stp (sI S6 t 18 (0 : Int32)) fun S7 => some (S7, (0 : Int32)))) else (some (S2, (1 : Int32)))) else (some (S2, (0 : Int32)))))
set_option maxHeartbeats 4000000 in
set_option maxRecDepth 100000 in
theorem c_X9_endOne {F : Nat} {S : mS} {t : Nat} {R : mS × Int32} (ht : kd0 t = 9) (h : f_X9_endOne F S t = some R) : mCt μX9_endOne 3 0 0 E0 S [.ref (t)] (mQe R.1 (some (.int R.2))) := by
  unfold f_X9_endOne at h
  refine mCt.of (by decide) (Nat.le_of_ble_eq_true rfl) ?_
  intro x
  refine mG.aload_n 0 dX9_endOne_0 rfl ?_
  refine mG.bipush (v := 7) dX9_endOne_1 (by decide) ?_
  obtain ⟨q1, hq1, h⟩ := bdp h
  refine mG.callV0 (as := [.int 7]) (st := []) (S2 := q1) (r := none) dX9_endOne_3 mvX9_settle wk25_1 rfl ht rfl (by decide) (Nat.le_of_ble_eq_true rfl) (c_X9_settle ht hq1) ?_
  refine mG.aload_n 0 dX9_endOne_6 rfl ?_
  refine mG.iconst (v := 1) dX9_endOne_7 rfl ?_
  obtain ⟨S2, hS2, h⟩ := stpp h
  refine mG.putI dX9_endOne_8 mfX9_210 rfl (Or.inr ⟨rfl, Or.inr rfl⟩) ht hS2 ?_
  refine mG.aload_n 0 dX9_endOne_11 rfl ?_
  refine mG.get (v := .int (S2.1 t 16)) dX9_endOne_12 mfX9_164 ht rfl ?_
  refine mG.if_eq 34 dX9_endOne_15 (by decide) (fun c10 => ?_) (fun c10 => ?_)
  · replace h := itp c10 h
    refine mG.iconst (v := 0) dX9_endOne_34 rfl ?_
    obtain rfl := Option.some.inj h
    exact mG.iret dX9_endOne_35 rfl ⟨rfl, rfl, rfl⟩
  · replace h := itn c10 h
    refine mG.aload_n 0 dX9_endOne_18 rfl ?_
    refine mG.get (v := .ref (t + 5)) dX9_endOne_19 mfX9_29 ht (lr9_pile ht) ?_
    refine mG.aload_n 0 dX9_endOne_22 rfl ?_
    refine mG.get (v := .int (S2.1 t 16)) dX9_endOne_23 mfX9_164 ht rfl ?_
    refine mG.iconst (v := 1) dX9_endOne_26 rfl ?_
    refine mG.isub dX9_endOne_27 ?_
    obtain ⟨b3, h⟩ := ckp h
    refine mG.iald dX9_endOne_28 (lk9_pile ht) (ll9_pile ht) (inbp b3) ?_
    refine mG.bipush (v := 41) dX9_endOne_29 (by decide) ?_
    refine mG.icmp_eq 36 dX9_endOne_31 (by decide) (fun c9 => ?_) (fun c9 => ?_)
    · replace h := itp c9 h
      refine mG.aload_n 0 dX9_endOne_36 rfl ?_
      refine mG.bipush (v := 111) dX9_endOne_37 (by decide) ?_
      refine mG.bipush (v := 102) dX9_endOne_39 (by decide) ?_
      refine mG.callS0 (as := [.int 111, .int 102]) (st := [.ref (t)]) (S2 := S2) (r := some (.long (f_X9_w2 S2 (111 : Int32) (102 : Int32)))) dX9_endOne_41 mbX9_w2 wk22_2 wk22_1 rfl rfl (by decide) (Nat.le_of_ble_eq_true rfl) (c_X9_w2  rfl) ?_
      refine mG.callV0 (as := [.long (f_X9_w2 S2 (111 : Int32) (102 : Int32))]) (st := []) (S2 := S2) (r := some (.int (bI (f_X9_isWord S2 t (f_X9_w2 S2 (111 : Int32) (102 : Int32)))))) dX9_endOne_44 mvX9_isWord wk22_4 rfl ht rfl (by decide) (Nat.le_of_ble_eq_true rfl) (c_X9_isWord ht rfl) ?_
      refine mG.ifz_ne (b := f_X9_isWord S2 t (f_X9_w2 S2 (111 : Int32) (102 : Int32))) 52 dX9_endOne_47 (by decide) (fun c8 => ?_) (fun c8 => ?_)
      · replace h := itp c8 h
        refine mG.aload_n 0 dX9_endOne_52 rfl ?_
        obtain ⟨q4, hq4, h⟩ := bdp h
        refine mG.callV0 (as := []) (st := []) (S2 := q4) (r := none) dX9_endOne_53 mvX9_nextToken wk20_10 rfl ht rfl (by decide) (Nat.le_of_ble_eq_true rfl) (c_X9_nextToken ht hq4) ?_
        refine mG.aload_n 0 dX9_endOne_56 rfl ?_
        refine mG.get (v := .ref (t + 5)) dX9_endOne_57 mfX9_29 ht (lr9_pile ht) ?_
        refine mG.aload_n 0 dX9_endOne_60 rfl ?_
        refine mG.get (v := .int (q4.1 t 16)) dX9_endOne_61 mfX9_164 ht rfl ?_
        refine mG.iconst (v := 1) dX9_endOne_64 rfl ?_
        refine mG.isub dX9_endOne_65 ?_
        refine mG.bipush (v := 7) dX9_endOne_66 (by decide) ?_
        obtain ⟨b5, h⟩ := ckp h
        obtain ⟨S6, hS6, h⟩ := stpp h
        refine mG.iast dX9_endOne_68 (lk9_pile ht) (ll9_pile ht) (inbp b5) hS6 ?_
        refine mG.aload_n 0 dX9_endOne_69 rfl ?_
        refine mG.iconst (v := 0) dX9_endOne_70 rfl ?_
        obtain ⟨S7, hS7, h⟩ := stpp h
        refine mG.putI dX9_endOne_71 mfX9_210 rfl (Or.inr ⟨rfl, Or.inl rfl⟩) ht hS7 ?_
        refine mG.iconst (v := 0) dX9_endOne_74 rfl ?_
        obtain rfl := Option.some.inj h
        exact mG.iret dX9_endOne_75 rfl ⟨rfl, rfl, rfl⟩
      · replace h := itn c8 h
        refine mG.iconst (v := 1) dX9_endOne_50 rfl ?_
        obtain rfl := Option.some.inj h
        exact mG.iret dX9_endOne_51 rfl ⟨rfl, rfl, rfl⟩
    · replace h := itn c9 h
      refine mG.iconst (v := 0) dX9_endOne_34 rfl ?_
      obtain rfl := Option.some.inj h
      exact mG.iret dX9_endOne_35 rfl ⟨rfl, rfl, rfl⟩
theorem dX9_beginOne_0 : decode cX9_beginOne 0 = .ok (.aload_n 0, 1) := by decide +kernel
theorem dX9_beginOne_1 : decode cX9_beginOne 1 = .ok (.getfield 108, 3) := by decide +kernel
theorem dX9_beginOne_4 : decode cX9_beginOne 4 = .ok (.iconst 1, 1) := by decide +kernel
theorem dX9_beginOne_5 : decode cX9_beginOne 5 = .ok (.if_icmp .ne 15, 3) := by decide +kernel
theorem dX9_beginOne_8 : decode cX9_beginOne 8 = .ok (.aload_n 0, 1) := by decide +kernel
theorem dX9_beginOne_9 : decode cX9_beginOne 9 = .ok (.getfield 114, 3) := by decide +kernel
theorem dX9_beginOne_12 : decode cX9_beginOne 12 = .ok (.sipush 9999, 3) := by decide +kernel
theorem dX9_beginOne_15 : decode cX9_beginOne 15 = .ok (.if_icmp .le 5, 3) := by decide +kernel
theorem dX9_beginOne_18 : decode cX9_beginOne 18 = .ok (.iconst 2, 1) := by decide +kernel
theorem dX9_beginOne_19 : decode cX9_beginOne 19 = .ok (.ireturn, 1) := by decide +kernel
theorem dX9_beginOne_20 : decode cX9_beginOne 20 = .ok (.aload_n 0, 1) := by decide +kernel
theorem dX9_beginOne_21 : decode cX9_beginOne 21 = .ok (.invokevirtual 187, 3) := by decide +kernel
theorem dX9_beginOne_24 : decode cX9_beginOne 24 = .ok (.istore_n 1, 1) := by decide +kernel
theorem dX9_beginOne_25 : decode cX9_beginOne 25 = .ok (.iload_n 1, 1) := by decide +kernel
theorem dX9_beginOne_26 : decode cX9_beginOne 26 = .ok (.bipush 7, 2) := by decide +kernel
theorem dX9_beginOne_28 : decode cX9_beginOne 28 = .ok (.if_icmp .ne 13, 3) := by decide +kernel
theorem dX9_beginOne_31 : decode cX9_beginOne 31 = .ok (.aload_n 0, 1) := by decide +kernel
theorem dX9_beginOne_32 : decode cX9_beginOne 32 = .ok (.getfield 191, 3) := by decide +kernel
theorem dX9_beginOne_35 : decode cX9_beginOne 35 = .ok (.iconst 2, 1) := by decide +kernel
theorem dX9_beginOne_36 : decode cX9_beginOne 36 = .ok (.if_icmp .ne 5, 3) := by decide +kernel
theorem dX9_beginOne_39 : decode cX9_beginOne 39 = .ok (.iconst 5, 1) := by decide +kernel
theorem dX9_beginOne_40 : decode cX9_beginOne 40 = .ok (.ireturn, 1) := by decide +kernel
theorem dX9_beginOne_41 : decode cX9_beginOne 41 = .ok (.aload_n 0, 1) := by decide +kernel
theorem dX9_beginOne_42 : decode cX9_beginOne 42 = .ok (.getfield 108, 3) := by decide +kernel
theorem dX9_beginOne_45 : decode cX9_beginOne 45 = .ok (.iconst 1, 1) := by decide +kernel
theorem dX9_beginOne_46 : decode cX9_beginOne 46 = .ok (.if_icmp .eq 7, 3) := by decide +kernel
theorem dX9_beginOne_49 : decode cX9_beginOne 49 = .ok (.iload_n 1, 1) := by decide +kernel
theorem dX9_beginOne_50 : decode cX9_beginOne 50 = .ok (.ifCond .lt 45, 3) := by decide +kernel
theorem dX9_beginOne_53 : decode cX9_beginOne 53 = .ok (.aload_n 0, 1) := by decide +kernel
theorem dX9_beginOne_54 : decode cX9_beginOne 54 = .ok (.aload_n 0, 1) := by decide +kernel
theorem dX9_beginOne_55 : decode cX9_beginOne 55 = .ok (.getfield 108, 3) := by decide +kernel
theorem dX9_beginOne_58 : decode cX9_beginOne 58 = .ok (.iconst 1, 1) := by decide +kernel
theorem dX9_beginOne_59 : decode cX9_beginOne 59 = .ok (.if_icmp .ne 7, 3) := by decide +kernel
theorem dX9_beginOne_62 : decode cX9_beginOne 62 = .ok (.iconst 0, 1) := by decide +kernel
theorem dX9_beginOne_63 : decode cX9_beginOne 63 = .ok (.goto 4, 3) := by decide +kernel
theorem dX9_beginOne_66 : decode cX9_beginOne 66 = .ok (.iconst 1, 1) := by decide +kernel
theorem dX9_beginOne_67 : decode cX9_beginOne 67 = .ok (.aload_n 0, 1) := by decide +kernel
theorem dX9_beginOne_68 : decode cX9_beginOne 68 = .ok (.getfield 108, 3) := by decide +kernel
theorem dX9_beginOne_71 : decode cX9_beginOne 71 = .ok (.iconst 1, 1) := by decide +kernel
theorem dX9_beginOne_72 : decode cX9_beginOne 72 = .ok (.if_icmp .ne 10, 3) := by decide +kernel
theorem dX9_beginOne_75 : decode cX9_beginOne 75 = .ok (.aload_n 0, 1) := by decide +kernel
theorem dX9_beginOne_76 : decode cX9_beginOne 76 = .ok (.getfield 114, 3) := by decide +kernel
theorem dX9_beginOne_79 : decode cX9_beginOne 79 = .ok (.goto 4, 3) := by decide +kernel
theorem dX9_beginOne_82 : decode cX9_beginOne 82 = .ok (.iload_n 1, 1) := by decide +kernel
theorem dX9_beginOne_83 : decode cX9_beginOne 83 = .ok (.invokevirtual 170, 3) := by decide +kernel
theorem dX9_beginOne_86 : decode cX9_beginOne 86 = .ok (.aload_n 0, 1) := by decide +kernel
theorem dX9_beginOne_87 : decode cX9_beginOne 87 = .ok (.invokevirtual 184, 3) := by decide +kernel
theorem dX9_beginOne_90 : decode cX9_beginOne 90 = .ok (.aload_n 0, 1) := by decide +kernel
theorem dX9_beginOne_91 : decode cX9_beginOne 91 = .ok (.invokevirtual 194, 3) := by decide +kernel
theorem dX9_beginOne_94 : decode cX9_beginOne 94 = .ok (.ireturn, 1) := by decide +kernel
theorem dX9_beginOne_95 : decode cX9_beginOne 95 = .ok (.aload_n 0, 1) := by decide +kernel
theorem dX9_beginOne_96 : decode cX9_beginOne 96 = .ok (.getfield 108, 3) := by decide +kernel
theorem dX9_beginOne_99 : decode cX9_beginOne 99 = .ok (.bipush 40, 2) := by decide +kernel
theorem dX9_beginOne_101 : decode cX9_beginOne 101 = .ok (.if_icmp .ne 10, 3) := by decide +kernel
theorem dX9_beginOne_104 : decode cX9_beginOne 104 = .ok (.aload_n 0, 1) := by decide +kernel
theorem dX9_beginOne_105 : decode cX9_beginOne 105 = .ok (.bipush 40, 2) := by decide +kernel
theorem dX9_beginOne_107 : decode cX9_beginOne 107 = .ok (.invokevirtual 197, 3) := by decide +kernel
theorem dX9_beginOne_110 : decode cX9_beginOne 110 = .ok (.ireturn, 1) := by decide +kernel
theorem dX9_beginOne_111 : decode cX9_beginOne 111 = .ok (.aload_n 0, 1) := by decide +kernel
theorem dX9_beginOne_112 : decode cX9_beginOne 112 = .ok (.getfield 108, 3) := by decide +kernel
theorem dX9_beginOne_115 : decode cX9_beginOne 115 = .ok (.bipush 45, 2) := by decide +kernel
theorem dX9_beginOne_117 : decode cX9_beginOne 117 = .ok (.if_icmp .ne 9, 3) := by decide +kernel
theorem dX9_beginOne_120 : decode cX9_beginOne 120 = .ok (.aload_n 0, 1) := by decide +kernel
theorem dX9_beginOne_121 : decode cX9_beginOne 121 = .ok (.iconst 2, 1) := by decide +kernel
theorem dX9_beginOne_122 : decode cX9_beginOne 122 = .ok (.invokevirtual 197, 3) := by decide +kernel
theorem dX9_beginOne_125 : decode cX9_beginOne 125 = .ok (.ireturn, 1) := by decide +kernel
theorem dX9_beginOne_126 : decode cX9_beginOne 126 = .ok (.aload_n 0, 1) := by decide +kernel
theorem dX9_beginOne_127 : decode cX9_beginOne 127 = .ok (.bipush 100, 2) := by decide +kernel
theorem dX9_beginOne_129 : decode cX9_beginOne 129 = .ok (.bipush 105, 2) := by decide +kernel
theorem dX9_beginOne_131 : decode cX9_beginOne 131 = .ok (.bipush 103, 2) := by decide +kernel
theorem dX9_beginOne_133 : decode cX9_beginOne 133 = .ok (.bipush 105, 2) := by decide +kernel
theorem dX9_beginOne_135 : decode cX9_beginOne 135 = .ok (.bipush 116, 2) := by decide +kernel
theorem dX9_beginOne_137 : decode cX9_beginOne 137 = .ok (.invokestatic 142, 3) := by decide +kernel
theorem dX9_beginOne_140 : decode cX9_beginOne 140 = .ok (.invokevirtual 200, 3) := by decide +kernel
theorem dX9_beginOne_143 : decode cX9_beginOne 143 = .ok (.ifCond .eq 10, 3) := by decide +kernel
theorem dX9_beginOne_146 : decode cX9_beginOne 146 = .ok (.aload_n 0, 1) := by decide +kernel
theorem dX9_beginOne_147 : decode cX9_beginOne 147 = .ok (.bipush 41, 2) := by decide +kernel
theorem dX9_beginOne_149 : decode cX9_beginOne 149 = .ok (.invokevirtual 197, 3) := by decide +kernel
theorem dX9_beginOne_152 : decode cX9_beginOne 152 = .ok (.ireturn, 1) := by decide +kernel
theorem dX9_beginOne_153 : decode cX9_beginOne 153 = .ok (.aload_n 0, 1) := by decide +kernel
theorem dX9_beginOne_154 : decode cX9_beginOne 154 = .ok (.bipush 110, 2) := by decide +kernel
theorem dX9_beginOne_156 : decode cX9_beginOne 156 = .ok (.bipush 111, 2) := by decide +kernel
theorem dX9_beginOne_158 : decode cX9_beginOne 158 = .ok (.bipush 116, 2) := by decide +kernel
theorem dX9_beginOne_160 : decode cX9_beginOne 160 = .ok (.invokestatic 134, 3) := by decide +kernel
theorem dX9_beginOne_163 : decode cX9_beginOne 163 = .ok (.invokevirtual 200, 3) := by decide +kernel
theorem dX9_beginOne_166 : decode cX9_beginOne 166 = .ok (.ifCond .eq 19, 3) := by decide +kernel
theorem dX9_beginOne_169 : decode cX9_beginOne 169 = .ok (.aload_n 0, 1) := by decide +kernel
theorem dX9_beginOne_170 : decode cX9_beginOne 170 = .ok (.invokevirtual 204, 3) := by decide +kernel
theorem dX9_beginOne_173 : decode cX9_beginOne 173 = .ok (.ifCond .eq 12, 3) := by decide +kernel
theorem dX9_beginOne_176 : decode cX9_beginOne 176 = .ok (.aload_n 0, 1) := by decide +kernel
theorem dX9_beginOne_177 : decode cX9_beginOne 177 = .ok (.bipush 20, 2) := by decide +kernel
theorem dX9_beginOne_179 : decode cX9_beginOne 179 = .ok (.invokevirtual 197, 3) := by decide +kernel
theorem dX9_beginOne_182 : decode cX9_beginOne 182 = .ok (.goto 4, 3) := by decide +kernel
theorem dX9_beginOne_185 : decode cX9_beginOne 185 = .ok (.iconst 1, 1) := by decide +kernel
theorem dX9_beginOne_186 : decode cX9_beginOne 186 = .ok (.ireturn, 1) := by decide +kernel
def lX9_beginOne_20 (F : Nat) (K41 : mS → Int32 → Option (mS × Int32)) (t : Nat) (S : mS)  : Option (mS × Int32) := bd (f_X9_nameOf F S t) fun q1 => if q1 = (7 : Int32) then (if (S.1 t 14) = (2 : Int32) then (some (S, (5 : Int32))) else (K41 S q1)) else (K41 S q1)
set_option maxHeartbeats 4000000 in
set_option maxRecDepth 100000 in
theorem gX9_beginOne_20 {x : mX} {F : Nat} {t : Nat} {K41 : mS → Int32 → Option (mS × Int32)} {R : mS × Int32} (ht : kd0 t = 9) (hK41 : ∀ (S : mS) (v1 : Int32) , K41 S v1 = some R → mG x μX9_beginOne 7 0 0 (mQe R.1 (some (.int R.2))) 0 0 E0 S 41 [(0, .ref (t)), (1, .int (v1))] []) (S : mS)   (h : lX9_beginOne_20 F K41 t S  = some R) : mG x μX9_beginOne 7 0 0 (mQe R.1 (some (.int R.2))) 0 0 E0 S 20 [(0, .ref (t))] [] := by
  unfold lX9_beginOne_20 at h
  refine mG.aload_n 0 dX9_beginOne_20 rfl ?_
  obtain ⟨q1, hq1, h⟩ := bdp h
  refine mG.callV0 (as := []) (st := []) (S2 := S) (r := some (.int (q1))) dX9_beginOne_21 mvX9_nameOf wk25_17 rfl ht rfl (by decide) (Nat.le_of_ble_eq_true rfl) (c_X9_nameOf ht hq1) ?_
  refine mG.istore_n (lv2 := [(1, .int (q1)), (0, .ref (t))]) dX9_beginOne_24 rfl (by decide) rfl ?_
  refine mG.iload_n 0 dX9_beginOne_25 rfl ?_
  refine mG.bipush (v := 7) dX9_beginOne_26 (by decide) ?_
  refine mG.icmp_ne 41 dX9_beginOne_28 (by decide) (fun c3 => ?_) (fun c3 => ?_)
  · replace h := itn c3 h
    refine mG.sub (lv2 := [(0, .ref (t)), (1, .int (q1))]) [1, 0] rfl ?_
    exact hK41 S q1  h
  · replace h := itp c3 h
    refine mG.aload_n 1 dX9_beginOne_31 rfl ?_
    refine mG.get (v := .int (S.1 t 14)) dX9_beginOne_32 mfX9_191 ht rfl ?_
    refine mG.iconst (v := 2) dX9_beginOne_35 rfl ?_
    refine mG.icmp_ne 41 dX9_beginOne_36 (by decide) (fun c2 => ?_) (fun c2 => ?_)
    · replace h := itn c2 h
      refine mG.sub (lv2 := [(0, .ref (t)), (1, .int (q1))]) [1, 0] rfl ?_
      exact hK41 S q1  h
    · replace h := itp c2 h
      refine mG.iconst (v := 5) dX9_beginOne_39 rfl ?_
      obtain rfl := Option.some.inj h
      exact mG.iret dX9_beginOne_40 rfl ⟨rfl, rfl, rfl⟩
def lX9_beginOne_41 (F : Nat) (K53 : mS → Int32 → Option (mS × Int32)) (t : Nat) (S : mS) (v1 : Int32) : Option (mS × Int32) := if (S.1 t 9) = (1 : Int32) then (K53 S v1) else (if v1 < 0 then (if (S.1 t 9) = (40 : Int32) then (bd (f_X9_opened F S t (40 : Int32)) fun q9 => some (q9.1, q9.2)) else (if (S.1 t 9) = (45 : Int32) then (bd (f_X9_opened F S t (2 : Int32)) fun q7 => some (q7.1, q7.2)) else (if (f_X9_isWord S t (f_X9_w5 S (100 : Int32) (105 : Int32) (103 : Int32) (105 : Int32) (116 : Int32))) = true then (bd (f_X9_opened F S t (41 : Int32)) fun q5 => some (q5.1, q5.2)) else (if (f_X9_isWord S t (f_X9_w3 S (110 : Int32) (111 : Int32) (116 : Int32))) = true then (bd (f_X9_isAskAhead F S t) fun q1 => if q1 = true then (bd (f_X9_opened F S t (20 : Int32)) fun q2 => some (q2.1, q2.2)) else (some (S, (1 : Int32)))) else (some (S, (1 : Int32))))))) else (K53 S v1))
set_option maxHeartbeats 4000000 in
set_option maxRecDepth 100000 in
theorem gX9_beginOne_41 {x : mX} {F : Nat} {t : Nat} {K53 : mS → Int32 → Option (mS × Int32)} {R : mS × Int32} (ht : kd0 t = 9) (hK53 : ∀ (S : mS) (v1 : Int32) , K53 S v1 = some R → mG x μX9_beginOne 7 0 0 (mQe R.1 (some (.int R.2))) 0 0 E0 S 53 [(0, .ref (t)), (1, .int (v1))] []) (S : mS) (v1 : Int32)  (h : lX9_beginOne_41 F K53 t S v1 = some R) : mG x μX9_beginOne 7 0 0 (mQe R.1 (some (.int R.2))) 0 0 E0 S 41 [(0, .ref (t)), (1, .int (v1))] [] := by
  unfold lX9_beginOne_41 at h
  refine mG.aload_n 0 dX9_beginOne_41 rfl ?_
  refine mG.get (v := .int (S.1 t 9)) dX9_beginOne_42 mfX9_108 ht rfl ?_
  refine mG.iconst (v := 1) dX9_beginOne_45 rfl ?_
  refine mG.icmp_eq 53 dX9_beginOne_46 (by decide) (fun c12 => ?_) (fun c12 => ?_)
  · replace h := itp c12 h
    refine mG.sub (lv2 := [(0, .ref (t)), (1, .int (v1))]) [0, 1] rfl ?_
    exact hK53 S v1  h
  · replace h := itn c12 h
    refine mG.iload_n 1 dX9_beginOne_49 rfl ?_
    refine mG.if_lt 95 dX9_beginOne_50 (by decide) (fun c11 => ?_) (fun c11 => ?_)
    · replace h := itp c11 h
      refine mG.aload_n 0 dX9_beginOne_95 rfl ?_
      refine mG.get (v := .int (S.1 t 9)) dX9_beginOne_96 mfX9_108 ht rfl ?_
      refine mG.bipush (v := 40) dX9_beginOne_99 (by decide) ?_
      refine mG.icmp_ne 111 dX9_beginOne_101 (by decide) (fun c10 => ?_) (fun c10 => ?_)
      · replace h := itn c10 h
        refine mG.aload_n 0 dX9_beginOne_111 rfl ?_
        refine mG.get (v := .int (S.1 t 9)) dX9_beginOne_112 mfX9_108 ht rfl ?_
        refine mG.bipush (v := 45) dX9_beginOne_115 (by decide) ?_
        refine mG.icmp_ne 126 dX9_beginOne_117 (by decide) (fun c8 => ?_) (fun c8 => ?_)
        · replace h := itn c8 h
          refine mG.aload_n 0 dX9_beginOne_126 rfl ?_
          refine mG.bipush (v := 100) dX9_beginOne_127 (by decide) ?_
          refine mG.bipush (v := 105) dX9_beginOne_129 (by decide) ?_
          refine mG.bipush (v := 103) dX9_beginOne_131 (by decide) ?_
          refine mG.bipush (v := 105) dX9_beginOne_133 (by decide) ?_
          refine mG.bipush (v := 116) dX9_beginOne_135 (by decide) ?_
          refine mG.callS0 (as := [.int 100, .int 105, .int 103, .int 105, .int 116]) (st := [.ref (t)]) (S2 := S) (r := some (.long (f_X9_w5 S (100 : Int32) (105 : Int32) (103 : Int32) (105 : Int32) (116 : Int32)))) dX9_beginOne_137 mbX9_w5 wk21_17 wk21_16 rfl rfl (by decide) (Nat.le_of_ble_eq_true rfl) (c_X9_w5  rfl) ?_
          refine mG.callV0 (as := [.long (f_X9_w5 S (100 : Int32) (105 : Int32) (103 : Int32) (105 : Int32) (116 : Int32))]) (st := []) (S2 := S) (r := some (.int (bI (f_X9_isWord S t (f_X9_w5 S (100 : Int32) (105 : Int32) (103 : Int32) (105 : Int32) (116 : Int32)))))) dX9_beginOne_140 mvX9_isWord wk22_4 rfl ht rfl (by decide) (Nat.le_of_ble_eq_true rfl) (c_X9_isWord ht rfl) ?_
          refine mG.ifz_eq (b := f_X9_isWord S t (f_X9_w5 S (100 : Int32) (105 : Int32) (103 : Int32) (105 : Int32) (116 : Int32))) 153 dX9_beginOne_143 (by decide) (fun c6 => ?_) (fun c6 => ?_)
          · replace h := itn c6 h
            refine mG.aload_n 0 dX9_beginOne_153 rfl ?_
            refine mG.bipush (v := 110) dX9_beginOne_154 (by decide) ?_
            refine mG.bipush (v := 111) dX9_beginOne_156 (by decide) ?_
            refine mG.bipush (v := 116) dX9_beginOne_158 (by decide) ?_
            refine mG.callS0 (as := [.int 110, .int 111, .int 116]) (st := [.ref (t)]) (S2 := S) (r := some (.long (f_X9_w3 S (110 : Int32) (111 : Int32) (116 : Int32)))) dX9_beginOne_160 mbX9_w3 wk21_23 wk21_22 rfl rfl (by decide) (Nat.le_of_ble_eq_true rfl) (c_X9_w3  rfl) ?_
            refine mG.callV0 (as := [.long (f_X9_w3 S (110 : Int32) (111 : Int32) (116 : Int32))]) (st := []) (S2 := S) (r := some (.int (bI (f_X9_isWord S t (f_X9_w3 S (110 : Int32) (111 : Int32) (116 : Int32)))))) dX9_beginOne_163 mvX9_isWord wk22_4 rfl ht rfl (by decide) (Nat.le_of_ble_eq_true rfl) (c_X9_isWord ht rfl) ?_
            refine mG.ifz_eq (b := f_X9_isWord S t (f_X9_w3 S (110 : Int32) (111 : Int32) (116 : Int32))) 185 dX9_beginOne_166 (by decide) (fun c4 => ?_) (fun c4 => ?_)
            · replace h := itn c4 h
              refine mG.iconst (v := 1) dX9_beginOne_185 rfl ?_
              obtain rfl := Option.some.inj h
              exact mG.iret dX9_beginOne_186 rfl ⟨rfl, rfl, rfl⟩
            · replace h := itp c4 h
              refine mG.aload_n 0 dX9_beginOne_169 rfl ?_
              obtain ⟨q1, hq1, h⟩ := bdp h
              refine mG.callV0 (as := []) (st := []) (S2 := S) (r := some (.int (bI (q1)))) dX9_beginOne_170 mvX9_isAskAhead wk26_1 rfl ht rfl (by decide) (Nat.le_of_ble_eq_true rfl) (c_X9_isAskAhead ht hq1) ?_
              refine mG.ifz_eq (b := q1) 185 dX9_beginOne_173 (by decide) (fun c3 => ?_) (fun c3 => ?_)
              · replace h := itn c3 h
                refine mG.iconst (v := 1) dX9_beginOne_185 rfl ?_
                obtain rfl := Option.some.inj h
                exact mG.iret dX9_beginOne_186 rfl ⟨rfl, rfl, rfl⟩
              · replace h := itp c3 h
                refine mG.aload_n 0 dX9_beginOne_176 rfl ?_
                refine mG.bipush (v := 20) dX9_beginOne_177 (by decide) ?_
                obtain ⟨q2, hq2, h⟩ := bdp h
                refine mG.callV0 (as := [.int 20]) (st := []) (S2 := q2.1) (r := some (.int (q2.2))) dX9_beginOne_179 mvX9_opened wk25_21 rfl ht rfl (by decide) (Nat.le_of_ble_eq_true rfl) (c_X9_opened ht hq2) ?_
                refine mG.goto 186 dX9_beginOne_182 (by decide) ?_
                obtain rfl := Option.some.inj h
                exact mG.iret dX9_beginOne_186 rfl ⟨rfl, rfl, rfl⟩
          · replace h := itp c6 h
            refine mG.aload_n 0 dX9_beginOne_146 rfl ?_
            refine mG.bipush (v := 41) dX9_beginOne_147 (by decide) ?_
            obtain ⟨q5, hq5, h⟩ := bdp h
            refine mG.callV0 (as := [.int 41]) (st := []) (S2 := q5.1) (r := some (.int (q5.2))) dX9_beginOne_149 mvX9_opened wk25_21 rfl ht rfl (by decide) (Nat.le_of_ble_eq_true rfl) (c_X9_opened ht hq5) ?_
            obtain rfl := Option.some.inj h
            exact mG.iret dX9_beginOne_152 rfl ⟨rfl, rfl, rfl⟩
        · replace h := itp c8 h
          refine mG.aload_n 0 dX9_beginOne_120 rfl ?_
          refine mG.iconst (v := 2) dX9_beginOne_121 rfl ?_
          obtain ⟨q7, hq7, h⟩ := bdp h
          refine mG.callV0 (as := [.int 2]) (st := []) (S2 := q7.1) (r := some (.int (q7.2))) dX9_beginOne_122 mvX9_opened wk25_21 rfl ht rfl (by decide) (Nat.le_of_ble_eq_true rfl) (c_X9_opened ht hq7) ?_
          obtain rfl := Option.some.inj h
          exact mG.iret dX9_beginOne_125 rfl ⟨rfl, rfl, rfl⟩
      · replace h := itp c10 h
        refine mG.aload_n 0 dX9_beginOne_104 rfl ?_
        refine mG.bipush (v := 40) dX9_beginOne_105 (by decide) ?_
        obtain ⟨q9, hq9, h⟩ := bdp h
        refine mG.callV0 (as := [.int 40]) (st := []) (S2 := q9.1) (r := some (.int (q9.2))) dX9_beginOne_107 mvX9_opened wk25_21 rfl ht rfl (by decide) (Nat.le_of_ble_eq_true rfl) (c_X9_opened ht hq9) ?_
        obtain rfl := Option.some.inj h
        exact mG.iret dX9_beginOne_110 rfl ⟨rfl, rfl, rfl⟩
    · replace h := itn c11 h
      refine mG.sub (lv2 := [(0, .ref (t)), (1, .int (v1))]) [0, 1] rfl ?_
      exact hK53 S v1  h
def lX9_beginOne_53 (F : Nat) (K67 : mS → Int32 → Int32 → Option (mS × Int32)) (t : Nat) (S : mS) (v1 : Int32) : Option (mS × Int32) := if (S.1 t 9) = (1 : Int32) then (K67 S v1 (0 : Int32)) else (K67 S v1 (1 : Int32))
set_option maxHeartbeats 4000000 in
set_option maxRecDepth 100000 in
theorem gX9_beginOne_53 {x : mX} {F : Nat} {t : Nat} {K67 : mS → Int32 → Int32 → Option (mS × Int32)} {R : mS × Int32} (ht : kd0 t = 9) (hK67 : ∀ (S : mS) (v1 : Int32) (s0 : Int32) (ks1 : kd0 (t) = 9), K67 S v1 s0 = some R → mG x μX9_beginOne 7 0 0 (mQe R.1 (some (.int R.2))) 0 0 E0 S 67 [(0, .ref (t)), (1, .int (v1))] [.int (s0), .ref (t)]) (S : mS) (v1 : Int32)  (h : lX9_beginOne_53 F K67 t S v1 = some R) : mG x μX9_beginOne 7 0 0 (mQe R.1 (some (.int R.2))) 0 0 E0 S 53 [(0, .ref (t)), (1, .int (v1))] [] := by
  unfold lX9_beginOne_53 at h
  refine mG.aload_n 0 dX9_beginOne_53 rfl ?_
  refine mG.aload_n 0 dX9_beginOne_54 rfl ?_
  refine mG.get (v := .int (S.1 t 9)) dX9_beginOne_55 mfX9_108 ht rfl ?_
  refine mG.iconst (v := 1) dX9_beginOne_58 rfl ?_
  refine mG.icmp_ne 66 dX9_beginOne_59 (by decide) (fun c1 => ?_) (fun c1 => ?_)
  · replace h := itn c1 h
    refine mG.iconst (v := 1) dX9_beginOne_66 rfl ?_
    refine mG.sub (lv2 := [(0, .ref (t)), (1, .int (v1))]) [0, 1] rfl ?_
    exact hK67 S v1 (1 : Int32) ht h
  · replace h := itp c1 h
    refine mG.iconst (v := 0) dX9_beginOne_62 rfl ?_
    refine mG.goto 67 dX9_beginOne_63 (by decide) ?_
    refine mG.sub (lv2 := [(0, .ref (t)), (1, .int (v1))]) [0, 1] rfl ?_
    exact hK67 S v1 (0 : Int32) ht h
def lX9_beginOne_67 (F : Nat)  (t : Nat) (S : mS) (v1 : Int32) (s0 : Int32) : Option (mS × Int32) := if (S.1 t 9) = (1 : Int32) then (bd (f_X9_emit F S t s0 (S.1 t 10)) fun q4 => bd (f_X9_nextToken F q4 t) fun q5 => bd (f_X9_endOne F q5 t) fun q6 => some (q6.1, q6.2)) else (bd (f_X9_emit F S t s0 v1) fun q1 => bd (f_X9_nextToken F q1 t) fun q2 => bd (f_X9_endOne F q2 t) fun q3 => some (q3.1, q3.2))
set_option maxHeartbeats 4000000 in
set_option maxRecDepth 100000 in
theorem gX9_beginOne_67 {x : mX} {F : Nat} {t : Nat}  {R : mS × Int32} (ht : kd0 t = 9)  (S : mS) (v1 : Int32) (s0 : Int32) (ks1 : kd0 (t) = 9) (h : lX9_beginOne_67 F  t S v1 s0 = some R) : mG x μX9_beginOne 7 0 0 (mQe R.1 (some (.int R.2))) 0 0 E0 S 67 [(0, .ref (t)), (1, .int (v1))] [.int (s0), .ref (t)] := by
  unfold lX9_beginOne_67 at h
  refine mG.aload_n 0 dX9_beginOne_67 rfl ?_
  refine mG.get (v := .int (S.1 t 9)) dX9_beginOne_68 mfX9_108 ht rfl ?_
  refine mG.iconst (v := 1) dX9_beginOne_71 rfl ?_
  refine mG.icmp_ne 82 dX9_beginOne_72 (by decide) (fun c7 => ?_) (fun c7 => ?_)
  · replace h := itn c7 h
    refine mG.iload_n 1 dX9_beginOne_82 rfl ?_
    obtain ⟨q1, hq1, h⟩ := bdp h
    refine mG.callV0 (as := [.int (s0), .int (v1)]) (st := []) (S2 := q1) (r := none) dX9_beginOne_83 mvX9_emit wk25_5 rfl ks1 rfl (by decide) (Nat.le_of_ble_eq_true rfl) (c_X9_emit ks1 hq1) ?_
    refine mG.aload_n 0 dX9_beginOne_86 rfl ?_
    obtain ⟨q2, hq2, h⟩ := bdp h
    refine mG.callV0 (as := []) (st := []) (S2 := q2) (r := none) dX9_beginOne_87 mvX9_nextToken wk20_10 rfl ht rfl (by decide) (Nat.le_of_ble_eq_true rfl) (c_X9_nextToken ht hq2) ?_
    refine mG.aload_n 0 dX9_beginOne_90 rfl ?_
    obtain ⟨q3, hq3, h⟩ := bdp h
    refine mG.callV0 (as := []) (st := []) (S2 := q3.1) (r := some (.int (q3.2))) dX9_beginOne_91 mvX9_endOne wk25_9 rfl ht rfl (by decide) (Nat.le_of_ble_eq_true rfl) (c_X9_endOne ht hq3) ?_
    obtain rfl := Option.some.inj h
    exact mG.iret dX9_beginOne_94 rfl ⟨rfl, rfl, rfl⟩
  · replace h := itp c7 h
    refine mG.aload_n 0 dX9_beginOne_75 rfl ?_
    refine mG.get (v := .int (S.1 t 10)) dX9_beginOne_76 mfX9_114 ht rfl ?_
    refine mG.goto 83 dX9_beginOne_79 (by decide) ?_
    obtain ⟨q4, hq4, h⟩ := bdp h
    refine mG.callV0 (as := [.int (s0), .int (S.1 t 10)]) (st := []) (S2 := q4) (r := none) dX9_beginOne_83 mvX9_emit wk25_5 rfl ks1 rfl (by decide) (Nat.le_of_ble_eq_true rfl) (c_X9_emit ks1 hq4) ?_
    refine mG.aload_n 0 dX9_beginOne_86 rfl ?_
    obtain ⟨q5, hq5, h⟩ := bdp h
    refine mG.callV0 (as := []) (st := []) (S2 := q5) (r := none) dX9_beginOne_87 mvX9_nextToken wk20_10 rfl ht rfl (by decide) (Nat.le_of_ble_eq_true rfl) (c_X9_nextToken ht hq5) ?_
    refine mG.aload_n 0 dX9_beginOne_90 rfl ?_
    obtain ⟨q6, hq6, h⟩ := bdp h
    refine mG.callV0 (as := []) (st := []) (S2 := q6.1) (r := some (.int (q6.2))) dX9_beginOne_91 mvX9_endOne wk25_9 rfl ht rfl (by decide) (Nat.le_of_ble_eq_true rfl) (c_X9_endOne ht hq6) ?_
    obtain rfl := Option.some.inj h
    exact mG.iret dX9_beginOne_94 rfl ⟨rfl, rfl, rfl⟩
def f_X9_beginOne (F : Nat) (S : mS) (t : Nat) : Option (mS × Int32) := if (S.1 t 9) = (1 : Int32) then (if (S.1 t 10) ≤ (9999 : Int32) then (lX9_beginOne_20 F (fun (S : mS) (v1 : Int32) => lX9_beginOne_41 F (fun (S : mS) (v1 : Int32) => lX9_beginOne_53 F (fun (S : mS) (v1 : Int32) (s0 : Int32) => lX9_beginOne_67 F  t S v1 s0) t S v1) t S v1) t S ) else (some (S, (2 : Int32)))) else (lX9_beginOne_20 F (fun (S : mS) (v1 : Int32) => lX9_beginOne_41 F (fun (S : mS) (v1 : Int32) => lX9_beginOne_53 F (fun (S : mS) (v1 : Int32) (s0 : Int32) => lX9_beginOne_67 F  t S v1 s0) t S v1) t S v1) t S )
set_option maxHeartbeats 4000000 in
set_option maxRecDepth 100000 in
theorem c_X9_beginOne {F : Nat} {S : mS} {t : Nat} {R : mS × Int32} (ht : kd0 t = 9) (h : f_X9_beginOne F S t = some R) : mCt μX9_beginOne 7 0 0 E0 S [.ref (t)] (mQe R.1 (some (.int R.2))) := by
  unfold f_X9_beginOne at h
  refine mCt.of (by decide) (Nat.le_of_ble_eq_true rfl) ?_
  intro x
  refine mG.aload_n 0 dX9_beginOne_0 rfl ?_
  refine mG.get (v := .int (S.1 t 9)) dX9_beginOne_1 mfX9_108 ht rfl ?_
  refine mG.iconst (v := 1) dX9_beginOne_4 rfl ?_
  refine mG.icmp_ne 20 dX9_beginOne_5 (by decide) (fun c2 => ?_) (fun c2 => ?_)
  · replace h := itn c2 h
    refine mG.sub (lv2 := [(0, .ref (t))]) [0] rfl ?_
    exact gX9_beginOne_20 ht (fun S v1 h => by exact gX9_beginOne_41 ht (fun S v1 h => by exact gX9_beginOne_53 ht (fun S v1 s0 ks1 h => by exact gX9_beginOne_67 ht   S v1 s0 ks1 h)  S v1  h)  S v1  h)  S   h
  · replace h := itp c2 h
    refine mG.aload_n 0 dX9_beginOne_8 rfl ?_
    refine mG.get (v := .int (S.1 t 10)) dX9_beginOne_9 mfX9_114 ht rfl ?_
    refine mG.sipush (v := 9999) dX9_beginOne_12 (by decide) ?_
    refine mG.icmp_le 20 dX9_beginOne_15 (by decide) (fun c1 => ?_) (fun c1 => ?_)
    · replace h := itp c1 h
      refine mG.sub (lv2 := [(0, .ref (t))]) [0] rfl ?_
      exact gX9_beginOne_20 ht (fun S v1 h => by exact gX9_beginOne_41 ht (fun S v1 h => by exact gX9_beginOne_53 ht (fun S v1 s0 ks1 h => by exact gX9_beginOne_67 ht   S v1 s0 ks1 h)  S v1  h)  S v1  h)  S   h
    · replace h := itn c1 h
      refine mG.iconst (v := 2) dX9_beginOne_18 rfl ?_
      obtain rfl := Option.some.inj h
      exact mG.iret dX9_beginOne_19 rfl ⟨rfl, rfl, rfl⟩
theorem dX9_compareOf_0 : decode cX9_compareOf 0 = .ok (.aload_n 0, 1) := by decide +kernel
theorem dX9_compareOf_1 : decode cX9_compareOf 1 = .ok (.getfield 108, 3) := by decide +kernel
theorem dX9_compareOf_4 : decode cX9_compareOf 4 = .ok (.bipush 60, 2) := by decide +kernel
theorem dX9_compareOf_6 : decode cX9_compareOf 6 = .ok (.if_icmp .ne 8, 3) := by decide +kernel
theorem dX9_compareOf_9 : decode cX9_compareOf 9 = .ok (.bipush 10, 2) := by decide +kernel
theorem dX9_compareOf_11 : decode cX9_compareOf 11 = .ok (.goto 104, 3) := by decide +kernel
theorem dX9_compareOf_14 : decode cX9_compareOf 14 = .ok (.aload_n 0, 1) := by decide +kernel
theorem dX9_compareOf_15 : decode cX9_compareOf 15 = .ok (.getfield 108, 3) := by decide +kernel
theorem dX9_compareOf_18 : decode cX9_compareOf 18 = .ok (.iconst 4, 1) := by decide +kernel
theorem dX9_compareOf_19 : decode cX9_compareOf 19 = .ok (.if_icmp .ne 8, 3) := by decide +kernel
theorem dX9_compareOf_22 : decode cX9_compareOf 22 = .ok (.bipush 11, 2) := by decide +kernel
theorem dX9_compareOf_24 : decode cX9_compareOf 24 = .ok (.goto 91, 3) := by decide +kernel
theorem dX9_compareOf_27 : decode cX9_compareOf 27 = .ok (.aload_n 0, 1) := by decide +kernel
theorem dX9_compareOf_28 : decode cX9_compareOf 28 = .ok (.getfield 108, 3) := by decide +kernel
theorem dX9_compareOf_31 : decode cX9_compareOf 31 = .ok (.bipush 62, 2) := by decide +kernel
theorem dX9_compareOf_33 : decode cX9_compareOf 33 = .ok (.if_icmp .ne 8, 3) := by decide +kernel
theorem dX9_compareOf_36 : decode cX9_compareOf 36 = .ok (.bipush 12, 2) := by decide +kernel
theorem dX9_compareOf_38 : decode cX9_compareOf 38 = .ok (.goto 77, 3) := by decide +kernel
theorem dX9_compareOf_41 : decode cX9_compareOf 41 = .ok (.aload_n 0, 1) := by decide +kernel
theorem dX9_compareOf_42 : decode cX9_compareOf 42 = .ok (.getfield 108, 3) := by decide +kernel
theorem dX9_compareOf_45 : decode cX9_compareOf 45 = .ok (.iconst 5, 1) := by decide +kernel
theorem dX9_compareOf_46 : decode cX9_compareOf 46 = .ok (.if_icmp .ne 8, 3) := by decide +kernel
theorem dX9_compareOf_49 : decode cX9_compareOf 49 = .ok (.bipush 13, 2) := by decide +kernel
theorem dX9_compareOf_51 : decode cX9_compareOf 51 = .ok (.goto 64, 3) := by decide +kernel
theorem dX9_compareOf_54 : decode cX9_compareOf 54 = .ok (.aload_n 0, 1) := by decide +kernel
theorem dX9_compareOf_55 : decode cX9_compareOf 55 = .ok (.getfield 108, 3) := by decide +kernel
theorem dX9_compareOf_58 : decode cX9_compareOf 58 = .ok (.bipush 61, 2) := by decide +kernel
theorem dX9_compareOf_60 : decode cX9_compareOf 60 = .ok (.if_icmp .ne 8, 3) := by decide +kernel
theorem dX9_compareOf_63 : decode cX9_compareOf 63 = .ok (.bipush 14, 2) := by decide +kernel
theorem dX9_compareOf_65 : decode cX9_compareOf 65 = .ok (.goto 50, 3) := by decide +kernel
theorem dX9_compareOf_68 : decode cX9_compareOf 68 = .ok (.aload_n 0, 1) := by decide +kernel
theorem dX9_compareOf_69 : decode cX9_compareOf 69 = .ok (.getfield 108, 3) := by decide +kernel
theorem dX9_compareOf_72 : decode cX9_compareOf 72 = .ok (.bipush 35, 2) := by decide +kernel
theorem dX9_compareOf_74 : decode cX9_compareOf 74 = .ok (.if_icmp .ne 8, 3) := by decide +kernel
theorem dX9_compareOf_77 : decode cX9_compareOf 77 = .ok (.bipush 15, 2) := by decide +kernel
theorem dX9_compareOf_79 : decode cX9_compareOf 79 = .ok (.goto 36, 3) := by decide +kernel
theorem dX9_compareOf_82 : decode cX9_compareOf 82 = .ok (.aload_n 0, 1) := by decide +kernel
theorem dX9_compareOf_83 : decode cX9_compareOf 83 = .ok (.bipush 100, 2) := by decide +kernel
theorem dX9_compareOf_85 : decode cX9_compareOf 85 = .ok (.bipush 105, 2) := by decide +kernel
theorem dX9_compareOf_87 : decode cX9_compareOf 87 = .ok (.bipush 118, 2) := by decide +kernel
theorem dX9_compareOf_89 : decode cX9_compareOf 89 = .ok (.bipush 105, 2) := by decide +kernel
theorem dX9_compareOf_91 : decode cX9_compareOf 91 = .ok (.invokestatic 138, 3) := by decide +kernel
theorem dX9_compareOf_94 : decode cX9_compareOf 94 = .ok (.bipush 100, 2) := by decide +kernel
theorem dX9_compareOf_96 : decode cX9_compareOf 96 = .ok (.bipush 101, 2) := by decide +kernel
theorem dX9_compareOf_98 : decode cX9_compareOf 98 = .ok (.bipush 115, 2) := by decide +kernel
theorem dX9_compareOf_100 : decode cX9_compareOf 100 = .ok (.invokestatic 134, 3) := by decide +kernel
theorem dX9_compareOf_103 : decode cX9_compareOf 103 = .ok (.invokevirtual 152, 3) := by decide +kernel
theorem dX9_compareOf_106 : decode cX9_compareOf 106 = .ok (.ifCond .eq 8, 3) := by decide +kernel
theorem dX9_compareOf_109 : decode cX9_compareOf 109 = .ok (.bipush 16, 2) := by decide +kernel
theorem dX9_compareOf_111 : decode cX9_compareOf 111 = .ok (.goto 4, 3) := by decide +kernel
theorem dX9_compareOf_114 : decode cX9_compareOf 114 = .ok (.iconst (-1), 1) := by decide +kernel
theorem dX9_compareOf_115 : decode cX9_compareOf 115 = .ok (.ireturn, 1) := by decide +kernel
def f_X9_compareOf (F : Nat) (S0 : mS) (t : Nat) : Option Int32 := if (S0.1 t 9) = (60 : Int32) then (some (10 : Int32)) else (if (S0.1 t 9) = (4 : Int32) then (some (11 : Int32)) else (if (S0.1 t 9) = (62 : Int32) then (some (12 : Int32)) else (if (S0.1 t 9) = (5 : Int32) then (some (13 : Int32)) else (if (S0.1 t 9) = (61 : Int32) then (some (14 : Int32)) else (if (S0.1 t 9) = (35 : Int32) then (some (15 : Int32)) else (bd (f_X9_isLong F S0 t (f_X9_w4 S0 (100 : Int32) (105 : Int32) (118 : Int32) (105 : Int32)) (f_X9_w3 S0 (100 : Int32) (101 : Int32) (115 : Int32))) fun q1 => if q1 = true then (some (16 : Int32)) else (some (-1 : Int32))))))))
set_option maxHeartbeats 4000000 in
set_option maxRecDepth 100000 in
theorem c_X9_compareOf {F : Nat} {S0 : mS} {t : Nat} {R : Int32} (ht : kd0 t = 9) (h : f_X9_compareOf F S0 t = some R) : mCt μX9_compareOf 5 0 0 E0 S0 [.ref (t)] (mQe S0 (some (.int R))) := by
  unfold f_X9_compareOf at h
  refine mCt.of (by decide) (Nat.le_of_ble_eq_true rfl) ?_
  intro x
  refine mG.aload_n 0 dX9_compareOf_0 rfl ?_
  refine mG.get (v := .int (S0.1 t 9)) dX9_compareOf_1 mfX9_108 ht rfl ?_
  refine mG.bipush (v := 60) dX9_compareOf_4 (by decide) ?_
  refine mG.icmp_ne 14 dX9_compareOf_6 (by decide) (fun c8 => ?_) (fun c8 => ?_)
  · replace h := itn c8 h
    refine mG.aload_n 0 dX9_compareOf_14 rfl ?_
    refine mG.get (v := .int (S0.1 t 9)) dX9_compareOf_15 mfX9_108 ht rfl ?_
    refine mG.iconst (v := 4) dX9_compareOf_18 rfl ?_
    refine mG.icmp_ne 27 dX9_compareOf_19 (by decide) (fun c7 => ?_) (fun c7 => ?_)
    · replace h := itn c7 h
      refine mG.aload_n 0 dX9_compareOf_27 rfl ?_
      refine mG.get (v := .int (S0.1 t 9)) dX9_compareOf_28 mfX9_108 ht rfl ?_
      refine mG.bipush (v := 62) dX9_compareOf_31 (by decide) ?_
      refine mG.icmp_ne 41 dX9_compareOf_33 (by decide) (fun c6 => ?_) (fun c6 => ?_)
      · replace h := itn c6 h
        refine mG.aload_n 0 dX9_compareOf_41 rfl ?_
        refine mG.get (v := .int (S0.1 t 9)) dX9_compareOf_42 mfX9_108 ht rfl ?_
        refine mG.iconst (v := 5) dX9_compareOf_45 rfl ?_
        refine mG.icmp_ne 54 dX9_compareOf_46 (by decide) (fun c5 => ?_) (fun c5 => ?_)
        · replace h := itn c5 h
          refine mG.aload_n 0 dX9_compareOf_54 rfl ?_
          refine mG.get (v := .int (S0.1 t 9)) dX9_compareOf_55 mfX9_108 ht rfl ?_
          refine mG.bipush (v := 61) dX9_compareOf_58 (by decide) ?_
          refine mG.icmp_ne 68 dX9_compareOf_60 (by decide) (fun c4 => ?_) (fun c4 => ?_)
          · replace h := itn c4 h
            refine mG.aload_n 0 dX9_compareOf_68 rfl ?_
            refine mG.get (v := .int (S0.1 t 9)) dX9_compareOf_69 mfX9_108 ht rfl ?_
            refine mG.bipush (v := 35) dX9_compareOf_72 (by decide) ?_
            refine mG.icmp_ne 82 dX9_compareOf_74 (by decide) (fun c3 => ?_) (fun c3 => ?_)
            · replace h := itn c3 h
              refine mG.aload_n 0 dX9_compareOf_82 rfl ?_
              refine mG.bipush (v := 100) dX9_compareOf_83 (by decide) ?_
              refine mG.bipush (v := 105) dX9_compareOf_85 (by decide) ?_
              refine mG.bipush (v := 118) dX9_compareOf_87 (by decide) ?_
              refine mG.bipush (v := 105) dX9_compareOf_89 (by decide) ?_
              refine mG.callS0 (as := [.int 100, .int 105, .int 118, .int 105]) (st := [.ref (t)]) (S2 := S0) (r := some (.long (f_X9_w4 S0 (100 : Int32) (105 : Int32) (118 : Int32) (105 : Int32)))) dX9_compareOf_91 mbX9_w4 wk21_20 wk21_19 rfl rfl (by decide) (Nat.le_of_ble_eq_true rfl) (c_X9_w4  rfl) ?_
              refine mG.bipush (v := 100) dX9_compareOf_94 (by decide) ?_
              refine mG.bipush (v := 101) dX9_compareOf_96 (by decide) ?_
              refine mG.bipush (v := 115) dX9_compareOf_98 (by decide) ?_
              refine mG.callS0 (as := [.int 100, .int 101, .int 115]) (st := [.long (f_X9_w4 S0 (100 : Int32) (105 : Int32) (118 : Int32) (105 : Int32)), .ref (t)]) (S2 := S0) (r := some (.long (f_X9_w3 S0 (100 : Int32) (101 : Int32) (115 : Int32)))) dX9_compareOf_100 mbX9_w3 wk21_23 wk21_22 rfl rfl (by decide) (Nat.le_of_ble_eq_true rfl) (c_X9_w3  rfl) ?_
              obtain ⟨q1, hq1, h⟩ := bdp h
              refine mG.callV0 (as := [.long (f_X9_w4 S0 (100 : Int32) (105 : Int32) (118 : Int32) (105 : Int32)), .long (f_X9_w3 S0 (100 : Int32) (101 : Int32) (115 : Int32))]) (st := []) (S2 := S0) (r := some (.int (bI (q1)))) dX9_compareOf_103 mvX9_isLong wk23_10 rfl ht rfl (by decide) (Nat.le_of_ble_eq_true rfl) (c_X9_isLong ht hq1) ?_
              refine mG.ifz_eq (b := q1) 114 dX9_compareOf_106 (by decide) (fun c2 => ?_) (fun c2 => ?_)
              · replace h := itn c2 h
                refine mG.iconst (v := (-1)) dX9_compareOf_114 rfl ?_
                obtain rfl := Option.some.inj h
                exact mG.iret dX9_compareOf_115 rfl ⟨rfl, rfl, rfl⟩
              · replace h := itp c2 h
                refine mG.bipush (v := 16) dX9_compareOf_109 (by decide) ?_
                refine mG.goto 115 dX9_compareOf_111 (by decide) ?_
                obtain rfl := Option.some.inj h
                exact mG.iret dX9_compareOf_115 rfl ⟨rfl, rfl, rfl⟩
            · replace h := itp c3 h
              refine mG.bipush (v := 15) dX9_compareOf_77 (by decide) ?_
              refine mG.goto 115 dX9_compareOf_79 (by decide) ?_
              obtain rfl := Option.some.inj h
              exact mG.iret dX9_compareOf_115 rfl ⟨rfl, rfl, rfl⟩
          · replace h := itp c4 h
            refine mG.bipush (v := 14) dX9_compareOf_63 (by decide) ?_
            refine mG.goto 115 dX9_compareOf_65 (by decide) ?_
            obtain rfl := Option.some.inj h
            exact mG.iret dX9_compareOf_115 rfl ⟨rfl, rfl, rfl⟩
        · replace h := itp c5 h
          refine mG.bipush (v := 13) dX9_compareOf_49 (by decide) ?_
          refine mG.goto 115 dX9_compareOf_51 (by decide) ?_
          obtain rfl := Option.some.inj h
          exact mG.iret dX9_compareOf_115 rfl ⟨rfl, rfl, rfl⟩
      · replace h := itp c6 h
        refine mG.bipush (v := 12) dX9_compareOf_36 (by decide) ?_
        refine mG.goto 115 dX9_compareOf_38 (by decide) ?_
        obtain rfl := Option.some.inj h
        exact mG.iret dX9_compareOf_115 rfl ⟨rfl, rfl, rfl⟩
    · replace h := itp c7 h
      refine mG.bipush (v := 11) dX9_compareOf_22 (by decide) ?_
      refine mG.goto 115 dX9_compareOf_24 (by decide) ?_
      obtain rfl := Option.some.inj h
      exact mG.iret dX9_compareOf_115 rfl ⟨rfl, rfl, rfl⟩
  · replace h := itp c8 h
    refine mG.bipush (v := 10) dX9_compareOf_9 (by decide) ?_
    refine mG.goto 115 dX9_compareOf_11 (by decide) ?_
    obtain rfl := Option.some.inj h
    exact mG.iret dX9_compareOf_115 rfl ⟨rfl, rfl, rfl⟩
theorem dX9_betweenOf_0 : decode cX9_betweenOf 0 = .ok (.aload_n 0, 1) := by decide +kernel
theorem dX9_betweenOf_1 : decode cX9_betweenOf 1 = .ok (.getfield 108, 3) := by decide +kernel
theorem dX9_betweenOf_4 : decode cX9_betweenOf 4 = .ok (.bipush 43, 2) := by decide +kernel
theorem dX9_betweenOf_6 : decode cX9_betweenOf 6 = .ok (.if_icmp .ne 5, 3) := by decide +kernel
theorem dX9_betweenOf_9 : decode cX9_betweenOf 9 = .ok (.iconst 3, 1) := by decide +kernel
theorem dX9_betweenOf_10 : decode cX9_betweenOf 10 = .ok (.ireturn, 1) := by decide +kernel
theorem dX9_betweenOf_11 : decode cX9_betweenOf 11 = .ok (.aload_n 0, 1) := by decide +kernel
theorem dX9_betweenOf_12 : decode cX9_betweenOf 12 = .ok (.getfield 108, 3) := by decide +kernel
theorem dX9_betweenOf_15 : decode cX9_betweenOf 15 = .ok (.bipush 45, 2) := by decide +kernel
theorem dX9_betweenOf_17 : decode cX9_betweenOf 17 = .ok (.if_icmp .ne 5, 3) := by decide +kernel
theorem dX9_betweenOf_20 : decode cX9_betweenOf 20 = .ok (.iconst 4, 1) := by decide +kernel
theorem dX9_betweenOf_21 : decode cX9_betweenOf 21 = .ok (.ireturn, 1) := by decide +kernel
theorem dX9_betweenOf_22 : decode cX9_betweenOf 22 = .ok (.aload_n 0, 1) := by decide +kernel
theorem dX9_betweenOf_23 : decode cX9_betweenOf 23 = .ok (.getfield 108, 3) := by decide +kernel
theorem dX9_betweenOf_26 : decode cX9_betweenOf 26 = .ok (.bipush 42, 2) := by decide +kernel
theorem dX9_betweenOf_28 : decode cX9_betweenOf 28 = .ok (.if_icmp .ne 5, 3) := by decide +kernel
theorem dX9_betweenOf_31 : decode cX9_betweenOf 31 = .ok (.iconst 5, 1) := by decide +kernel
theorem dX9_betweenOf_32 : decode cX9_betweenOf 32 = .ok (.ireturn, 1) := by decide +kernel
theorem dX9_betweenOf_33 : decode cX9_betweenOf 33 = .ok (.aload_n 0, 1) := by decide +kernel
theorem dX9_betweenOf_34 : decode cX9_betweenOf 34 = .ok (.getfield 108, 3) := by decide +kernel
theorem dX9_betweenOf_37 : decode cX9_betweenOf 37 = .ok (.bipush 47, 2) := by decide +kernel
theorem dX9_betweenOf_39 : decode cX9_betweenOf 39 = .ok (.if_icmp .ne 6, 3) := by decide +kernel
theorem dX9_betweenOf_42 : decode cX9_betweenOf 42 = .ok (.bipush 6, 2) := by decide +kernel
theorem dX9_betweenOf_44 : decode cX9_betweenOf 44 = .ok (.ireturn, 1) := by decide +kernel
theorem dX9_betweenOf_45 : decode cX9_betweenOf 45 = .ok (.aload_n 0, 1) := by decide +kernel
theorem dX9_betweenOf_46 : decode cX9_betweenOf 46 = .ok (.getfield 177, 3) := by decide +kernel
theorem dX9_betweenOf_49 : decode cX9_betweenOf 49 = .ok (.ifCond .eq 10, 3) := by decide +kernel
theorem dX9_betweenOf_52 : decode cX9_betweenOf 52 = .ok (.aload_n 0, 1) := by decide +kernel
theorem dX9_betweenOf_53 : decode cX9_betweenOf 53 = .ok (.invokevirtual 181, 3) := by decide +kernel
theorem dX9_betweenOf_56 : decode cX9_betweenOf 56 = .ok (.ifCond .eq 5, 3) := by decide +kernel
theorem dX9_betweenOf_59 : decode cX9_betweenOf 59 = .ok (.iconst (-1), 1) := by decide +kernel
theorem dX9_betweenOf_60 : decode cX9_betweenOf 60 = .ok (.ireturn, 1) := by decide +kernel
theorem dX9_betweenOf_61 : decode cX9_betweenOf 61 = .ok (.aload_n 0, 1) := by decide +kernel
theorem dX9_betweenOf_62 : decode cX9_betweenOf 62 = .ok (.invokevirtual 213, 3) := by decide +kernel
theorem dX9_betweenOf_65 : decode cX9_betweenOf 65 = .ok (.ifCond .ne 8, 3) := by decide +kernel
theorem dX9_betweenOf_68 : decode cX9_betweenOf 68 = .ok (.aload_n 0, 1) := by decide +kernel
theorem dX9_betweenOf_69 : decode cX9_betweenOf 69 = .ok (.invokevirtual 216, 3) := by decide +kernel
theorem dX9_betweenOf_72 : decode cX9_betweenOf 72 = .ok (.ireturn, 1) := by decide +kernel
theorem dX9_betweenOf_73 : decode cX9_betweenOf 73 = .ok (.aload_n 0, 1) := by decide +kernel
theorem dX9_betweenOf_74 : decode cX9_betweenOf 74 = .ok (.bipush 97, 2) := by decide +kernel
theorem dX9_betweenOf_76 : decode cX9_betweenOf 76 = .ok (.bipush 110, 2) := by decide +kernel
theorem dX9_betweenOf_78 : decode cX9_betweenOf 78 = .ok (.bipush 100, 2) := by decide +kernel
theorem dX9_betweenOf_80 : decode cX9_betweenOf 80 = .ok (.invokestatic 134, 3) := by decide +kernel
theorem dX9_betweenOf_83 : decode cX9_betweenOf 83 = .ok (.invokevirtual 200, 3) := by decide +kernel
theorem dX9_betweenOf_86 : decode cX9_betweenOf 86 = .ok (.ifCond .eq 8, 3) := by decide +kernel
theorem dX9_betweenOf_89 : decode cX9_betweenOf 89 = .ok (.bipush 21, 2) := by decide +kernel
theorem dX9_betweenOf_91 : decode cX9_betweenOf 91 = .ok (.goto 23, 3) := by decide +kernel
theorem dX9_betweenOf_94 : decode cX9_betweenOf 94 = .ok (.aload_n 0, 1) := by decide +kernel
theorem dX9_betweenOf_95 : decode cX9_betweenOf 95 = .ok (.bipush 111, 2) := by decide +kernel
theorem dX9_betweenOf_97 : decode cX9_betweenOf 97 = .ok (.bipush 114, 2) := by decide +kernel
theorem dX9_betweenOf_99 : decode cX9_betweenOf 99 = .ok (.invokestatic 130, 3) := by decide +kernel
theorem dX9_betweenOf_102 : decode cX9_betweenOf 102 = .ok (.invokevirtual 200, 3) := by decide +kernel
theorem dX9_betweenOf_105 : decode cX9_betweenOf 105 = .ok (.ifCond .eq 8, 3) := by decide +kernel
theorem dX9_betweenOf_108 : decode cX9_betweenOf 108 = .ok (.bipush 22, 2) := by decide +kernel
theorem dX9_betweenOf_110 : decode cX9_betweenOf 110 = .ok (.goto 4, 3) := by decide +kernel
theorem dX9_betweenOf_113 : decode cX9_betweenOf 113 = .ok (.iconst (-1), 1) := by decide +kernel
theorem dX9_betweenOf_114 : decode cX9_betweenOf 114 = .ok (.ireturn, 1) := by decide +kernel
def f_X9_betweenOf (F : Nat) (S0 : mS) (t : Nat) : Option Int32 := if (S0.1 t 9) = (43 : Int32) then (some (3 : Int32)) else (if (S0.1 t 9) = (45 : Int32) then (some (4 : Int32)) else (if (S0.1 t 9) = (42 : Int32) then (some (5 : Int32)) else (if (S0.1 t 9) = (47 : Int32) then (some (6 : Int32)) else (if (S0.1 t 19) = 0 then (some (-1 : Int32)) else (bd (f_X9_isShut F S0 t) fun q1 => if q1 = true then (some (-1 : Int32)) else (bd (f_X9_isCompared F S0 t) fun q2 => if q2 = true then (if (f_X9_isWord S0 t (f_X9_w3 S0 (97 : Int32) (110 : Int32) (100 : Int32))) = true then (some (21 : Int32)) else (if (f_X9_isWord S0 t (f_X9_w2 S0 (111 : Int32) (114 : Int32))) = true then (some (22 : Int32)) else (some (-1 : Int32)))) else (bd (f_X9_compareOf F S0 t) fun q5 => some q5)))))))
set_option maxHeartbeats 4000000 in
set_option maxRecDepth 100000 in
theorem c_X9_betweenOf {F : Nat} {S0 : mS} {t : Nat} {R : Int32} (ht : kd0 t = 9) (h : f_X9_betweenOf F S0 t = some R) : mCt μX9_betweenOf 6 0 0 E0 S0 [.ref (t)] (mQe S0 (some (.int R))) := by
  unfold f_X9_betweenOf at h
  refine mCt.of (by decide) (Nat.le_of_ble_eq_true rfl) ?_
  intro x
  refine mG.aload_n 0 dX9_betweenOf_0 rfl ?_
  refine mG.get (v := .int (S0.1 t 9)) dX9_betweenOf_1 mfX9_108 ht rfl ?_
  refine mG.bipush (v := 43) dX9_betweenOf_4 (by decide) ?_
  refine mG.icmp_ne 11 dX9_betweenOf_6 (by decide) (fun c12 => ?_) (fun c12 => ?_)
  · replace h := itn c12 h
    refine mG.aload_n 0 dX9_betweenOf_11 rfl ?_
    refine mG.get (v := .int (S0.1 t 9)) dX9_betweenOf_12 mfX9_108 ht rfl ?_
    refine mG.bipush (v := 45) dX9_betweenOf_15 (by decide) ?_
    refine mG.icmp_ne 22 dX9_betweenOf_17 (by decide) (fun c11 => ?_) (fun c11 => ?_)
    · replace h := itn c11 h
      refine mG.aload_n 0 dX9_betweenOf_22 rfl ?_
      refine mG.get (v := .int (S0.1 t 9)) dX9_betweenOf_23 mfX9_108 ht rfl ?_
      refine mG.bipush (v := 42) dX9_betweenOf_26 (by decide) ?_
      refine mG.icmp_ne 33 dX9_betweenOf_28 (by decide) (fun c10 => ?_) (fun c10 => ?_)
      · replace h := itn c10 h
        refine mG.aload_n 0 dX9_betweenOf_33 rfl ?_
        refine mG.get (v := .int (S0.1 t 9)) dX9_betweenOf_34 mfX9_108 ht rfl ?_
        refine mG.bipush (v := 47) dX9_betweenOf_37 (by decide) ?_
        refine mG.icmp_ne 45 dX9_betweenOf_39 (by decide) (fun c9 => ?_) (fun c9 => ?_)
        · replace h := itn c9 h
          refine mG.aload_n 0 dX9_betweenOf_45 rfl ?_
          refine mG.get (v := .int (S0.1 t 19)) dX9_betweenOf_46 mfX9_177 ht rfl ?_
          refine mG.if_eq 59 dX9_betweenOf_49 (by decide) (fun c8 => ?_) (fun c8 => ?_)
          · replace h := itp c8 h
            refine mG.iconst (v := (-1)) dX9_betweenOf_59 rfl ?_
            obtain rfl := Option.some.inj h
            exact mG.iret dX9_betweenOf_60 rfl ⟨rfl, rfl, rfl⟩
          · replace h := itn c8 h
            refine mG.aload_n 0 dX9_betweenOf_52 rfl ?_
            obtain ⟨q1, hq1, h⟩ := bdp h
            refine mG.callV0 (as := []) (st := []) (S2 := S0) (r := some (.int (bI (q1)))) dX9_betweenOf_53 mvX9_isShut wk24_10 rfl ht rfl (by decide) (Nat.le_of_ble_eq_true rfl) (c_X9_isShut ht hq1) ?_
            refine mG.ifz_eq (b := q1) 61 dX9_betweenOf_56 (by decide) (fun c7 => ?_) (fun c7 => ?_)
            · replace h := itn c7 h
              refine mG.aload_n 0 dX9_betweenOf_61 rfl ?_
              obtain ⟨q2, hq2, h⟩ := bdp h
              refine mG.callV0 (as := []) (st := []) (S2 := S0) (r := some (.int (bI (q2)))) dX9_betweenOf_62 mvX9_isCompared wk24_14 rfl ht rfl (by decide) (Nat.le_of_ble_eq_true rfl) (c_X9_isCompared ht hq2) ?_
              refine mG.ifz_ne (b := q2) 73 dX9_betweenOf_65 (by decide) (fun c6 => ?_) (fun c6 => ?_)
              · replace h := itp c6 h
                refine mG.aload_n 0 dX9_betweenOf_73 rfl ?_
                refine mG.bipush (v := 97) dX9_betweenOf_74 (by decide) ?_
                refine mG.bipush (v := 110) dX9_betweenOf_76 (by decide) ?_
                refine mG.bipush (v := 100) dX9_betweenOf_78 (by decide) ?_
                refine mG.callS0 (as := [.int 97, .int 110, .int 100]) (st := [.ref (t)]) (S2 := S0) (r := some (.long (f_X9_w3 S0 (97 : Int32) (110 : Int32) (100 : Int32)))) dX9_betweenOf_80 mbX9_w3 wk21_23 wk21_22 rfl rfl (by decide) (Nat.le_of_ble_eq_true rfl) (c_X9_w3  rfl) ?_
                refine mG.callV0 (as := [.long (f_X9_w3 S0 (97 : Int32) (110 : Int32) (100 : Int32))]) (st := []) (S2 := S0) (r := some (.int (bI (f_X9_isWord S0 t (f_X9_w3 S0 (97 : Int32) (110 : Int32) (100 : Int32)))))) dX9_betweenOf_83 mvX9_isWord wk22_4 rfl ht rfl (by decide) (Nat.le_of_ble_eq_true rfl) (c_X9_isWord ht rfl) ?_
                refine mG.ifz_eq (b := f_X9_isWord S0 t (f_X9_w3 S0 (97 : Int32) (110 : Int32) (100 : Int32))) 94 dX9_betweenOf_86 (by decide) (fun c4 => ?_) (fun c4 => ?_)
                · replace h := itn c4 h
                  refine mG.aload_n 0 dX9_betweenOf_94 rfl ?_
                  refine mG.bipush (v := 111) dX9_betweenOf_95 (by decide) ?_
                  refine mG.bipush (v := 114) dX9_betweenOf_97 (by decide) ?_
                  refine mG.callS0 (as := [.int 111, .int 114]) (st := [.ref (t)]) (S2 := S0) (r := some (.long (f_X9_w2 S0 (111 : Int32) (114 : Int32)))) dX9_betweenOf_99 mbX9_w2 wk22_2 wk22_1 rfl rfl (by decide) (Nat.le_of_ble_eq_true rfl) (c_X9_w2  rfl) ?_
                  refine mG.callV0 (as := [.long (f_X9_w2 S0 (111 : Int32) (114 : Int32))]) (st := []) (S2 := S0) (r := some (.int (bI (f_X9_isWord S0 t (f_X9_w2 S0 (111 : Int32) (114 : Int32)))))) dX9_betweenOf_102 mvX9_isWord wk22_4 rfl ht rfl (by decide) (Nat.le_of_ble_eq_true rfl) (c_X9_isWord ht rfl) ?_
                  refine mG.ifz_eq (b := f_X9_isWord S0 t (f_X9_w2 S0 (111 : Int32) (114 : Int32))) 113 dX9_betweenOf_105 (by decide) (fun c3 => ?_) (fun c3 => ?_)
                  · replace h := itn c3 h
                    refine mG.iconst (v := (-1)) dX9_betweenOf_113 rfl ?_
                    obtain rfl := Option.some.inj h
                    exact mG.iret dX9_betweenOf_114 rfl ⟨rfl, rfl, rfl⟩
                  · replace h := itp c3 h
                    refine mG.bipush (v := 22) dX9_betweenOf_108 (by decide) ?_
                    refine mG.goto 114 dX9_betweenOf_110 (by decide) ?_
                    obtain rfl := Option.some.inj h
                    exact mG.iret dX9_betweenOf_114 rfl ⟨rfl, rfl, rfl⟩
                · replace h := itp c4 h
                  refine mG.bipush (v := 21) dX9_betweenOf_89 (by decide) ?_
                  refine mG.goto 114 dX9_betweenOf_91 (by decide) ?_
                  obtain rfl := Option.some.inj h
                  exact mG.iret dX9_betweenOf_114 rfl ⟨rfl, rfl, rfl⟩
              · replace h := itn c6 h
                refine mG.aload_n 0 dX9_betweenOf_68 rfl ?_
                obtain ⟨q5, hq5, h⟩ := bdp h
                refine mG.callV0 (as := []) (st := []) (S2 := S0) (r := some (.int (q5))) dX9_betweenOf_69 mvX9_compareOf wk24_21 rfl ht rfl (by decide) (Nat.le_of_ble_eq_true rfl) (c_X9_compareOf ht hq5) ?_
                obtain rfl := Option.some.inj h
                exact mG.iret dX9_betweenOf_72 rfl ⟨rfl, rfl, rfl⟩
            · replace h := itp c7 h
              refine mG.iconst (v := (-1)) dX9_betweenOf_59 rfl ?_
              obtain rfl := Option.some.inj h
              exact mG.iret dX9_betweenOf_60 rfl ⟨rfl, rfl, rfl⟩
        · replace h := itp c9 h
          refine mG.bipush (v := 6) dX9_betweenOf_42 (by decide) ?_
          obtain rfl := Option.some.inj h
          exact mG.iret dX9_betweenOf_44 rfl ⟨rfl, rfl, rfl⟩
      · replace h := itp c10 h
        refine mG.iconst (v := 5) dX9_betweenOf_31 rfl ?_
        obtain rfl := Option.some.inj h
        exact mG.iret dX9_betweenOf_32 rfl ⟨rfl, rfl, rfl⟩
    · replace h := itp c11 h
      refine mG.iconst (v := 4) dX9_betweenOf_20 rfl ?_
      obtain rfl := Option.some.inj h
      exact mG.iret dX9_betweenOf_21 rfl ⟨rfl, rfl, rfl⟩
  · replace h := itp c12 h
    refine mG.iconst (v := 3) dX9_betweenOf_9 rfl ?_
    obtain rfl := Option.some.inj h
    exact mG.iret dX9_betweenOf_10 rfl ⟨rfl, rfl, rfl⟩
theorem dX9_behindOne_0 : decode cX9_behindOne 0 = .ok (.aload_n 0, 1) := by decide +kernel
theorem dX9_behindOne_1 : decode cX9_behindOne 1 = .ok (.invokevirtual 219, 3) := by decide +kernel
theorem dX9_behindOne_4 : decode cX9_behindOne 4 = .ok (.istore_n 1, 1) := by decide +kernel
theorem dX9_behindOne_5 : decode cX9_behindOne 5 = .ok (.iload_n 1, 1) := by decide +kernel
theorem dX9_behindOne_6 : decode cX9_behindOne 6 = .ok (.ifCond .lt 54, 3) := by decide +kernel
theorem dX9_behindOne_9 : decode cX9_behindOne 9 = .ok (.aload_n 0, 1) := by decide +kernel
theorem dX9_behindOne_10 : decode cX9_behindOne 10 = .ok (.iload_n 1, 1) := by decide +kernel
theorem dX9_behindOne_11 : decode cX9_behindOne 11 = .ok (.invokestatic 167, 3) := by decide +kernel
theorem dX9_behindOne_14 : decode cX9_behindOne 14 = .ok (.iconst 4, 1) := by decide +kernel
theorem dX9_behindOne_15 : decode cX9_behindOne 15 = .ok (.if_icmp .ne 7, 3) := by decide +kernel
theorem dX9_behindOne_18 : decode cX9_behindOne 18 = .ok (.iconst 5, 1) := by decide +kernel
theorem dX9_behindOne_19 : decode cX9_behindOne 19 = .ok (.goto 7, 3) := by decide +kernel
theorem dX9_behindOne_22 : decode cX9_behindOne 22 = .ok (.iload_n 1, 1) := by decide +kernel
theorem dX9_behindOne_23 : decode cX9_behindOne 23 = .ok (.invokestatic 167, 3) := by decide +kernel
theorem dX9_behindOne_26 : decode cX9_behindOne 26 = .ok (.invokevirtual 207, 3) := by decide +kernel
theorem dX9_behindOne_29 : decode cX9_behindOne 29 = .ok (.aload_n 0, 1) := by decide +kernel
theorem dX9_behindOne_30 : decode cX9_behindOne 30 = .ok (.getfield 29, 3) := by decide +kernel
theorem dX9_behindOne_33 : decode cX9_behindOne 33 = .ok (.aload_n 0, 1) := by decide +kernel
theorem dX9_behindOne_34 : decode cX9_behindOne 34 = .ok (.getfield 164, 3) := by decide +kernel
theorem dX9_behindOne_37 : decode cX9_behindOne 37 = .ok (.iload_n 1, 1) := by decide +kernel
theorem dX9_behindOne_38 : decode cX9_behindOne 38 = .ok (.iastore, 1) := by decide +kernel
theorem dX9_behindOne_39 : decode cX9_behindOne 39 = .ok (.aload_n 0, 1) := by decide +kernel
theorem dX9_behindOne_40 : decode cX9_behindOne 40 = .ok (.dup, 1) := by decide +kernel
theorem dX9_behindOne_41 : decode cX9_behindOne 41 = .ok (.getfield 164, 3) := by decide +kernel
theorem dX9_behindOne_44 : decode cX9_behindOne 44 = .ok (.iconst 1, 1) := by decide +kernel
theorem dX9_behindOne_45 : decode cX9_behindOne 45 = .ok (.iadd, 1) := by decide +kernel
theorem dX9_behindOne_46 : decode cX9_behindOne 46 = .ok (.putfield 164, 3) := by decide +kernel
theorem dX9_behindOne_49 : decode cX9_behindOne 49 = .ok (.aload_n 0, 1) := by decide +kernel
theorem dX9_behindOne_50 : decode cX9_behindOne 50 = .ok (.iconst 0, 1) := by decide +kernel
theorem dX9_behindOne_51 : decode cX9_behindOne 51 = .ok (.putfield 210, 3) := by decide +kernel
theorem dX9_behindOne_54 : decode cX9_behindOne 54 = .ok (.aload_n 0, 1) := by decide +kernel
theorem dX9_behindOne_55 : decode cX9_behindOne 55 = .ok (.invokevirtual 184, 3) := by decide +kernel
theorem dX9_behindOne_58 : decode cX9_behindOne 58 = .ok (.iconst 0, 1) := by decide +kernel
theorem dX9_behindOne_59 : decode cX9_behindOne 59 = .ok (.ireturn, 1) := by decide +kernel
theorem dX9_behindOne_60 : decode cX9_behindOne 60 = .ok (.aload_n 0, 1) := by decide +kernel
theorem dX9_behindOne_61 : decode cX9_behindOne 61 = .ok (.invokevirtual 181, 3) := by decide +kernel
theorem dX9_behindOne_64 : decode cX9_behindOne 64 = .ok (.ifCond .eq 12, 3) := by decide +kernel
theorem dX9_behindOne_67 : decode cX9_behindOne 67 = .ok (.aload_n 0, 1) := by decide +kernel
theorem dX9_behindOne_68 : decode cX9_behindOne 68 = .ok (.getfield 108, 3) := by decide +kernel
theorem dX9_behindOne_71 : decode cX9_behindOne 71 = .ok (.bipush 41, 2) := by decide +kernel
theorem dX9_behindOne_73 : decode cX9_behindOne 73 = .ok (.if_icmp .eq 5, 3) := by decide +kernel
theorem dX9_behindOne_76 : decode cX9_behindOne 76 = .ok (.iconst (-1), 1) := by decide +kernel
theorem dX9_behindOne_77 : decode cX9_behindOne 77 = .ok (.ireturn, 1) := by decide +kernel
theorem dX9_behindOne_78 : decode cX9_behindOne 78 = .ok (.aload_n 0, 1) := by decide +kernel
theorem dX9_behindOne_79 : decode cX9_behindOne 79 = .ok (.iconst 1, 1) := by decide +kernel
theorem dX9_behindOne_80 : decode cX9_behindOne 80 = .ok (.invokevirtual 207, 3) := by decide +kernel
theorem dX9_behindOne_83 : decode cX9_behindOne 83 = .ok (.aload_n 0, 1) := by decide +kernel
theorem dX9_behindOne_84 : decode cX9_behindOne 84 = .ok (.dup, 1) := by decide +kernel
theorem dX9_behindOne_85 : decode cX9_behindOne 85 = .ok (.getfield 164, 3) := by decide +kernel
theorem dX9_behindOne_88 : decode cX9_behindOne 88 = .ok (.iconst 1, 1) := by decide +kernel
theorem dX9_behindOne_89 : decode cX9_behindOne 89 = .ok (.isub, 1) := by decide +kernel
theorem dX9_behindOne_90 : decode cX9_behindOne 90 = .ok (.putfield 164, 3) := by decide +kernel
theorem dX9_behindOne_93 : decode cX9_behindOne 93 = .ok (.aload_n 0, 1) := by decide +kernel
theorem dX9_behindOne_94 : decode cX9_behindOne 94 = .ok (.dup, 1) := by decide +kernel
theorem dX9_behindOne_95 : decode cX9_behindOne 95 = .ok (.getfield 174, 3) := by decide +kernel
theorem dX9_behindOne_98 : decode cX9_behindOne 98 = .ok (.iconst 1, 1) := by decide +kernel
theorem dX9_behindOne_99 : decode cX9_behindOne 99 = .ok (.isub, 1) := by decide +kernel
theorem dX9_behindOne_100 : decode cX9_behindOne 100 = .ok (.putfield 174, 3) := by decide +kernel
theorem dX9_behindOne_103 : decode cX9_behindOne 103 = .ok (.aload_n 0, 1) := by decide +kernel
theorem dX9_behindOne_104 : decode cX9_behindOne 104 = .ok (.invokevirtual 184, 3) := by decide +kernel
theorem dX9_behindOne_107 : decode cX9_behindOne 107 = .ok (.aload_n 0, 1) := by decide +kernel
theorem dX9_behindOne_108 : decode cX9_behindOne 108 = .ok (.invokevirtual 194, 3) := by decide +kernel
theorem dX9_behindOne_111 : decode cX9_behindOne 111 = .ok (.ireturn, 1) := by decide +kernel
def lX9_behindOne_26 (F : Nat)  (t : Nat) (S : mS) (v1 : Int32) (s0 : Int32) : Option (mS × Int32) := bd (f_X9_settle F S t s0) fun q1 => ck (inb (q1.1 t 16) 160) (stp (sI q1 (t + 5) (q1.1 t 16).toNatClampNeg v1) fun S3 => stp (sI S3 t 16 ((S3.1 t 16) + (1 : Int32))) fun S4 => stp (sI S4 t 18 (0 : Int32)) fun S5 => bd (f_X9_nextToken F S5 t) fun q6 => some (q6, (0 : Int32)))
set_option maxHeartbeats 4000000 in
set_option maxRecDepth 100000 in
theorem gX9_behindOne_26 {x : mX} {F : Nat} {t : Nat}  {R : mS × Int32} (ht : kd0 t = 9)  (S : mS) (v1 : Int32) (s0 : Int32) (ks1 : kd0 (t) = 9) (h : lX9_behindOne_26 F  t S v1 s0 = some R) : mG x μX9_behindOne 7 0 0 (mQe R.1 (some (.int R.2))) 0 0 E0 S 26 [(0, .ref (t)), (1, .int (v1))] [.int (s0), .ref (t)] := by
  unfold lX9_behindOne_26 at h
  obtain ⟨q1, hq1, h⟩ := bdp h
  refine mG.callV0 (as := [.int (s0)]) (st := []) (S2 := q1) (r := none) dX9_behindOne_26 mvX9_settle wk25_1 rfl ks1 rfl (by decide) (Nat.le_of_ble_eq_true rfl) (c_X9_settle ks1 hq1) ?_
  refine mG.aload_n 0 dX9_behindOne_29 rfl ?_
  refine mG.get (v := .ref (t + 5)) dX9_behindOne_30 mfX9_29 ht (lr9_pile ht) ?_
  refine mG.aload_n 0 dX9_behindOne_33 rfl ?_
  refine mG.get (v := .int (q1.1 t 16)) dX9_behindOne_34 mfX9_164 ht rfl ?_
  refine mG.iload_n 1 dX9_behindOne_37 rfl ?_
  obtain ⟨b2, h⟩ := ckp h
  obtain ⟨S3, hS3, h⟩ := stpp h
  refine mG.iast dX9_behindOne_38 (lk9_pile ht) (ll9_pile ht) (inbp b2) hS3 ?_
  refine mG.aload_n 0 dX9_behindOne_39 rfl ?_
  refine mG.dup dX9_behindOne_40 rfl ?_
  refine mG.get (v := .int (S3.1 t 16)) dX9_behindOne_41 mfX9_164 ht rfl ?_
  refine mG.iconst (v := 1) dX9_behindOne_44 rfl ?_
  refine mG.iadd dX9_behindOne_45 ?_
  obtain ⟨S4, hS4, h⟩ := stpp h
  refine mG.putI dX9_behindOne_46 mfX9_164 rfl (Or.inl rfl) ht hS4 ?_
  refine mG.aload_n 0 dX9_behindOne_49 rfl ?_
  refine mG.iconst (v := 0) dX9_behindOne_50 rfl ?_
  obtain ⟨S5, hS5, h⟩ := stpp h
  refine mG.putI dX9_behindOne_51 mfX9_210 rfl (Or.inr ⟨rfl, Or.inl rfl⟩) ht hS5 ?_
  refine mG.aload_n 0 dX9_behindOne_54 rfl ?_
  obtain ⟨q6, hq6, h⟩ := bdp h
  refine mG.callV0 (as := []) (st := []) (S2 := q6) (r := none) dX9_behindOne_55 mvX9_nextToken wk20_10 rfl ht rfl (by decide) (Nat.le_of_ble_eq_true rfl) (c_X9_nextToken ht hq6) ?_
  refine mG.iconst (v := 0) dX9_behindOne_58 rfl ?_
  obtain rfl := Option.some.inj h
  exact mG.iret dX9_behindOne_59 rfl ⟨rfl, rfl, rfl⟩
def f_X9_behindOne (F : Nat) (S : mS) (t : Nat) : Option (mS × Int32) := bd (f_X9_betweenOf F S t) fun q1 => if q1 < 0 then (bd (f_X9_isShut F S t) fun q2 => if q2 = true then (if (S.1 t 9) = (41 : Int32) then (bd (f_X9_settle F S t (1 : Int32)) fun q3 => stp (sI q3 t 16 ((q3.1 t 16) - (1 : Int32))) fun S4 => stp (sI S4 t 17 ((S4.1 t 17) - (1 : Int32))) fun S5 => bd (f_X9_nextToken F S5 t) fun q6 => bd (f_X9_endOne F q6 t) fun q7 => some (q7.1, q7.2)) else (some (S, (-1 : Int32)))) else (some (S, (-1 : Int32)))) else (if (f_X9_rank S q1) = (4 : Int32) then (lX9_behindOne_26 F  t S q1 (5 : Int32)) else (lX9_behindOne_26 F  t S q1 (f_X9_rank S q1)))
set_option maxHeartbeats 4000000 in
set_option maxRecDepth 100000 in
theorem c_X9_behindOne {F : Nat} {S : mS} {t : Nat} {R : mS × Int32} (ht : kd0 t = 9) (h : f_X9_behindOne F S t = some R) : mCt μX9_behindOne 7 0 0 E0 S [.ref (t)] (mQe R.1 (some (.int R.2))) := by
  unfold f_X9_behindOne at h
  refine mCt.of (by decide) (Nat.le_of_ble_eq_true rfl) ?_
  intro x
  refine mG.aload_n 0 dX9_behindOne_0 rfl ?_
  obtain ⟨q1, hq1, h⟩ := bdp h
  refine mG.callV0 (as := []) (st := []) (S2 := S) (r := some (.int (q1))) dX9_behindOne_1 mvX9_betweenOf wk24_6 rfl ht rfl (by decide) (Nat.le_of_ble_eq_true rfl) (c_X9_betweenOf ht hq1) ?_
  refine mG.istore_n (lv2 := [(1, .int (q1)), (0, .ref (t))]) dX9_behindOne_4 rfl (by decide) rfl ?_
  refine mG.iload_n 0 dX9_behindOne_5 rfl ?_
  refine mG.if_lt 60 dX9_behindOne_6 (by decide) (fun c11 => ?_) (fun c11 => ?_)
  · replace h := itp c11 h
    refine mG.aload_n 1 dX9_behindOne_60 rfl ?_
    obtain ⟨q2, hq2, h⟩ := bdp h
    refine mG.callV0 (as := []) (st := []) (S2 := S) (r := some (.int (bI (q2)))) dX9_behindOne_61 mvX9_isShut wk24_10 rfl ht rfl (by decide) (Nat.le_of_ble_eq_true rfl) (c_X9_isShut ht hq2) ?_
    refine mG.ifz_eq (b := q2) 76 dX9_behindOne_64 (by decide) (fun c9 => ?_) (fun c9 => ?_)
    · replace h := itn c9 h
      refine mG.iconst (v := (-1)) dX9_behindOne_76 rfl ?_
      obtain rfl := Option.some.inj h
      exact mG.iret dX9_behindOne_77 rfl ⟨rfl, rfl, rfl⟩
    · replace h := itp c9 h
      refine mG.aload_n 1 dX9_behindOne_67 rfl ?_
      refine mG.get (v := .int (S.1 t 9)) dX9_behindOne_68 mfX9_108 ht rfl ?_
      refine mG.bipush (v := 41) dX9_behindOne_71 (by decide) ?_
      refine mG.icmp_eq 78 dX9_behindOne_73 (by decide) (fun c8 => ?_) (fun c8 => ?_)
      · replace h := itp c8 h
        refine mG.aload_n 1 dX9_behindOne_78 rfl ?_
        refine mG.iconst (v := 1) dX9_behindOne_79 rfl ?_
        obtain ⟨q3, hq3, h⟩ := bdp h
        refine mG.callV0 (as := [.int 1]) (st := []) (S2 := q3) (r := none) dX9_behindOne_80 mvX9_settle wk25_1 rfl ht rfl (by decide) (Nat.le_of_ble_eq_true rfl) (c_X9_settle ht hq3) ?_
        refine mG.aload_n 1 dX9_behindOne_83 rfl ?_
        refine mG.dup dX9_behindOne_84 rfl ?_
        refine mG.get (v := .int (q3.1 t 16)) dX9_behindOne_85 mfX9_164 ht rfl ?_
        refine mG.iconst (v := 1) dX9_behindOne_88 rfl ?_
        refine mG.isub dX9_behindOne_89 ?_
        obtain ⟨S4, hS4, h⟩ := stpp h
        refine mG.putI dX9_behindOne_90 mfX9_164 rfl (Or.inl rfl) ht hS4 ?_
        refine mG.aload_n 1 dX9_behindOne_93 rfl ?_
        refine mG.dup dX9_behindOne_94 rfl ?_
        refine mG.get (v := .int (S4.1 t 17)) dX9_behindOne_95 mfX9_174 ht rfl ?_
        refine mG.iconst (v := 1) dX9_behindOne_98 rfl ?_
        refine mG.isub dX9_behindOne_99 ?_
        obtain ⟨S5, hS5, h⟩ := stpp h
        refine mG.putI dX9_behindOne_100 mfX9_174 rfl (Or.inl rfl) ht hS5 ?_
        refine mG.aload_n 1 dX9_behindOne_103 rfl ?_
        obtain ⟨q6, hq6, h⟩ := bdp h
        refine mG.callV0 (as := []) (st := []) (S2 := q6) (r := none) dX9_behindOne_104 mvX9_nextToken wk20_10 rfl ht rfl (by decide) (Nat.le_of_ble_eq_true rfl) (c_X9_nextToken ht hq6) ?_
        refine mG.aload_n 1 dX9_behindOne_107 rfl ?_
        obtain ⟨q7, hq7, h⟩ := bdp h
        refine mG.callV0 (as := []) (st := []) (S2 := q7.1) (r := some (.int (q7.2))) dX9_behindOne_108 mvX9_endOne wk25_9 rfl ht rfl (by decide) (Nat.le_of_ble_eq_true rfl) (c_X9_endOne ht hq7) ?_
        obtain rfl := Option.some.inj h
        exact mG.iret dX9_behindOne_111 rfl ⟨rfl, rfl, rfl⟩
      · replace h := itn c8 h
        refine mG.iconst (v := (-1)) dX9_behindOne_76 rfl ?_
        obtain rfl := Option.some.inj h
        exact mG.iret dX9_behindOne_77 rfl ⟨rfl, rfl, rfl⟩
  · replace h := itn c11 h
    refine mG.aload_n 1 dX9_behindOne_9 rfl ?_
    refine mG.iload_n 0 dX9_behindOne_10 rfl ?_
    refine mG.callS0 (as := [.int (q1)]) (st := [.ref (t)]) (S2 := S) (r := some (.int (f_X9_rank S q1))) dX9_behindOne_11 mbX9_rank wk24_19 wk24_18 rfl rfl (by decide) (Nat.le_of_ble_eq_true rfl) (c_X9_rank  rfl) ?_
    refine mG.iconst (v := 4) dX9_behindOne_14 rfl ?_
    refine mG.icmp_ne 22 dX9_behindOne_15 (by decide) (fun c10 => ?_) (fun c10 => ?_)
    · replace h := itn c10 h
      refine mG.iload_n 0 dX9_behindOne_22 rfl ?_
      refine mG.callS0 (as := [.int (q1)]) (st := [.ref (t)]) (S2 := S) (r := some (.int (f_X9_rank S q1))) dX9_behindOne_23 mbX9_rank wk24_19 wk24_18 rfl rfl (by decide) (Nat.le_of_ble_eq_true rfl) (c_X9_rank  rfl) ?_
      refine mG.sub (lv2 := [(0, .ref (t)), (1, .int (q1))]) [1, 0] rfl ?_
      exact gX9_behindOne_26 ht   S q1 (f_X9_rank S q1) ht h
    · replace h := itp c10 h
      refine mG.iconst (v := 5) dX9_behindOne_18 rfl ?_
      refine mG.goto 26 dX9_behindOne_19 (by decide) ?_
      refine mG.sub (lv2 := [(0, .ref (t)), (1, .int (q1))]) [1, 0] rfl ?_
      exact gX9_behindOne_26 ht   S q1 (5 : Int32) ht h
theorem dX9_parsed_0 : decode cX9_parsed 0 = .ok (.aload_n 0, 1) := by decide +kernel
theorem dX9_parsed_1 : decode cX9_parsed 1 = .ok (.iconst 0, 1) := by decide +kernel
theorem dX9_parsed_2 : decode cX9_parsed 2 = .ok (.putfield 164, 3) := by decide +kernel
theorem dX9_parsed_5 : decode cX9_parsed 5 = .ok (.aload_n 0, 1) := by decide +kernel
theorem dX9_parsed_6 : decode cX9_parsed 6 = .ok (.iconst 0, 1) := by decide +kernel
theorem dX9_parsed_7 : decode cX9_parsed 7 = .ok (.putfield 174, 3) := by decide +kernel
theorem dX9_parsed_10 : decode cX9_parsed 10 = .ok (.aload_n 0, 1) := by decide +kernel
theorem dX9_parsed_11 : decode cX9_parsed 11 = .ok (.iconst 0, 1) := by decide +kernel
theorem dX9_parsed_12 : decode cX9_parsed 12 = .ok (.putfield 210, 3) := by decide +kernel
theorem dX9_parsed_15 : decode cX9_parsed 15 = .ok (.aload_n 0, 1) := by decide +kernel
theorem dX9_parsed_16 : decode cX9_parsed 16 = .ok (.iload_n 1, 1) := by decide +kernel
theorem dX9_parsed_17 : decode cX9_parsed 17 = .ok (.putfield 177, 3) := by decide +kernel
theorem dX9_parsed_20 : decode cX9_parsed 20 = .ok (.aload_n 0, 1) := by decide +kernel
theorem dX9_parsed_21 : decode cX9_parsed 21 = .ok (.getfield 210, 3) := by decide +kernel
theorem dX9_parsed_24 : decode cX9_parsed 24 = .ok (.ifCond .eq 10, 3) := by decide +kernel
theorem dX9_parsed_27 : decode cX9_parsed 27 = .ok (.aload_n 0, 1) := by decide +kernel
theorem dX9_parsed_28 : decode cX9_parsed 28 = .ok (.invokevirtual 222, 3) := by decide +kernel
theorem dX9_parsed_31 : decode cX9_parsed 31 = .ok (.goto 7, 3) := by decide +kernel
theorem dX9_parsed_34 : decode cX9_parsed 34 = .ok (.aload_n 0, 1) := by decide +kernel
theorem dX9_parsed_35 : decode cX9_parsed 35 = .ok (.invokevirtual 225, 3) := by decide +kernel
theorem dX9_parsed_38 : decode cX9_parsed 38 = .ok (.istore_n 2, 1) := by decide +kernel
theorem dX9_parsed_39 : decode cX9_parsed 39 = .ok (.iload_n 2, 1) := by decide +kernel
theorem dX9_parsed_40 : decode cX9_parsed 40 = .ok (.ifCond .le 5, 3) := by decide +kernel
theorem dX9_parsed_43 : decode cX9_parsed 43 = .ok (.iload_n 2, 1) := by decide +kernel
theorem dX9_parsed_44 : decode cX9_parsed 44 = .ok (.ireturn, 1) := by decide +kernel
theorem dX9_parsed_45 : decode cX9_parsed 45 = .ok (.iload_n 2, 1) := by decide +kernel
theorem dX9_parsed_46 : decode cX9_parsed 46 = .ok (.ifCond .ne 6, 3) := by decide +kernel
theorem dX9_parsed_49 : decode cX9_parsed 49 = .ok (.goto (-29), 3) := by decide +kernel
theorem dX9_parsed_52 : decode cX9_parsed 52 = .ok (.aload_n 0, 1) := by decide +kernel
theorem dX9_parsed_53 : decode cX9_parsed 53 = .ok (.invokevirtual 181, 3) := by decide +kernel
theorem dX9_parsed_56 : decode cX9_parsed 56 = .ok (.ifCond .ne 14, 3) := by decide +kernel
theorem dX9_parsed_59 : decode cX9_parsed 59 = .ok (.iload_n 1, 1) := by decide +kernel
theorem dX9_parsed_60 : decode cX9_parsed 60 = .ok (.ifCond .eq 12, 3) := by decide +kernel
theorem dX9_parsed_63 : decode cX9_parsed 63 = .ok (.aload_n 0, 1) := by decide +kernel
theorem dX9_parsed_64 : decode cX9_parsed 64 = .ok (.invokevirtual 213, 3) := by decide +kernel
theorem dX9_parsed_67 : decode cX9_parsed 67 = .ok (.ifCond .ne 5, 3) := by decide +kernel
theorem dX9_parsed_70 : decode cX9_parsed 70 = .ok (.iconst 1, 1) := by decide +kernel
theorem dX9_parsed_71 : decode cX9_parsed 71 = .ok (.ireturn, 1) := by decide +kernel
theorem dX9_parsed_72 : decode cX9_parsed 72 = .ok (.aload_n 0, 1) := by decide +kernel
theorem dX9_parsed_73 : decode cX9_parsed 73 = .ok (.iconst 1, 1) := by decide +kernel
theorem dX9_parsed_74 : decode cX9_parsed 74 = .ok (.invokevirtual 207, 3) := by decide +kernel
theorem dX9_parsed_77 : decode cX9_parsed 77 = .ok (.iconst 0, 1) := by decide +kernel
theorem dX9_parsed_78 : decode cX9_parsed 78 = .ok (.ireturn, 1) := by decide +kernel
def lX9_parsed_38 (F : Nat) (K20 : mS → Option (mS × Int32)) (t : Nat) (a1 : Int32) (S : mS) (s0 : Int32) : Option (mS × Int32) := if s0 ≤ 0 then (if s0 = 0 then (K20 S ) else (bd (f_X9_isShut F S t) fun q1 => if q1 = true then (some (S, (1 : Int32))) else (if a1 = 0 then (bd (f_X9_settle F S t (1 : Int32)) fun q2 => some (q2, (0 : Int32))) else (bd (f_X9_isCompared F S t) fun q3 => if q3 = true then (bd (f_X9_settle F S t (1 : Int32)) fun q4 => some (q4, (0 : Int32))) else (some (S, (1 : Int32))))))) else (some (S, s0))
set_option maxHeartbeats 4000000 in
set_option maxRecDepth 100000 in
theorem gX9_parsed_38 {x : mX} {F : Nat} {t : Nat} {a1 : Int32} {K20 : mS → Option (mS × Int32)} {R : mS × Int32} (ht : kd0 t = 9) (hK20 : ∀ (S : mS)  , K20 S  = some R → mG x μX9_parsed 8 0 0 (mQe R.1 (some (.int R.2))) 0 0 E0 S 20 [(0, .ref (t)), (1, .int (a1))] []) (S : mS) (s0 : Int32)  (h : lX9_parsed_38 F K20 t a1 S s0 = some R) : mG x μX9_parsed 8 0 0 (mQe R.1 (some (.int R.2))) 0 0 E0 S 38 [(0, .ref (t)), (1, .int (a1))] [.int (s0)] := by
  unfold lX9_parsed_38 at h
  refine mG.istore_n (lv2 := [(2, .int (s0)), (0, .ref (t)), (1, .int (a1))]) dX9_parsed_38 rfl (by decide) rfl ?_
  refine mG.iload_n 0 dX9_parsed_39 rfl ?_
  refine mG.if_le 45 dX9_parsed_40 (by decide) (fun c9 => ?_) (fun c9 => ?_)
  · replace h := itp c9 h
    refine mG.iload_n 0 dX9_parsed_45 rfl ?_
    refine mG.if_ne 52 dX9_parsed_46 (by decide) (fun c8 => ?_) (fun c8 => ?_)
    · replace h := itn c8 h
      refine mG.aload_n 1 dX9_parsed_52 rfl ?_
      obtain ⟨q1, hq1, h⟩ := bdp h
      refine mG.callV0 (as := []) (st := []) (S2 := S) (r := some (.int (bI (q1)))) dX9_parsed_53 mvX9_isShut wk24_10 rfl ht rfl (by decide) (Nat.le_of_ble_eq_true rfl) (c_X9_isShut ht hq1) ?_
      refine mG.ifz_ne (b := q1) 70 dX9_parsed_56 (by decide) (fun c7 => ?_) (fun c7 => ?_)
      · replace h := itp c7 h
        refine mG.iconst (v := 1) dX9_parsed_70 rfl ?_
        obtain rfl := Option.some.inj h
        exact mG.iret dX9_parsed_71 rfl ⟨rfl, rfl, rfl⟩
      · replace h := itn c7 h
        refine mG.iload_n 2 dX9_parsed_59 rfl ?_
        refine mG.if_eq 72 dX9_parsed_60 (by decide) (fun c6 => ?_) (fun c6 => ?_)
        · replace h := itp c6 h
          refine mG.aload_n 1 dX9_parsed_72 rfl ?_
          refine mG.iconst (v := 1) dX9_parsed_73 rfl ?_
          obtain ⟨q2, hq2, h⟩ := bdp h
          refine mG.callV0 (as := [.int 1]) (st := []) (S2 := q2) (r := none) dX9_parsed_74 mvX9_settle wk25_1 rfl ht rfl (by decide) (Nat.le_of_ble_eq_true rfl) (c_X9_settle ht hq2) ?_
          refine mG.iconst (v := 0) dX9_parsed_77 rfl ?_
          obtain rfl := Option.some.inj h
          exact mG.iret dX9_parsed_78 rfl ⟨rfl, rfl, rfl⟩
        · replace h := itn c6 h
          refine mG.aload_n 1 dX9_parsed_63 rfl ?_
          obtain ⟨q3, hq3, h⟩ := bdp h
          refine mG.callV0 (as := []) (st := []) (S2 := S) (r := some (.int (bI (q3)))) dX9_parsed_64 mvX9_isCompared wk24_14 rfl ht rfl (by decide) (Nat.le_of_ble_eq_true rfl) (c_X9_isCompared ht hq3) ?_
          refine mG.ifz_ne (b := q3) 72 dX9_parsed_67 (by decide) (fun c5 => ?_) (fun c5 => ?_)
          · replace h := itp c5 h
            refine mG.aload_n 1 dX9_parsed_72 rfl ?_
            refine mG.iconst (v := 1) dX9_parsed_73 rfl ?_
            obtain ⟨q4, hq4, h⟩ := bdp h
            refine mG.callV0 (as := [.int 1]) (st := []) (S2 := q4) (r := none) dX9_parsed_74 mvX9_settle wk25_1 rfl ht rfl (by decide) (Nat.le_of_ble_eq_true rfl) (c_X9_settle ht hq4) ?_
            refine mG.iconst (v := 0) dX9_parsed_77 rfl ?_
            obtain rfl := Option.some.inj h
            exact mG.iret dX9_parsed_78 rfl ⟨rfl, rfl, rfl⟩
          · replace h := itn c5 h
            refine mG.iconst (v := 1) dX9_parsed_70 rfl ?_
            obtain rfl := Option.some.inj h
            exact mG.iret dX9_parsed_71 rfl ⟨rfl, rfl, rfl⟩
    · replace h := itp c8 h
      refine mG.goto 20 dX9_parsed_49 (by decide) ?_
      refine mG.sub (lv2 := [(0, .ref (t)), (1, .int (a1))]) [1, 2] rfl ?_
      exact hK20 S   h
  · replace h := itn c9 h
    refine mG.iload_n 0 dX9_parsed_43 rfl ?_
    obtain rfl := Option.some.inj h
    exact mG.iret dX9_parsed_44 rfl ⟨rfl, rfl, rfl⟩
def lX9_parsed_20 (F : Nat)  (t : Nat) (a1 : Int32) : Nat → mS → Option (mS × Int32)
  | 0, _ => none
  | n + 1, S => if (S.1 t 18) = 0 then (bd (f_X9_beginOne F S t) fun q1 => lX9_parsed_38 F (fun (S : mS)  => lX9_parsed_20 F  t a1 n S ) t a1 q1.1 q1.2) else (bd (f_X9_behindOne F S t) fun q2 => lX9_parsed_38 F (fun (S : mS)  => lX9_parsed_20 F  t a1 n S ) t a1 q2.1 q2.2)
set_option maxHeartbeats 4000000 in
set_option maxRecDepth 100000 in
theorem gX9_parsed_20 {x : mX} {F : Nat} {t : Nat} {a1 : Int32}   {R : mS × Int32} (ht : kd0 t = 9)  : ∀ (n : Nat) (S : mS), lX9_parsed_20 F  t a1 n S  = some R → mG x μX9_parsed 8 0 0 (mQe R.1 (some (.int R.2))) 0 0 E0 S 20 [(0, .ref (t)), (1, .int (a1))] [] := by
  intro n
  induction n with
  | zero =>
    intro S h
    cases h
  | succ n ih =>
    intro S h
    unfold lX9_parsed_20 at h
    refine mG.aload_n 0 dX9_parsed_20 rfl ?_
    refine mG.get (v := .int (S.1 t 18)) dX9_parsed_21 mfX9_210 ht rfl ?_
    refine mG.if_eq 34 dX9_parsed_24 (by decide) (fun c3 => ?_) (fun c3 => ?_)
    · replace h := itp c3 h
      refine mG.aload_n 0 dX9_parsed_34 rfl ?_
      obtain ⟨q1, hq1, h⟩ := bdp h
      refine mG.callV0 (as := []) (st := []) (S2 := q1.1) (r := some (.int (q1.2))) dX9_parsed_35 mvX9_beginOne wk25_13 rfl ht rfl (by decide) (Nat.le_of_ble_eq_true rfl) (c_X9_beginOne ht hq1) ?_
      refine mG.sub (lv2 := [(0, .ref (t)), (1, .int (a1))]) [0, 1] rfl ?_
      exact gX9_parsed_38 ht (fun S h => by exact ih S   h)  q1.1 q1.2  h
    · replace h := itn c3 h
      refine mG.aload_n 0 dX9_parsed_27 rfl ?_
      obtain ⟨q2, hq2, h⟩ := bdp h
      refine mG.callV0 (as := []) (st := []) (S2 := q2.1) (r := some (.int (q2.2))) dX9_parsed_28 mvX9_behindOne wk24_2 rfl ht rfl (by decide) (Nat.le_of_ble_eq_true rfl) (c_X9_behindOne ht hq2) ?_
      refine mG.goto 38 dX9_parsed_31 (by decide) ?_
      refine mG.sub (lv2 := [(0, .ref (t)), (1, .int (a1))]) [0, 1] rfl ?_
      exact gX9_parsed_38 ht (fun S h => by exact ih S   h)  q2.1 q2.2  h
def f_X9_parsed (F : Nat) (S : mS) (t : Nat) (a1 : Int32) : Option (mS × Int32) := stp (sI S t 16 (0 : Int32)) fun S1 => stp (sI S1 t 17 (0 : Int32)) fun S2 => stp (sI S2 t 18 (0 : Int32)) fun S3 => ck (is01 a1) (stp (sI S3 t 19 a1) fun S4 => lX9_parsed_20 F  t a1 F S4 )
set_option maxHeartbeats 4000000 in
set_option maxRecDepth 100000 in
theorem c_X9_parsed {F : Nat} {S : mS} {t : Nat} {a1 : Int32} {R : mS × Int32} (ht : kd0 t = 9) (h : f_X9_parsed F S t a1 = some R) : mCt μX9_parsed 8 0 0 E0 S [.ref (t), .int (a1)] (mQe R.1 (some (.int R.2))) := by
  unfold f_X9_parsed at h
  refine mCt.of (by decide) (Nat.le_of_ble_eq_true rfl) ?_
  intro x
  refine mG.aload_n 0 dX9_parsed_0 rfl ?_
  refine mG.iconst (v := 0) dX9_parsed_1 rfl ?_
  obtain ⟨S1, hS1, h⟩ := stpp h
  refine mG.putI dX9_parsed_2 mfX9_164 rfl (Or.inl rfl) ht hS1 ?_
  refine mG.aload_n 0 dX9_parsed_5 rfl ?_
  refine mG.iconst (v := 0) dX9_parsed_6 rfl ?_
  obtain ⟨S2, hS2, h⟩ := stpp h
  refine mG.putI dX9_parsed_7 mfX9_174 rfl (Or.inl rfl) ht hS2 ?_
  refine mG.aload_n 0 dX9_parsed_10 rfl ?_
  refine mG.iconst (v := 0) dX9_parsed_11 rfl ?_
  obtain ⟨S3, hS3, h⟩ := stpp h
  refine mG.putI dX9_parsed_12 mfX9_210 rfl (Or.inr ⟨rfl, Or.inl rfl⟩) ht hS3 ?_
  refine mG.aload_n 0 dX9_parsed_15 rfl ?_
  refine mG.iload_n 1 dX9_parsed_16 rfl ?_
  obtain ⟨b5, h⟩ := ckp h
  obtain ⟨S4, hS4, h⟩ := stpp h
  refine mG.putI dX9_parsed_17 mfX9_177 rfl (Or.inr ⟨rfl, is01p b5⟩) ht hS4 ?_
  refine mG.sub (lv2 := [(0, .ref (t)), (1, .int (a1))]) [0, 1] rfl ?_
  exact gX9_parsed_20 ht  F S4   h
theorem dX9_figure_0 : decode cX9_figure 0 = .ok (.aload_n 0, 1) := by decide +kernel
theorem dX9_figure_1 : decode cX9_figure 1 = .ok (.getfield 108, 3) := by decide +kernel
theorem dX9_figure_4 : decode cX9_figure 4 = .ok (.iconst 1, 1) := by decide +kernel
theorem dX9_figure_5 : decode cX9_figure 5 = .ok (.if_icmp .eq 5, 3) := by decide +kernel
theorem dX9_figure_8 : decode cX9_figure 8 = .ok (.iconst 1, 1) := by decide +kernel
theorem dX9_figure_9 : decode cX9_figure 9 = .ok (.ireturn, 1) := by decide +kernel
theorem dX9_figure_10 : decode cX9_figure 10 = .ok (.aload_n 0, 1) := by decide +kernel
theorem dX9_figure_11 : decode cX9_figure 11 = .ok (.getfield 114, 3) := by decide +kernel
theorem dX9_figure_14 : decode cX9_figure 14 = .ok (.iload_n 2, 1) := by decide +kernel
theorem dX9_figure_15 : decode cX9_figure 15 = .ok (.iload_n 3, 1) := by decide +kernel
theorem dX9_figure_16 : decode cX9_figure 16 = .ok (.invokestatic 65, 3) := by decide +kernel
theorem dX9_figure_19 : decode cX9_figure 19 = .ok (.ifCond .ne 5, 3) := by decide +kernel
theorem dX9_figure_22 : decode cX9_figure 22 = .ok (.iconst 2, 1) := by decide +kernel
theorem dX9_figure_23 : decode cX9_figure 23 = .ok (.ireturn, 1) := by decide +kernel
theorem dX9_figure_24 : decode cX9_figure 24 = .ok (.aload_n 0, 1) := by decide +kernel
theorem dX9_figure_25 : decode cX9_figure 25 = .ok (.getfield 16, 3) := by decide +kernel
theorem dX9_figure_28 : decode cX9_figure 28 = .ok (.iload_n 1, 1) := by decide +kernel
theorem dX9_figure_29 : decode cX9_figure 29 = .ok (.aload_n 0, 1) := by decide +kernel
theorem dX9_figure_30 : decode cX9_figure 30 = .ok (.getfield 114, 3) := by decide +kernel
theorem dX9_figure_33 : decode cX9_figure 33 = .ok (.iastore, 1) := by decide +kernel
theorem dX9_figure_34 : decode cX9_figure 34 = .ok (.aload_n 0, 1) := by decide +kernel
theorem dX9_figure_35 : decode cX9_figure 35 = .ok (.invokevirtual 184, 3) := by decide +kernel
theorem dX9_figure_38 : decode cX9_figure 38 = .ok (.iconst 0, 1) := by decide +kernel
theorem dX9_figure_39 : decode cX9_figure 39 = .ok (.ireturn, 1) := by decide +kernel
def f_X9_figure (F : Nat) (S : mS) (t : Nat) (a1 : Int32) (a2 : Int32) (a3 : Int32) : Option (mS × Int32) := if (S.1 t 9) = (1 : Int32) then (if (f_X9_isIn S (S.1 t 10) a2 a3) = true then (ck (inb a1 2820) (stp (sI S (t + 3) a1.toNatClampNeg (S.1 t 10)) fun S2 => bd (f_X9_nextToken F S2 t) fun q3 => some (q3, (0 : Int32)))) else (some (S, (2 : Int32)))) else (some (S, (1 : Int32)))
set_option maxHeartbeats 4000000 in
set_option maxRecDepth 100000 in
theorem c_X9_figure {F : Nat} {S : mS} {t : Nat} {a1 : Int32} {a2 : Int32} {a3 : Int32} {R : mS × Int32} (ht : kd0 t = 9) (h : f_X9_figure F S t a1 a2 a3 = some R) : mCt μX9_figure 3 0 0 E0 S [.ref (t), .int (a1), .int (a2), .int (a3)] (mQe R.1 (some (.int R.2))) := by
  unfold f_X9_figure at h
  refine mCt.of (by decide) (Nat.le_of_ble_eq_true rfl) ?_
  intro x
  refine mG.aload_n 0 dX9_figure_0 rfl ?_
  refine mG.get (v := .int (S.1 t 9)) dX9_figure_1 mfX9_108 ht rfl ?_
  refine mG.iconst (v := 1) dX9_figure_4 rfl ?_
  refine mG.icmp_eq 10 dX9_figure_5 (by decide) (fun c5 => ?_) (fun c5 => ?_)
  · replace h := itp c5 h
    refine mG.aload_n 0 dX9_figure_10 rfl ?_
    refine mG.get (v := .int (S.1 t 10)) dX9_figure_11 mfX9_114 ht rfl ?_
    refine mG.iload_n 2 dX9_figure_14 rfl ?_
    refine mG.iload_n 3 dX9_figure_15 rfl ?_
    refine mG.callS0 (as := [.int (S.1 t 10), .int (a2), .int (a3)]) (st := []) (S2 := S) (r := some (.int (bI (f_X9_isIn S (S.1 t 10) a2 a3)))) dX9_figure_16 mbX9_isIn wk7_13 wk7_12 rfl rfl (by decide) (Nat.le_of_ble_eq_true rfl) (c_X9_isIn  rfl) ?_
    refine mG.ifz_ne (b := f_X9_isIn S (S.1 t 10) a2 a3) 24 dX9_figure_19 (by decide) (fun c4 => ?_) (fun c4 => ?_)
    · replace h := itp c4 h
      refine mG.aload_n 0 dX9_figure_24 rfl ?_
      refine mG.get (v := .ref (t + 3)) dX9_figure_25 mfX9_16 ht (lr9_texts ht) ?_
      refine mG.iload_n 1 dX9_figure_28 rfl ?_
      refine mG.aload_n 0 dX9_figure_29 rfl ?_
      refine mG.get (v := .int (S.1 t 10)) dX9_figure_30 mfX9_114 ht rfl ?_
      obtain ⟨b1, h⟩ := ckp h
      obtain ⟨S2, hS2, h⟩ := stpp h
      refine mG.iast dX9_figure_33 (lk9_texts ht) (ll9_texts ht) (inbp b1) hS2 ?_
      refine mG.aload_n 0 dX9_figure_34 rfl ?_
      obtain ⟨q3, hq3, h⟩ := bdp h
      refine mG.callV0 (as := []) (st := []) (S2 := q3) (r := none) dX9_figure_35 mvX9_nextToken wk20_10 rfl ht rfl (by decide) (Nat.le_of_ble_eq_true rfl) (c_X9_nextToken ht hq3) ?_
      refine mG.iconst (v := 0) dX9_figure_38 rfl ?_
      obtain rfl := Option.some.inj h
      exact mG.iret dX9_figure_39 rfl ⟨rfl, rfl, rfl⟩
    · replace h := itn c4 h
      refine mG.iconst (v := 2) dX9_figure_22 rfl ?_
      obtain rfl := Option.some.inj h
      exact mG.iret dX9_figure_23 rfl ⟨rfl, rfl, rfl⟩
  · replace h := itn c5 h
    refine mG.iconst (v := 1) dX9_figure_8 rfl ?_
    obtain rfl := Option.some.inj h
    exact mG.iret dX9_figure_9 rfl ⟨rfl, rfl, rfl⟩
theorem dX9_worded_0 : decode cX9_worded 0 = .ok (.aload_n 0, 1) := by decide +kernel
theorem dX9_worded_1 : decode cX9_worded 1 = .ok (.lload_n 1, 1) := by decide +kernel
theorem dX9_worded_2 : decode cX9_worded 2 = .ok (.invokevirtual 200, 3) := by decide +kernel
theorem dX9_worded_5 : decode cX9_worded 5 = .ok (.ifCond .ne 5, 3) := by decide +kernel
theorem dX9_worded_8 : decode cX9_worded 8 = .ok (.iconst 1, 1) := by decide +kernel
theorem dX9_worded_9 : decode cX9_worded 9 = .ok (.ireturn, 1) := by decide +kernel
theorem dX9_worded_10 : decode cX9_worded 10 = .ok (.aload_n 0, 1) := by decide +kernel
theorem dX9_worded_11 : decode cX9_worded 11 = .ok (.invokevirtual 184, 3) := by decide +kernel
theorem dX9_worded_14 : decode cX9_worded 14 = .ok (.aload_n 0, 1) := by decide +kernel
theorem dX9_worded_15 : decode cX9_worded 15 = .ok (.iload_n 3, 1) := by decide +kernel
theorem dX9_worded_16 : decode cX9_worded 16 = .ok (.iconst 0, 1) := by decide +kernel
theorem dX9_worded_17 : decode cX9_worded 17 = .ok (.iload 4, 2) := by decide +kernel
theorem dX9_worded_19 : decode cX9_worded 19 = .ok (.invokevirtual 228, 3) := by decide +kernel
theorem dX9_worded_22 : decode cX9_worded 22 = .ok (.ireturn, 1) := by decide +kernel
def f_X9_worded (F : Nat) (S : mS) (t : Nat) (a1 : Int64) (a2 : Int32) (a3 : Int32) : Option (mS × Int32) := if (f_X9_isWord S t a1) = true then (bd (f_X9_nextToken F S t) fun q1 => bd (f_X9_figure F q1 t a2 (0 : Int32) a3) fun q2 => some (q2.1, q2.2)) else (some (S, (1 : Int32)))
set_option maxHeartbeats 4000000 in
set_option maxRecDepth 100000 in
theorem c_X9_worded {F : Nat} {S : mS} {t : Nat} {a1 : Int64} {a2 : Int32} {a3 : Int32} {R : mS × Int32} (ht : kd0 t = 9) (h : f_X9_worded F S t a1 a2 a3 = some R) : mCt μX9_worded 4 0 0 E0 S [.ref (t), .long (a1), .int (a2), .int (a3)] (mQe R.1 (some (.int R.2))) := by
  unfold f_X9_worded at h
  refine mCt.of (by decide) (Nat.le_of_ble_eq_true rfl) ?_
  intro x
  refine mG.aload_n 0 dX9_worded_0 rfl ?_
  refine mG.lload_n 1 dX9_worded_1 rfl ?_
  refine mG.callV0 (as := [.long (a1)]) (st := []) (S2 := S) (r := some (.int (bI (f_X9_isWord S t a1)))) dX9_worded_2 mvX9_isWord wk22_4 rfl ht rfl (by decide) (Nat.le_of_ble_eq_true rfl) (c_X9_isWord ht rfl) ?_
  refine mG.ifz_ne (b := f_X9_isWord S t a1) 10 dX9_worded_5 (by decide) (fun c3 => ?_) (fun c3 => ?_)
  · replace h := itp c3 h
    refine mG.aload_n 0 dX9_worded_10 rfl ?_
    obtain ⟨q1, hq1, h⟩ := bdp h
    refine mG.callV0 (as := []) (st := []) (S2 := q1) (r := none) dX9_worded_11 mvX9_nextToken wk20_10 rfl ht rfl (by decide) (Nat.le_of_ble_eq_true rfl) (c_X9_nextToken ht hq1) ?_
    refine mG.aload_n 0 dX9_worded_14 rfl ?_
    refine mG.iload_n 2 dX9_worded_15 rfl ?_
    refine mG.iconst (v := 0) dX9_worded_16 rfl ?_
    refine mG.iload 3 dX9_worded_17 rfl ?_
    obtain ⟨q2, hq2, h⟩ := bdp h
    refine mG.callV0 (as := [.int (a2), .int 0, .int (a3)]) (st := []) (S2 := q2.1) (r := some (.int (q2.2))) dX9_worded_19 mvX9_figure wk22_22 rfl ht rfl (by decide) (Nat.le_of_ble_eq_true rfl) (c_X9_figure ht hq2) ?_
    obtain rfl := Option.some.inj h
    exact mG.iret dX9_worded_22 rfl ⟨rfl, rfl, rfl⟩
  · replace h := itn c3 h
    refine mG.iconst (v := 1) dX9_worded_8 rfl ?_
    obtain rfl := Option.some.inj h
    exact mG.iret dX9_worded_9 rfl ⟨rfl, rfl, rfl⟩
theorem dX9_lawClause_0 : decode cX9_lawClause 0 = .ok (.aload_n 0, 1) := by decide +kernel
theorem dX9_lawClause_1 : decode cX9_lawClause 1 = .ok (.getfield 16, 3) := by decide +kernel
theorem dX9_lawClause_4 : decode cX9_lawClause 4 = .ok (.iload_n 1, 1) := by decide +kernel
theorem dX9_lawClause_5 : decode cX9_lawClause 5 = .ok (.iconst 1, 1) := by decide +kernel
theorem dX9_lawClause_6 : decode cX9_lawClause 6 = .ok (.iadd, 1) := by decide +kernel
theorem dX9_lawClause_7 : decode cX9_lawClause 7 = .ok (.aload_n 0, 1) := by decide +kernel
theorem dX9_lawClause_8 : decode cX9_lawClause 8 = .ok (.getfield 149, 3) := by decide +kernel
theorem dX9_lawClause_11 : decode cX9_lawClause 11 = .ok (.iastore, 1) := by decide +kernel
theorem dX9_lawClause_12 : decode cX9_lawClause 12 = .ok (.aload_n 0, 1) := by decide +kernel
theorem dX9_lawClause_13 : decode cX9_lawClause 13 = .ok (.iload_n 2, 1) := by decide +kernel
theorem dX9_lawClause_14 : decode cX9_lawClause 14 = .ok (.invokevirtual 232, 3) := by decide +kernel
theorem dX9_lawClause_17 : decode cX9_lawClause 17 = .ok (.istore_n 3, 1) := by decide +kernel
theorem dX9_lawClause_18 : decode cX9_lawClause 18 = .ok (.aload_n 0, 1) := by decide +kernel
theorem dX9_lawClause_19 : decode cX9_lawClause 19 = .ok (.getfield 16, 3) := by decide +kernel
theorem dX9_lawClause_22 : decode cX9_lawClause 22 = .ok (.iload_n 1, 1) := by decide +kernel
theorem dX9_lawClause_23 : decode cX9_lawClause 23 = .ok (.iconst 2, 1) := by decide +kernel
theorem dX9_lawClause_24 : decode cX9_lawClause 24 = .ok (.iadd, 1) := by decide +kernel
theorem dX9_lawClause_25 : decode cX9_lawClause 25 = .ok (.aload_n 0, 1) := by decide +kernel
theorem dX9_lawClause_26 : decode cX9_lawClause 26 = .ok (.getfield 149, 3) := by decide +kernel
theorem dX9_lawClause_29 : decode cX9_lawClause 29 = .ok (.iastore, 1) := by decide +kernel
theorem dX9_lawClause_30 : decode cX9_lawClause 30 = .ok (.iload_n 3, 1) := by decide +kernel
theorem dX9_lawClause_31 : decode cX9_lawClause 31 = .ok (.ireturn, 1) := by decide +kernel
def f_X9_lawClause (F : Nat) (S : mS) (t : Nat) (a1 : Int32) (a2 : Int32) : Option (mS × Int32) := ck (inb (a1 + (1 : Int32)) 2820) (stp (sI S (t + 3) (a1 + (1 : Int32)).toNatClampNeg (S.1 t 13)) fun S2 => bd (f_X9_parsed F S2 t a2) fun q3 => ck (inb (a1 + (2 : Int32)) 2820) (stp (sI q3.1 (t + 3) (a1 + (2 : Int32)).toNatClampNeg (q3.1.1 t 13)) fun S5 => some (S5, q3.2)))
set_option maxHeartbeats 4000000 in
set_option maxRecDepth 100000 in
theorem c_X9_lawClause {F : Nat} {S : mS} {t : Nat} {a1 : Int32} {a2 : Int32} {R : mS × Int32} (ht : kd0 t = 9) (h : f_X9_lawClause F S t a1 a2 = some R) : mCt μX9_lawClause 9 0 0 E0 S [.ref (t), .int (a1), .int (a2)] (mQe R.1 (some (.int R.2))) := by
  unfold f_X9_lawClause at h
  refine mCt.of (by decide) (Nat.le_of_ble_eq_true rfl) ?_
  intro x
  refine mG.aload_n 0 dX9_lawClause_0 rfl ?_
  refine mG.get (v := .ref (t + 3)) dX9_lawClause_1 mfX9_16 ht (lr9_texts ht) ?_
  refine mG.iload_n 1 dX9_lawClause_4 rfl ?_
  refine mG.iconst (v := 1) dX9_lawClause_5 rfl ?_
  refine mG.iadd dX9_lawClause_6 ?_
  refine mG.aload_n 0 dX9_lawClause_7 rfl ?_
  refine mG.get (v := .int (S.1 t 13)) dX9_lawClause_8 mfX9_149 ht rfl ?_
  obtain ⟨b1, h⟩ := ckp h
  obtain ⟨S2, hS2, h⟩ := stpp h
  refine mG.iast dX9_lawClause_11 (lk9_texts ht) (ll9_texts ht) (inbp b1) hS2 ?_
  refine mG.aload_n 0 dX9_lawClause_12 rfl ?_
  refine mG.iload_n 2 dX9_lawClause_13 rfl ?_
  obtain ⟨q3, hq3, h⟩ := bdp h
  refine mG.callV0 (as := [.int (a2)]) (st := []) (S2 := q3.1) (r := some (.int (q3.2))) dX9_lawClause_14 mvX9_parsed wk23_18 rfl ht rfl (by decide) (Nat.le_of_ble_eq_true rfl) (c_X9_parsed ht hq3) ?_
  refine mG.istore_n (lv2 := [(3, .int (q3.2)), (0, .ref (t)), (1, .int (a1)), (2, .int (a2))]) dX9_lawClause_17 rfl (by decide) rfl ?_
  refine mG.aload_n 1 dX9_lawClause_18 rfl ?_
  refine mG.get (v := .ref (t + 3)) dX9_lawClause_19 mfX9_16 ht (lr9_texts ht) ?_
  refine mG.iload_n 2 dX9_lawClause_22 rfl ?_
  refine mG.iconst (v := 2) dX9_lawClause_23 rfl ?_
  refine mG.iadd dX9_lawClause_24 ?_
  refine mG.aload_n 1 dX9_lawClause_25 rfl ?_
  refine mG.get (v := .int (q3.1.1 t 13)) dX9_lawClause_26 mfX9_149 ht rfl ?_
  obtain ⟨b4, h⟩ := ckp h
  obtain ⟨S5, hS5, h⟩ := stpp h
  refine mG.iast dX9_lawClause_29 (lk9_texts ht) (ll9_texts ht) (inbp b4) hS5 ?_
  refine mG.iload_n 0 dX9_lawClause_30 rfl ?_
  obtain rfl := Option.some.inj h
  exact mG.iret dX9_lawClause_31 rfl ⟨rfl, rfl, rfl⟩
theorem dX9_houseClause_0 : decode cX9_houseClause 0 = .ok (.aload_n 0, 1) := by decide +kernel
theorem dX9_houseClause_1 : decode cX9_houseClause 1 = .ok (.iload_n 1, 1) := by decide +kernel
theorem dX9_houseClause_2 : decode cX9_houseClause 2 = .ok (.iconst 1, 1) := by decide +kernel
theorem dX9_houseClause_3 : decode cX9_houseClause 3 = .ok (.iadd, 1) := by decide +kernel
theorem dX9_houseClause_4 : decode cX9_houseClause 4 = .ok (.iconst 0, 1) := by decide +kernel
theorem dX9_houseClause_5 : decode cX9_houseClause 5 = .ok (.bipush 19, 2) := by decide +kernel
theorem dX9_houseClause_7 : decode cX9_houseClause 7 = .ok (.invokevirtual 228, 3) := by decide +kernel
theorem dX9_houseClause_10 : decode cX9_houseClause 10 = .ok (.istore_n 2, 1) := by decide +kernel
theorem dX9_houseClause_11 : decode cX9_houseClause 11 = .ok (.iload_n 2, 1) := by decide +kernel
theorem dX9_houseClause_12 : decode cX9_houseClause 12 = .ok (.ifCond .ne 27, 3) := by decide +kernel
theorem dX9_houseClause_15 : decode cX9_houseClause 15 = .ok (.aload_n 0, 1) := by decide +kernel
theorem dX9_houseClause_16 : decode cX9_houseClause 16 = .ok (.bipush 112, 2) := by decide +kernel
theorem dX9_houseClause_18 : decode cX9_houseClause 18 = .ok (.bipush 117, 2) := by decide +kernel
theorem dX9_houseClause_20 : decode cX9_houseClause 20 = .ok (.bipush 114, 2) := by decide +kernel
theorem dX9_houseClause_22 : decode cX9_houseClause 22 = .ok (.bipush 115, 2) := by decide +kernel
theorem dX9_houseClause_24 : decode cX9_houseClause 24 = .ok (.bipush 101, 2) := by decide +kernel
theorem dX9_houseClause_26 : decode cX9_houseClause 26 = .ok (.invokestatic 142, 3) := by decide +kernel
theorem dX9_houseClause_29 : decode cX9_houseClause 29 = .ok (.iload_n 1, 1) := by decide +kernel
theorem dX9_houseClause_30 : decode cX9_houseClause 30 = .ok (.iconst 2, 1) := by decide +kernel
theorem dX9_houseClause_31 : decode cX9_houseClause 31 = .ok (.iadd, 1) := by decide +kernel
theorem dX9_houseClause_32 : decode cX9_houseClause 32 = .ok (.sipush 9999, 3) := by decide +kernel
theorem dX9_houseClause_35 : decode cX9_houseClause 35 = .ok (.invokevirtual 236, 3) := by decide +kernel
theorem dX9_houseClause_38 : decode cX9_houseClause 38 = .ok (.istore_n 2, 1) := by decide +kernel
theorem dX9_houseClause_39 : decode cX9_houseClause 39 = .ok (.iload_n 2, 1) := by decide +kernel
theorem dX9_houseClause_40 : decode cX9_houseClause 40 = .ok (.ifCond .eq 5, 3) := by decide +kernel
theorem dX9_houseClause_43 : decode cX9_houseClause 43 = .ok (.iload_n 2, 1) := by decide +kernel
theorem dX9_houseClause_44 : decode cX9_houseClause 44 = .ok (.ireturn, 1) := by decide +kernel
theorem dX9_houseClause_45 : decode cX9_houseClause 45 = .ok (.aload_n 0, 1) := by decide +kernel
theorem dX9_houseClause_46 : decode cX9_houseClause 46 = .ok (.invokevirtual 156, 3) := by decide +kernel
theorem dX9_houseClause_49 : decode cX9_houseClause 49 = .ok (.ifCond .ne 5, 3) := by decide +kernel
theorem dX9_houseClause_52 : decode cX9_houseClause 52 = .ok (.iconst 1, 1) := by decide +kernel
theorem dX9_houseClause_53 : decode cX9_houseClause 53 = .ok (.ireturn, 1) := by decide +kernel
theorem dX9_houseClause_54 : decode cX9_houseClause 54 = .ok (.aload_n 0, 1) := by decide +kernel
theorem dX9_houseClause_55 : decode cX9_houseClause 55 = .ok (.invokevirtual 184, 3) := by decide +kernel
theorem dX9_houseClause_58 : decode cX9_houseClause 58 = .ok (.aload_n 0, 1) := by decide +kernel
theorem dX9_houseClause_59 : decode cX9_houseClause 59 = .ok (.iload_n 1, 1) := by decide +kernel
theorem dX9_houseClause_60 : decode cX9_houseClause 60 = .ok (.iconst 3, 1) := by decide +kernel
theorem dX9_houseClause_61 : decode cX9_houseClause 61 = .ok (.iadd, 1) := by decide +kernel
theorem dX9_houseClause_62 : decode cX9_houseClause 62 = .ok (.iconst 0, 1) := by decide +kernel
theorem dX9_houseClause_63 : decode cX9_houseClause 63 = .ok (.bipush 99, 2) := by decide +kernel
theorem dX9_houseClause_65 : decode cX9_houseClause 65 = .ok (.invokevirtual 228, 3) := by decide +kernel
theorem dX9_houseClause_68 : decode cX9_houseClause 68 = .ok (.ireturn, 1) := by decide +kernel
def lX9_houseClause_39 (F : Nat)  (t : Nat) (a1 : Int32) (S : mS) (v2 : Int32) : Option (mS × Int32) := if v2 = 0 then (bd (f_X9_isFriends F S t) fun q1 => if q1 = true then (bd (f_X9_nextToken F S t) fun q2 => bd (f_X9_figure F q2 t (a1 + (3 : Int32)) (0 : Int32) (99 : Int32)) fun q3 => some (q3.1, q3.2)) else (some (S, (1 : Int32)))) else (some (S, v2))
set_option maxHeartbeats 4000000 in
set_option maxRecDepth 100000 in
theorem gX9_houseClause_39 {x : mX} {F : Nat} {t : Nat} {a1 : Int32}  {R : mS × Int32} (ht : kd0 t = 9)  (S : mS) (v2 : Int32)  (h : lX9_houseClause_39 F  t a1 S v2 = some R) : mG x μX9_houseClause 6 0 0 (mQe R.1 (some (.int R.2))) 0 0 E0 S 39 [(0, .ref (t)), (1, .int (a1)), (2, .int (v2))] [] := by
  unfold lX9_houseClause_39 at h
  refine mG.iload_n 2 dX9_houseClause_39 rfl ?_
  refine mG.if_eq 45 dX9_houseClause_40 (by decide) (fun c5 => ?_) (fun c5 => ?_)
  · replace h := itp c5 h
    refine mG.aload_n 0 dX9_houseClause_45 rfl ?_
    obtain ⟨q1, hq1, h⟩ := bdp h
    refine mG.callV0 (as := []) (st := []) (S2 := S) (r := some (.int (bI (q1)))) dX9_houseClause_46 mvX9_isFriends wk23_6 rfl ht rfl (by decide) (Nat.le_of_ble_eq_true rfl) (c_X9_isFriends ht hq1) ?_
    refine mG.ifz_ne (b := q1) 54 dX9_houseClause_49 (by decide) (fun c4 => ?_) (fun c4 => ?_)
    · replace h := itp c4 h
      refine mG.aload_n 0 dX9_houseClause_54 rfl ?_
      obtain ⟨q2, hq2, h⟩ := bdp h
      refine mG.callV0 (as := []) (st := []) (S2 := q2) (r := none) dX9_houseClause_55 mvX9_nextToken wk20_10 rfl ht rfl (by decide) (Nat.le_of_ble_eq_true rfl) (c_X9_nextToken ht hq2) ?_
      refine mG.aload_n 0 dX9_houseClause_58 rfl ?_
      refine mG.iload_n 1 dX9_houseClause_59 rfl ?_
      refine mG.iconst (v := 3) dX9_houseClause_60 rfl ?_
      refine mG.iadd dX9_houseClause_61 ?_
      refine mG.iconst (v := 0) dX9_houseClause_62 rfl ?_
      refine mG.bipush (v := 99) dX9_houseClause_63 (by decide) ?_
      obtain ⟨q3, hq3, h⟩ := bdp h
      refine mG.callV0 (as := [.int (a1 + (3 : Int32)), .int 0, .int 99]) (st := []) (S2 := q3.1) (r := some (.int (q3.2))) dX9_houseClause_65 mvX9_figure wk22_22 rfl ht rfl (by decide) (Nat.le_of_ble_eq_true rfl) (c_X9_figure ht hq3) ?_
      obtain rfl := Option.some.inj h
      exact mG.iret dX9_houseClause_68 rfl ⟨rfl, rfl, rfl⟩
    · replace h := itn c4 h
      refine mG.iconst (v := 1) dX9_houseClause_52 rfl ?_
      obtain rfl := Option.some.inj h
      exact mG.iret dX9_houseClause_53 rfl ⟨rfl, rfl, rfl⟩
  · replace h := itn c5 h
    refine mG.iload_n 2 dX9_houseClause_43 rfl ?_
    obtain rfl := Option.some.inj h
    exact mG.iret dX9_houseClause_44 rfl ⟨rfl, rfl, rfl⟩
def f_X9_houseClause (F : Nat) (S : mS) (t : Nat) (a1 : Int32) : Option (mS × Int32) := bd (f_X9_figure F S t (a1 + (1 : Int32)) (0 : Int32) (19 : Int32)) fun q1 => if q1.2 = 0 then (bd (f_X9_worded F q1.1 t (f_X9_w5 q1.1 (112 : Int32) (117 : Int32) (114 : Int32) (115 : Int32) (101 : Int32)) (a1 + (2 : Int32)) (9999 : Int32)) fun q2 => lX9_houseClause_39 F  t a1 q2.1 q2.2) else (lX9_houseClause_39 F  t a1 q1.1 q1.2)
set_option maxHeartbeats 4000000 in
set_option maxRecDepth 100000 in
theorem c_X9_houseClause {F : Nat} {S : mS} {t : Nat} {a1 : Int32} {R : mS × Int32} (ht : kd0 t = 9) (h : f_X9_houseClause F S t a1 = some R) : mCt μX9_houseClause 6 0 0 E0 S [.ref (t), .int (a1)] (mQe R.1 (some (.int R.2))) := by
  unfold f_X9_houseClause at h
  refine mCt.of (by decide) (Nat.le_of_ble_eq_true rfl) ?_
  intro x
  refine mG.aload_n 0 dX9_houseClause_0 rfl ?_
  refine mG.iload_n 1 dX9_houseClause_1 rfl ?_
  refine mG.iconst (v := 1) dX9_houseClause_2 rfl ?_
  refine mG.iadd dX9_houseClause_3 ?_
  refine mG.iconst (v := 0) dX9_houseClause_4 rfl ?_
  refine mG.bipush (v := 19) dX9_houseClause_5 (by decide) ?_
  obtain ⟨q1, hq1, h⟩ := bdp h
  refine mG.callV0 (as := [.int (a1 + (1 : Int32)), .int 0, .int 19]) (st := []) (S2 := q1.1) (r := some (.int (q1.2))) dX9_houseClause_7 mvX9_figure wk22_22 rfl ht rfl (by decide) (Nat.le_of_ble_eq_true rfl) (c_X9_figure ht hq1) ?_
  refine mG.istore_n (lv2 := [(2, .int (q1.2)), (0, .ref (t)), (1, .int (a1))]) dX9_houseClause_10 rfl (by decide) rfl ?_
  refine mG.iload_n 0 dX9_houseClause_11 rfl ?_
  refine mG.if_ne 39 dX9_houseClause_12 (by decide) (fun c3 => ?_) (fun c3 => ?_)
  · replace h := itn c3 h
    refine mG.sub (lv2 := [(0, .ref (t)), (1, .int (a1)), (2, .int (q1.2))]) [1, 2, 0] rfl ?_
    exact gX9_houseClause_39 ht   q1.1 q1.2  h
  · replace h := itp c3 h
    refine mG.aload_n 1 dX9_houseClause_15 rfl ?_
    refine mG.bipush (v := 112) dX9_houseClause_16 (by decide) ?_
    refine mG.bipush (v := 117) dX9_houseClause_18 (by decide) ?_
    refine mG.bipush (v := 114) dX9_houseClause_20 (by decide) ?_
    refine mG.bipush (v := 115) dX9_houseClause_22 (by decide) ?_
    refine mG.bipush (v := 101) dX9_houseClause_24 (by decide) ?_
    refine mG.callS0 (as := [.int 112, .int 117, .int 114, .int 115, .int 101]) (st := [.ref (t)]) (S2 := q1.1) (r := some (.long (f_X9_w5 q1.1 (112 : Int32) (117 : Int32) (114 : Int32) (115 : Int32) (101 : Int32)))) dX9_houseClause_26 mbX9_w5 wk21_17 wk21_16 rfl rfl (by decide) (Nat.le_of_ble_eq_true rfl) (c_X9_w5  rfl) ?_
    refine mG.iload_n 2 dX9_houseClause_29 rfl ?_
    refine mG.iconst (v := 2) dX9_houseClause_30 rfl ?_
    refine mG.iadd dX9_houseClause_31 ?_
    refine mG.sipush (v := 9999) dX9_houseClause_32 (by decide) ?_
    obtain ⟨q2, hq2, h⟩ := bdp h
    refine mG.callV0 (as := [.long (f_X9_w5 q1.1 (112 : Int32) (117 : Int32) (114 : Int32) (115 : Int32) (101 : Int32)), .int (a1 + (2 : Int32)), .int 9999]) (st := []) (S2 := q2.1) (r := some (.int (q2.2))) dX9_houseClause_35 mvX9_worded wk23_2 rfl ht rfl (by decide) (Nat.le_of_ble_eq_true rfl) (c_X9_worded ht hq2) ?_
    refine mG.istore_n (lv2 := [(2, .int (q2.2)), (0, .ref (t)), (1, .int (a1))]) dX9_houseClause_38 rfl (by decide) rfl ?_
    refine mG.sub (lv2 := [(0, .ref (t)), (1, .int (a1)), (2, .int (q2.2))]) [1, 2, 0] rfl ?_
    exact gX9_houseClause_39 ht   q2.1 q2.2  h
