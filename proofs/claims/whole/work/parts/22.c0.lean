/-! ===== calls where no cell is made ===== -/
def mQe (S : mS) (r : Option Value) : mQt := fun E' S' r' => E' = E0 ∧ S' = S ∧ r' = r
theorem mG.callV0 {x : mX} {μ μ2 : mM} {d : Nat} {Q : mQt} {S S2 : mS} {pc idx d2 ci t n : Nat} {lv : List (Nat × Value)} {st as stk : List Value} {r : Option Value} (hd : decode μ.2.1 pc = .ok (.invokevirtual idx, 3)) (hV : mVs μ2 ci n) (hl2 : Cond.methodLink μ.1.cls idx μ2.1 ∈ wsL_law) (hn : as.length = n) (ht : kd0 t = ci) (hstk : stk = as.reverse ++ .ref t :: st) (hd2 : d2 + 1 ≤ d) (hrest : (st.map fun v => v.category).sum ≤ 8) (hc : mCt μ2 d2 0 0 E0 S (.ref t :: as) (mQe S2 r)) (kk : mG x μ d 0 0 Q 0 0 E0 S2 (pc + 3) lv (r.toList ++ st)) : mG x μ d 0 0 Q 0 0 E0 S pc lv stk :=
  mG.callV hd hV hl2 hn ht hstk hd2 (by decide) (by decide) hrest hc (fun E2 S3 r3 h => by rw [h.1]) (fun E2 S3 r3 h => by
    obtain ⟨rfl, rfl, rfl⟩ := h
    exact kk)
theorem mG.callS0 {x : mX} {μ μ2 : mM} {d : Nat} {Q : mQt} {S S2 : mS} {pc idx d2 n : Nat} {lv : List (Nat × Value)} {st as stk : List Value} {r : Option Value} (hd : decode μ.2.1 pc = .ok (.invokestatic idx, 3)) (hB : mB μ2 n) (hst2 : Cond.static μ2.1 ∈ wsL_law) (hl2 : Cond.methodLink μ.1.cls idx μ2.1 ∈ wsL_law) (hn : as.length = n) (hstk : stk = as.reverse ++ st) (hd2 : d2 + 1 ≤ d) (hrest : (st.map fun v => v.category).sum ≤ 8) (hc : mCt μ2 d2 0 0 E0 S as (mQe S2 r)) (kk : mG x μ d 0 0 Q 0 0 E0 S2 (pc + 3) lv (r.toList ++ st)) : mG x μ d 0 0 Q 0 0 E0 S pc lv stk :=
  mG.callS hd hB hst2 hl2 hn hstk hd2 (by decide) (by decide) hrest hc (fun E2 S3 r3 h => by rw [h.1]) (fun E2 S3 r3 h => by
    obtain ⟨rfl, rfl, rfl⟩ := h
    exact kk)
theorem mG.callSN0 {x : mX} {μ μ2 : mM} {d : Nat} {Q : mQt} {S S2 : mS} {pc idx d2 n : Nat} {lv : List (Nat × Value)} {st as stk : List Value} {r : Option Value} (hd : decode μ.2.1 pc = .ok (.invokestatic idx, 3)) (hB : mB μ2 n) (hst2 : Cond.static μ2.1 ∈ wsL_law) (hl2 : Cond.methodLinkNest μ.1.cls idx μ2.1 "ShutDays" ∈ mNW) (hn : as.length = n) (hstk : stk = as.reverse ++ st) (hd2 : d2 + 1 ≤ d) (hrest : (st.map fun v => v.category).sum ≤ 8) (hc : mCt μ2 d2 0 0 E0 S as (mQe S2 r)) (kk : mG x μ d 0 0 Q 0 0 E0 S2 (pc + 3) lv (r.toList ++ st)) : mG x μ d 0 0 Q 0 0 E0 S pc lv stk :=
  mG.callSN hd hB hst2 hl2 hn hstk hd2 (by decide) (by decide) hrest hc (fun E2 S3 r3 h => by rw [h.1]) (fun E2 S3 r3 h => by
    obtain ⟨rfl, rfl, rfl⟩ := h
    exact kk)
theorem mG.callVs0 {x : mX} {μ μ2 : mM} {d : Nat} {Q : mQt} {S S2 : mS} {pc idx d2 n : Nat} {lv : List (Nat × Value)} {st as stk : List Value} {r : Option Value} (i : Nat) (hi : i < 2) (hd : decode μ.2.1 pc = .ok (.invokevirtual idx, 3)) (hB : mB μ2 n) (hcl : μ2.1.cls = "java/lang/String") (hV1 : Cond.instanceMethod μ2.1 ∈ wsL_law) (hV2 : Cond.selects "java/lang/String" μ2.1 μ2.1 ∈ wsL_law) (hl2 : Cond.methodLink μ.1.cls idx μ2.1 ∈ wsL_law) (hn : as.length = n) (hstk : stk = as.reverse ++ .float (UInt32.ofNat i) :: st) (hd2 : d2 + 1 ≤ d) (hrest : (st.map fun v => v.category).sum ≤ 8) (hc : mCt μ2 d2 0 0 E0 S (.float (UInt32.ofNat i) :: as) (mQe S2 r)) (kk : mG x μ d 0 0 Q 0 0 E0 S2 (pc + 3) lv (r.toList ++ st)) : mG x μ d 0 0 Q 0 0 E0 S pc lv stk :=
  mG.callVs i hi hd hB hcl hV1 hV2 hl2 hn hstk hd2 (by decide) (by decide) hrest hc (fun E2 S3 r3 h => by rw [h.1]) (fun E2 S3 r3 h => by
    obtain ⟨rfl, rfl, rfl⟩ := h
    exact kk)
section RULES2
variable {x : mX} {μ : mM} {d mc ms : Nat} {Q : mQt} {nc ns : Nat} {E : mE} {S : mS} {pc : Nat} {lv : List (Nat × Value)} {st : List Value}
theorem mG.i2b {x1 : Int32} (hd : decode μ.2.1 pc = .ok (.i2b, 1)) (k : mG x μ d mc ms Q nc ns E S (pc + 1) lv (.int x1.toInt8.toInt32 :: st)) : mG x μ d mc ms Q nc ns E S pc lv (.int x1 :: st) := by
  intro p e R s m args below meth c H locs ls C hl hP hS
  exact lv_i2b C.1 C.2.1 hd rfl (k p e R s m args below meth c H locs ls C hl hP hS)
theorem mG.nret {v : Int32} {ty : FieldType} (hd : decode μ.2.1 pc = .ok (.ireturn, 1)) (hr : μ.2.2.2 = some ty) (hv : narrow ty (.int v) = .int v) (hq : Q E S (some (.int v))) : mG x μ d mc ms Q mc ms E S pc lv [.int v] := by
  intro p e R s m args below meth c H locs ls C hl hP hS
  exact W.zret C.1 C.2.1 (C.2.2.2.1.trans hr) hv (mEnd (r := some (.int v)) hq hP hS) (fun q h => hS.2.2 q h) hd C.2.2.2.2.2.2.1
theorem nchar {v : Int32} (h : inb v 65536 = true) : narrow .char (.int v) = .int v := by
  obtain ⟨j, hj, rfl⟩ := vp_in_of (inbp h) (by decide)
  exact (pk_charN hj).1
theorem nbyte {v : Int32} (h : inb v 2 = true) : narrow .byte (.int v) = .int v := by
  obtain ⟨j, hj, rfl⟩ := vp_in_of (inbp h) (by decide)
  rcases (by omega : j = 0 ∨ j = 1) with rfl | rfl <;> rfl
end RULES2
