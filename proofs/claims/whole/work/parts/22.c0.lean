/-! ===== calls where no cell is made ===== -/
def mQe (S : mS) (r : Option Value) : mQt := fun E' S' r' => E' = E0 ∧ S' = S ∧ r' = r
theorem mG.callV0 {μ μ2 : mM} {d : Nat} {Q : mQt} {S S2 : mS} {pc idx d2 ci t n : Nat} {lv : List (Nat × Value)} {st as stk : List Value} {r : Option Value} (hd : decode μ.2.1 pc = .ok (.invokevirtual idx, 3)) (hV : mVs μ2 ci n) (hl2 : Cond.methodLink μ.1.cls idx μ2.1 ∈ wsL_law) (hn : as.length = n) (ht : kd0 t = ci) (hstk : stk = as.reverse ++ .ref t :: st) (hd2 : d2 + 1 ≤ d) (hrest : (st.map fun v => v.category).sum ≤ 8) (hc : mCt μ2 d2 0 0 E0 S (.ref t :: as) (mQe S2 r)) (kk : mG μ d 0 0 Q 0 0 E0 S2 (pc + 3) lv (r.toList ++ st)) : mG μ d 0 0 Q 0 0 E0 S pc lv stk :=
  mG.callV hd hV hl2 hn ht hstk hd2 (by decide) (by decide) hrest hc (fun E2 S3 r3 h => by rw [h.1]) (fun E2 S3 r3 h => by
    obtain ⟨rfl, rfl, rfl⟩ := h
    exact kk)
theorem mG.callS0 {μ μ2 : mM} {d : Nat} {Q : mQt} {S S2 : mS} {pc idx d2 n : Nat} {lv : List (Nat × Value)} {st as stk : List Value} {r : Option Value} (hd : decode μ.2.1 pc = .ok (.invokestatic idx, 3)) (hB : mB μ2 n) (hst2 : Cond.static μ2.1 ∈ wsL_law) (hl2 : Cond.methodLink μ.1.cls idx μ2.1 ∈ wsL_law) (hn : as.length = n) (hstk : stk = as.reverse ++ st) (hd2 : d2 + 1 ≤ d) (hrest : (st.map fun v => v.category).sum ≤ 8) (hc : mCt μ2 d2 0 0 E0 S as (mQe S2 r)) (kk : mG μ d 0 0 Q 0 0 E0 S2 (pc + 3) lv (r.toList ++ st)) : mG μ d 0 0 Q 0 0 E0 S pc lv stk :=
  mG.callS hd hB hst2 hl2 hn hstk hd2 (by decide) (by decide) hrest hc (fun E2 S3 r3 h => by rw [h.1]) (fun E2 S3 r3 h => by
    obtain ⟨rfl, rfl, rfl⟩ := h
    exact kk)
theorem mG.callSN0 {μ μ2 : mM} {d : Nat} {Q : mQt} {S S2 : mS} {pc idx d2 n : Nat} {lv : List (Nat × Value)} {st as stk : List Value} {r : Option Value} (hd : decode μ.2.1 pc = .ok (.invokestatic idx, 3)) (hB : mB μ2 n) (hst2 : Cond.static μ2.1 ∈ wsL_law) (hl2 : Cond.methodLinkNest μ.1.cls idx μ2.1 "ShutDays" ∈ mNW) (hn : as.length = n) (hstk : stk = as.reverse ++ st) (hd2 : d2 + 1 ≤ d) (hrest : (st.map fun v => v.category).sum ≤ 8) (hc : mCt μ2 d2 0 0 E0 S as (mQe S2 r)) (kk : mG μ d 0 0 Q 0 0 E0 S2 (pc + 3) lv (r.toList ++ st)) : mG μ d 0 0 Q 0 0 E0 S pc lv stk :=
  mG.callSN hd hB hst2 hl2 hn hstk hd2 (by decide) (by decide) hrest hc (fun E2 S3 r3 h => by rw [h.1]) (fun E2 S3 r3 h => by
    obtain ⟨rfl, rfl, rfl⟩ := h
    exact kk)
