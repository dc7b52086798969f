theorem law_cmp {L i : Nat} (hL : L ≤ 3072) (hi : i ≤ 4000) : (nI L - 6 < nI i) ↔ L < i + 6 := by
  have h1 : (nI L - nI 6).toInt = (L : Int) - 6 := pk_sub_toInt (by omega) (by omega)
  have h2 : (nI i).toInt = (i : Int) := nI_toInt (by omega)
  have h3 : (nI L - 6 : Int32) = nI L - nI 6 := rfl
  rw [h3, Int32.lt_iff_toInt_lt, h1, h2]
  omega
def QL : mQt := fun _ _ r => r = some (.int 1)
set_option maxHeartbeats 4000000 in
set_option maxRecDepth 100000 in
theorem law_loop {x : mX} {nc ns : Nat} {Inv : mS → Prop} (h1 : nc ≤ 600000) (h2 : ns ≤ 7302250) (hL : x.2.2.2.2.2.2.1 ≤ 3072) (ha : AllSteps Inv) : ∀ (n i : Nat) (S : mS), x.2.2.2.2.2.2.1 ≤ i + n → i ≤ 3100 → Inv S → mG x μL 2000 600000 7302250 QL nc ns E0 S 18 (lvL i) [] := by
  intro n
  induction n with
  | zero =>
    intro i S h3 h4 hI
    refine mG.iload_n 0 dL_law_18 rfl ?_
    refine mG.sload_n 3 dL_law_19 rfl ?_
    refine mG.scrLen (n := nI x.2.2.2.2.2.2.1) dL_law_20 rfl ?_
    refine mG.bipush (v := 6) dL_law_21 (by decide) ?_
    refine mG.isub dL_law_23 ?_
    refine mG.icmp_gt 1597 dL_law_24 (by decide) (fun c => ?_) (fun c => absurd ((law_cmp hL (by omega)).mpr (by omega)) c)
    refine mG.iconst (v := 1) dL_law_1597 rfl ?_
    exact mG.iretW dL_law_1598 rfl (Or.inr rfl) h1 h2 rfl
  | succ n ih =>
    intro i S h3 h4 hI
    refine mG.iload_n 0 dL_law_18 rfl ?_
    refine mG.sload_n 3 dL_law_19 rfl ?_
    refine mG.scrLen (n := nI x.2.2.2.2.2.2.1) dL_law_20 rfl ?_
    refine mG.bipush (v := 6) dL_law_21 (by decide) ?_
    refine mG.isub dL_law_23 ?_
    refine mG.icmp_gt 1597 dL_law_24 (by decide) (fun c => ?_) (fun c => ?_)
    · refine mG.iconst (v := 1) dL_law_1597 rfl ?_
      exact mG.iretW dL_law_1598 rfl (Or.inr rfl) h1 h2 rfl
    · have hi : i + 6 ≤ x.2.2.2.2.2.2.1 := by
        have := mt (law_cmp hL (by omega)).mpr c
        omega
      refine law_body h1 h2 hi hL hI ha (fun S2 hI2 => ?_)
      refine mG.iinc 0 (u := nI (i + 6)) (lv2 := lvL (i + 6)) dL_law_1591 rfl (nI_add i 6) (by decide) rfl ?_
      refine mG.goto 18 dL_law_1594 (by decide) ?_
      exact ih (i + 6) S2 (by omega) (by omega) hI2
/-- where the law's loop begins: both objects new -/
def Begins (Inv : mS → Prop) : Prop := ∀ S : mS, ∃ (F : Nat) (S2 : mS), f_X9_copy F (sM (xS eE S 375)) 376 377 = some S2 ∧ Inv S2
set_option maxHeartbeats 4000000 in
set_option maxRecDepth 100000 in
theorem law_start {x : mX} {Inv : mS → Prop} (hL : x.2.2.2.2.2.2.1 ≤ 3072) (hb : Begins Inv) (ha : AllSteps Inv) (S : mS) : mG x μL 2000 600000 7302250 QL 0 0 eE S 0 [(0, .float 5)] [] := by
  obtain ⟨F, S2, hc, hI⟩ := hb S
  refine mG.new (ci := 8) dL_law_0 (by decide) wk1_0 wk1_1 wk1_2 (by decide) (by decide) ?_
  refine mG.dup dL_law_3 rfl ?_
  refine mG.callI (as := []) (st := [.ref 0]) dL_law_4 mbX8_init rfl ⟨rfl, wk1_7⟩ wk1_6 rfl rfl (by decide) (by decide) (by decide) (Nat.le_of_ble_eq_true rfl) (k_X8 eE S (by decide +kernel) (fun _ _ _ => rfl)) (fun E2 S2 r h => by rw [h.1]; rfl) (fun E2 S3 r h => ?_)
  obtain ⟨rfl, rfl, rfl⟩ := h
  refine mG.astore_n (lv2 := [(1, .ref 0), (0, .float 5)]) dL_law_7 rfl (by decide) rfl ?_
  refine mG.new (ci := 9) dL_law_8 (by decide) wk1_3 wk1_4 wk1_5 (by decide) (by decide) ?_
  refine mG.dup dL_law_11 rfl ?_
  refine mG.callI (as := []) (st := [.ref 375]) dL_law_12 mbX9_init rfl ⟨rfl, wk5_7⟩ wk5_6 rfl rfl (by decide) (by decide) (by decide) (Nat.le_of_ble_eq_true rfl) (k_X9 (S := xS eE S 375) hc) (fun E2 S3 r h => by rw [h.1]; rfl) (fun E2 S3 r h => ?_)
  obtain ⟨rfl, rfl, rfl⟩ := h
  refine mG.astore_n (lv2 := [(2, .ref 375), (1, .ref 0), (0, .float 5)]) dL_law_15 rfl (by decide) rfl ?_
  refine mG.iconst (v := 0) dL_law_16 rfl ?_
  refine mG.istore_n (lv2 := lvL 0) dL_law_17 rfl (by decide) rfl ?_
  exact law_loop (by decide) (by decide) hL ha x.2.2.2.2.2.2.1 0 S3 (by omega) (by decide) hI
