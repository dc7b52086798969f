theorem mNW_in : ∀ w ∈ mNW, w ∈ lw_tbl := by decide +kernel
theorem in_more : Cond.arrayOver (.object RX6) ∈ lw_tbl ∧ Cond.arrayOver (.object RX5) ∈ lw_tbl ∧ Cond.stringRef RX4 109 strT0 ∈ lw_tbl ∧ Cond.stringRef RX4 97 strT1 ∈ lw_tbl ∧ Cond.laysStatic "java/lang/String" "COMPACT_STRINGS" "Z" ∈ lw_tbl ∧ Cond.initialized "java/lang/String" ∈ lw_tbl ∧ Cond.laysStatic "jdk/internal/util/Preconditions" "SIOOBE_FORMATTER" "Ljava/util/function/BiFunction;" ∈ lw_tbl ∧ Cond.initialized "jdk/internal/util/Preconditions" ∈ lw_tbl := by decide +kernel
/-! THE CLAIM OUT OF ONE WALK OF THE LAW'S BODY. Your part is whole_start (and what it stands on); all else here is the same for every law, but numbers. -/
def R_law : String := "ShutDaysLaw"
def lw_P (b : Addr) (xs : List Int32) (args : Array Value) (s : State) : Prop := args = #[.ref b] ∧ s.IntsAt b xs ∧ xs.length ≤ 3072 ∧ (Jvm.Cond.and given_1 narrow_1).before args s = true
def lw_Q (_ : Array Value) (s : State) (o : Outcome) (t : State) : Prop := o = .returned (some (.int 1)) ∧ Framed s o t [] 600000 7302250
def lw_Z (below : List Frame) (a : Array Value) (s : State) : State → Prop := fun t => ∃ o, t.status = .running ∧ Ended t below o ∧ lw_Q a s o t
/-- the law's own end, with 1 on the stack, nothing written that was there before, its room as the claim has it -/
theorem lw_ret {p : Program} {l : Launch} {e : Env} {s : State} {m : MethodId} {below : List Frame} {meth : Method} {c : Code} {b : Nat} (hx : p.tables.exec = Jvm.exec) (hb : c.code = code) (hr : meth.sig.returnType = ret) (hlocks : meth.locks = false) {pc : Nat} {H : Heap} {ls : Array Slot} (hdg : decode code pc = .ok (.ireturn, 1)) : W p l e room_1 s m #[Value.ref b] below meth c H [] 600000 7302250 (lw_Z below #[Value.ref b] s) (F0 m pc ls [.int 1]) := by
  intro T hT X
  obtain ⟨fs, hret, hrun, hended, hW, hframe⟩ := X.leave (v := some (.int 1)) (hlocks := hlocks) (fun h => by rw [hr] at h; cases h)
  have hmeth' : T.vm.method? m = some meth := X.method'
  refine ⟨T.setFrames fs, ?_, .returned (some (.int 1)), hrun, hended, rfl, ⟨_, rfl⟩, hW, hframe⟩
  jvm_step X.here [X.here.top, hx, hb, hdg, hmeth', hr, ret, narrow_b1]
  (try refine ⟨rfl, ?_⟩); (try refine ⟨rfl, ?_⟩)
  first | (intro acts; rw [hret _ acts rfl rfl rfl]) | rw [hret _ _ rfl rfl rfl]
  exact Steps.refl _
/-- what holds at the law's entry: the machine, the code, the tables' words (any of lw_tbl by 'hts w (by decide +kernel)'), the script of L ints xs at the cell b, what the Statement gives of the start (any of its parts by flat_of_before) -/
def lw_At (p : Program) (s : State) (m : MethodId) (meth : Method) (c : Code) (b L : Nat) (xs : Nat → Int32) : Prop :=
  p.tables.exec = Jvm.exec ∧ c.code = code ∧ meth.sig.returnType = ret ∧ c.maxLocals = 4 ∧ s.vm.findClass R_law = some m.cls ∧ (∀ w ∈ lw_tbl, w.before #[Value.ref b] s = true) ∧ va_X b L xs s s.heap ∧ b < s.heap.size ∧ meth.locks = false ∧ (Jvm.Cond.and given_1 narrow_1).before #[Value.ref b] s = true

abbrev flat0 : List Cond := flatC (Jvm.Cond.and given_1 narrow_1)
def stm (i : Nat) : Term := if i = 0 then .string "ShutDays$Reader" 109 else .string "ShutDays$Reader" 97
theorem fl_ex : ∀ i, i < 2 → Cond.exactly (stm i) "java/lang/String" ∈ flat0 := by decide +kernel
theorem fl_co : ∀ i, i < 2 → Cond.eq (.field (stm i) "java/lang/String" "coder" "B") (.int 0) ∈ flat0 := by decide +kernel
theorem fl_ar : ∀ i, i < 2 → Cond.arrayOf (.field (stm i) "java/lang/String" "value" "[B") .byte ∈ flat0 := by decide +kernel
theorem fl_le : ∀ i, i < 2 → Cond.eq (.length (.field (stm i) "java/lang/String" "value" "[B")) (.int (Int32.ofNat (strL.getD i 0))) ∈ flat0 := by decide +kernel
def eC (j : Nat) : Cond := Cond.eq (.elem (.field (.string "ShutDays$Reader" 109) "java/lang/String" "value" "[B") (.int (Int32.ofNat j))) (.int ((strB.getD 0 []).getD j 0))
theorem fl_e0_0 : ∀ r, r < 8 → eC (8 * 0 + r) ∈ flat0 := by decide +kernel
theorem fl_e0_1 : ∀ r, r < 8 → eC (8 * 1 + r) ∈ flat0 := by decide +kernel
theorem fl_e0_2 : ∀ r, r < 8 → eC (8 * 2 + r) ∈ flat0 := by decide +kernel
theorem fl_e0_3 : ∀ r, r < 8 → eC (8 * 3 + r) ∈ flat0 := by decide +kernel
theorem fl_e0_4 : ∀ r, r < 8 → eC (8 * 4 + r) ∈ flat0 := by decide +kernel
theorem fl_e0_5 : ∀ r, r < 8 → eC (8 * 5 + r) ∈ flat0 := by decide +kernel
theorem fl_e0_6 : ∀ r, r < 8 → eC (8 * 6 + r) ∈ flat0 := by decide +kernel
theorem fl_e0_7 : ∀ r, r < 8 → eC (8 * 7 + r) ∈ flat0 := by decide +kernel
theorem fl_e0_8 : ∀ r, r < 8 → eC (8 * 8 + r) ∈ flat0 := by decide +kernel
theorem fl_e0_9 : ∀ r, r < 8 → eC (8 * 9 + r) ∈ flat0 := by decide +kernel
theorem fl_e0_10 : ∀ r, r < 8 → eC (8 * 10 + r) ∈ flat0 := by decide +kernel
theorem fl_e0_11 : ∀ r, r < 8 → eC (8 * 11 + r) ∈ flat0 := by decide +kernel
theorem fl_e0_12 : ∀ r, r < 8 → eC (8 * 12 + r) ∈ flat0 := by decide +kernel
theorem fl_e0_13 : ∀ r, r < 8 → eC (8 * 13 + r) ∈ flat0 := by decide +kernel
theorem fl_e0_14 : ∀ r, r < 8 → eC (8 * 14 + r) ∈ flat0 := by decide +kernel
theorem fl_e0_15 : ∀ r, r < 8 → eC (8 * 15 + r) ∈ flat0 := by decide +kernel
theorem fl_e0_16 : ∀ r, r < 8 → eC (8 * 16 + r) ∈ flat0 := by decide +kernel
theorem fl_e0_17 : ∀ r, r < 8 → eC (8 * 17 + r) ∈ flat0 := by decide +kernel
theorem fl_e0_18 : ∀ r, r < 8 → eC (8 * 18 + r) ∈ flat0 := by decide +kernel
theorem fl_e0_19 : ∀ r, r < 8 → eC (8 * 19 + r) ∈ flat0 := by decide +kernel
theorem fl_e0_20 : ∀ r, r < 8 → eC (8 * 20 + r) ∈ flat0 := by decide +kernel
theorem fl_e0_21 : ∀ r, r < 8 → eC (8 * 21 + r) ∈ flat0 := by decide +kernel
theorem fl_e0 (j : Nat) (hj : j < 176) : eC j ∈ flat0 := by
  have h1 : 8 * (j / 8) + j % 8 = j := by omega
  have h2 : j / 8 < 22 := by omega
  have h3 : j % 8 < 8 := by omega
  rw [← h1]
  generalize j / 8 = a at h2
  generalize j % 8 = r at h3
  match a, h2 with
  | 0, _ => exact fl_e0_0 r h3
  | 1, _ => exact fl_e0_1 r h3
  | 2, _ => exact fl_e0_2 r h3
  | 3, _ => exact fl_e0_3 r h3
  | 4, _ => exact fl_e0_4 r h3
  | 5, _ => exact fl_e0_5 r h3
  | 6, _ => exact fl_e0_6 r h3
  | 7, _ => exact fl_e0_7 r h3
  | 8, _ => exact fl_e0_8 r h3
  | 9, _ => exact fl_e0_9 r h3
  | 10, _ => exact fl_e0_10 r h3
  | 11, _ => exact fl_e0_11 r h3
  | 12, _ => exact fl_e0_12 r h3
  | 13, _ => exact fl_e0_13 r h3
  | 14, _ => exact fl_e0_14 r h3
  | 15, _ => exact fl_e0_15 r h3
  | 16, _ => exact fl_e0_16 r h3
  | 17, _ => exact fl_e0_17 r h3
  | 18, _ => exact fl_e0_18 r h3
  | 19, _ => exact fl_e0_19 r h3
  | 20, _ => exact fl_e0_20 r h3
  | 21, _ => exact fl_e0_21 r h3
  | k + 22, h => exact absurd h (by omega)
theorem fl_e1 : ∀ j, j < 11 → Cond.eq (.elem (.field (.string "ShutDays$Reader" 97) "java/lang/String" "value" "[B") (.int (Int32.ofNat j))) (.int ((strB.getD 1 []).getD j 0)) ∈ flat0 := by decide +kernel
theorem fl_ne : Cond.not (.eq (stm 0) (stm 1)) ∈ flat0 ∨ Cond.not (.eq (stm 1) (stm 0)) ∈ flat0 := by decide +kernel
theorem fl_cs : Cond.eq (.static "java/lang/String" "COMPACT_STRINGS" "Z") (.int 1) ∈ flat0 := by decide +kernel
theorem fl_fm : Cond.isRef (.static "jdk/internal/util/Preconditions" "SIOOBE_FORMATTER" "Ljava/util/function/BiFunction;") ∈ flat0 := by decide +kernel
theorem isRef_eval {args : Array Value} {s : State} {t : Term} (h : (Cond.isRef t).before args s = true) : ∃ r : Option Nat, t.eval args s none [] s = some (va_rf r) := by
  cases hv : t.eval args s none [] s with
  | none => simp [Cond.before, Cond.holds, Cond.value, hv] at h
  | some v =>
    cases v with
    | ref a => exact ⟨some a, rfl⟩
    | null => exact ⟨none, rfl⟩
    | _ => simp [Cond.before, Cond.holds, Cond.value, hv, Value.isRef] at h
theorem arr_prim {args : Array Value} {s : State} {ty : FieldType} (h : (Cond.arrayClass ty).before args s = true) : ∃ cA, ArrOfT s cA ty ∧ s.vm.findClass ("[" ++ ty.toString) = some cA := by
  obtain ⟨cA, kA, comp, hfind, hk, hkind⟩ := Cond.arrayClass_spec h
  exact ⟨cA, fun n z => ⟨(fun k h => (by cases h)), kA, hk, comp, hkind⟩, hfind⟩
theorem arr_obj {args : Array Value} {s : State} {C : String} (h : (Cond.arrayOver (.object C)).before args s = true) : ∃ cA, ArrOfT s cA (.object C) ∧ va_RA s cA (.object C) := by
  obtain ⟨comp, cA, kA, h1, h2, h3, h4, h5⟩ := Cond.arrayOver_spec h
  exact ⟨cA, fun n z => ⟨(fun k h => (by cases h)), kA, h3, comp, h4⟩, kA, comp, h3, h4, h1, h5⟩
/-- what the judgement gives, as the claim has it -/
theorem law_conv {x : mX} {s t : State} {below : List Frame} {a : Array Value} (hz : x.2.1 = s.heap.size) (h : MQ below (mQ x QL) a s 600000 7302250 (mA x) t) : lw_Z below a s t := by
  obtain ⟨o, h1, h2, ⟨⟨E, S, r, hq, ho, -⟩, -⟩, Ls, ⟨hv, hW, hsame⟩, hLs⟩ := h
  have hq : r = some (.int 1) := hq
  subst hq
  refine ⟨o, h1, h2, ho, hv, hW, ?_⟩
  obtain ⟨k1, k2, k3, k4, k5, k6⟩ := hsame
  refine ⟨k1, k2, k3, k4, k5, fun q c hc => ?_⟩
  obtain ⟨c', e1, e2, e3, e4⟩ := k6 q c hc
  refine ⟨c', e1, e2, e3, fun i _ => e4 i (fun hin => ?_)⟩
  have h7 : x.2.1 ≤ q := hLs _ hin
  have h8 : q < s.heap.size := (Array.getElem?_eq_some_iff.mp hc).1
  rw [hz] at h7
  exact Nat.lt_irrefl _ (Nat.lt_of_lt_of_le h8 h7)
set_option maxHeartbeats 4000000 in
set_option maxRecDepth 100000 in
theorem whole_open {Inv : mS → Prop} (hB : Begins Inv) (hA : AllSteps Inv) {p : Program} {e : Env} {s : State} {m : MethodId} {below : List Frame} {meth : Method} {c : Code} (l : Launch) {b L : Nat} {xs : Nat → Int32} (hL : L ≤ 3072) (C0 : lw_At p s m meth c b L xs) : W p l e room_1 s m #[Value.ref b] below meth c s.heap [] 0 0 (lw_Z below #[Value.ref b] s) (entryFrame m ([Value.ref b] : List Value).toArray 4) := by
  obtain ⟨hx, hb, hr, hml, hown, hts, hX, hbl, hlocks, hgv⟩ := id C0
  have hw : ∀ w ∈ wsL_law, w.before #[Value.ref b] s = true := fun w h => hts w (wsL_law_in w h)
  have hfl := flat_of_before _ hgv
  obtain ⟨c0, iS0, hKn0⟩ := u_known (C := RX0) (T := TX0) (N := 3) (n := 3) hw inlX0 (hw _ wk2_21)
  obtain ⟨c1, iS1, hKn1⟩ := u_known (C := RX1) (T := TX1) (N := 2) (n := 2) hw inlX1 (hw _ wk2_17)
  obtain ⟨c2, iS2, hKn2⟩ := u_known (C := RX2) (T := TX2) (N := 5) (n := 5) hw inlX2 (hw _ wk2_13)
  obtain ⟨c3, iS3, hKn3⟩ := u_known (C := RX3) (T := TX3) (N := 3) (n := 3) hw inlX3 (hw _ wk2_0)
  obtain ⟨c4, iS4, hKn4⟩ := u_known (C := RX4) (T := TX4) (N := 9) (n := 9) hw inlX4 (hw _ wk1_15)
  obtain ⟨c5, iS5, hKn5⟩ := u_known (C := RX5) (T := TX5) (N := 6) (n := 6) hw inlX5 (hw _ wk1_20)
  obtain ⟨c6, iS6, hKn6⟩ := u_known (C := RX6) (T := TX6) (N := 9) (n := 9) hw inlX6 (hw _ wk2_9)
  obtain ⟨c7, iS7, hKn7⟩ := u_known (C := RX7) (T := TX7) (N := 13) (n := 13) hw inlX7 (hw _ wk2_4)
  obtain ⟨c8, iS8, hKn8⟩ := u_known (C := RX8) (T := TX8) (N := 13) (n := 13) hw inlX8 (hw _ wk1_1)
  obtain ⟨c9, iS9, hKn9⟩ := u_known (C := RX9) (T := TX9) (N := 36) (n := 36) hw inlX9 (hw _ wk1_4)
  obtain ⟨cI, aI1, aI2⟩ := arr_prim (hw _ wAr_newI)
  obtain ⟨cJ, aJ1, aJ2⟩ := arr_prim (hw _ wAr_newL)
  obtain ⟨cZ, aZ1, aZ2⟩ := arr_prim (hw _ wAr_newZ)
  obtain ⟨cT, aT1, aT2⟩ := arr_obj (hts _ in_more.1)
  obtain ⟨cX, aX1, aX2⟩ := arr_obj (hts _ in_more.2.1)
  have hnA : ∀ q : Nat, q < s.heap.size → ¬ s.heap.size ≤ q := fun q h => by omega
  obtain ⟨adK, adV, hstr, hadr⟩ := vk_Sof (N := 2) (tm := stm) (len := strL) (byt := strB) (A := fun q => s.heap.size ≤ q) (by decide) (fun i hi => hfl _ (fl_ex i hi)) (fun i hi => hfl _ (fl_co i hi)) (fun i hi => hfl _ (fl_ar i hi)) (fun i hi => hfl _ (fl_le i hi)) (fun i hi j hj => by
    rcases (by omega : i = 0 ∨ i = 1) with rfl | rfl
    · exact hfl _ (fl_e0 j hj)
    · exact hfl _ (fl_e1 j hj)) (fun i j hi hj hij => by
    rcases (by omega : (i = 0 ∧ j = 1) ∨ (i = 1 ∧ j = 0)) with ⟨rfl, rfl⟩ | ⟨rfl, rfl⟩
    · exact fl_ne.imp (hfl _) (hfl _)
    · exact fl_ne.symm.imp (hfl _) (hfl _)) hnA
  obtain ⟨fm, hfm⟩ := isRef_eval (hfl _ fl_fm)
  let x : mX := (l, s.heap.size, (fun k => match k with
    | 0 => c0
    | 1 => c1
    | 2 => c2
    | 3 => c3
    | 4 => c4
    | 5 => c5
    | 6 => c6
    | 7 => c7
    | 8 => c8
    | _ => c9, fun k => match k with
    | 0 => iS0
    | 1 => iS1
    | 2 => iS2
    | 3 => iS3
    | 4 => iS4
    | 5 => iS5
    | 6 => iS6
    | 7 => iS7
    | 8 => iS8
    | _ => iS9), fun k => match k with
    | 0 => cI
    | 1 => cJ
    | 2 => cZ
    | 3 => cT
    | _ => cX, s.heap, fun u => if u = 0 then some (adK 0) else if u = 1 then some (adK 1) else if u = 2 then some (adV 0) else if u = 3 then some (adV 1) else if u = 4 then fm else some b, L, xs)
  have hK1 : va_K x.2.2.1 vwCl (mty5 x) s := by
    refine ⟨fun k q hq => ?_, fun k q hq => ?_⟩
    · match k, hq with
      | 0, hq => cases hq; exact hKn0
      | 1, hq => cases hq; exact hKn1
      | 2, hq => cases hq; exact hKn2
      | 3, hq => cases hq; exact hKn3
      | 4, hq => cases hq; exact hKn4
      | 5, hq => cases hq; exact hKn5
      | 6, hq => cases hq; exact hKn6
      | 7, hq => cases hq; exact hKn7
      | 8, hq => cases hq; exact hKn8
      | 9, hq => cases hq; exact hKn9
      | k + 10, hq => simp [vwCl] at hq
    · match k, hq with
      | 0, hq => cases hq; exact ⟨aI1, aI2⟩
      | 1, hq => cases hq; exact ⟨aJ1, aJ2⟩
      | 2, hq => cases hq; exact ⟨aZ1, aZ2⟩
      | 3, hq => cases hq; exact ⟨aT1, aT2⟩
      | 4, hq => cases hq; exact ⟨aX1, aX2⟩
      | k + 5, hq => simp [mty5] at hq
  have hS1 : mStr x s := ⟨adK, adV, hstr, vk_R.of (hts _ in_more.2.2.1) (hadr 0 (by decide)), vk_R.of (hts _ in_more.2.2.2.1) (hadr 1 (by decide)), rfl, rfl, rfl, rfl, va_Zof (hts _ in_more.2.2.2.2.1) (hts _ in_more.2.2.2.2.2.1) (va_eqi (hfl _ fl_cs)) hnA, va_Zof (hts _ in_more.2.2.2.2.2.2.1) (hts _ in_more.2.2.2.2.2.2.2) hfm hnA, b, rfl, hX, hbl, hnA b hbl⟩
  have hK : mK x s := ⟨hK1, fun a i y h hq => va_Nw.of rfl (hts _ (mNW_in _ hq)), va_AO.of (hts _ in_more.1), va_AO.of (hts _ in_more.2.1), hS1⟩
  have hl := lv_entry ([.ref b]) (n := 4) (Nat.le_of_ble_eq_true rfl)
  rw [lg_entry_eq]
  have hG := law_start (x := x) hL hB hA ((fun _ _ => 0), (fun _ _ => 0)) p e room_1 s m #[Value.ref b] below meth c s.heap [] _ ⟨hx, hb, hml, hr, hown, hw, hlocks, (fun h => absurd (show "law" = "<init>" from h) (by decide)), by decide, by decide, rfl, rfl, hK, rfl, Nat.le_refl _⟩ hl ⟨fun k q h => by simp [mW, eE] at h, fun _ _ => rfl, fun _ _ => rfl⟩ va_S.rf
  intro T hT X
  obtain ⟨t, h1, h2⟩ := hG T hT X
  exact ⟨t, h1, law_conv rfl h2⟩
