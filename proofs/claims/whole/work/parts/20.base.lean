/-! ===== the small world: cells by their numbers 0 .., at the addresses base, base + 1 .. ===== -/
/-- how many cells; a cell's kind (0 .. 9: its class in vwCl; 10 int[], 11 long[], 12 boolean[], 13 Town[], 14 Text[]; 99 none); an array's length; the references that a cell holds -/
abbrev mE : Type := Nat × (Nat → Nat) × (Nat → Nat) × (Nat → Nat → Option Nat)
/-- the ints and the longs that the cells hold -/
abbrev mS : Type := (Nat → Nat → Int32) × (Nat → Nat → Int64)
/-- launch, base, the classes' numbers and slots, the array classes, the heap at the start, the String constants and what they hold (0, 1 the Strings, 2, 3 their bytes, 4 a static, 5 the script), the script's length and ints -/
abbrev mX : Type := Launch × Nat × va_G × (Nat → ClassId) × Heap × (UInt32 → Option Nat) × Nat × (Nat → Int32)
/-- a method: name, code, locals, what it answers -/
abbrev mM : Type := MethodName × ByteArray × Nat × Option FieldType
abbrev mQt : Type := mE → mS → Option Value → Prop
def em (b : mX) (v : Value) : Value := match v with
  | .ref k => .ref (b.2.1 + k)
  | .float u => va_rf (b.2.2.2.2.2.1 u)
  | v => v
theorem em_cat (b : mX) (v : Value) : (em b v).category = v.category := by
  cases v with
  | float u =>
    show (va_rf (b.2.2.2.2.2.1 u)).category = 1
    cases b.2.2.2.2.2.1 u <;> rfl
  | _ => rfl
def fv (ty : FieldType) (i : Int32) (j : Int64) (r : Option Nat) : Value := match ty with
  | .long => .long j
  | .object _ => va_rf r
  | .array _ => va_rf r
  | _ => .int i
def mT (ci : Nat) : u_T := match ci with
  | 0 => TX0
  | 1 => TX1
  | 2 => TX2
  | 3 => TX3
  | 4 => TX4
  | 5 => TX5
  | 6 => TX6
  | 7 => TX7
  | 8 => TX8
  | _ => TX9
def mty (ci : Nat) : Nat → FieldType := match ci with
  | 0 => tyX0
  | 1 => tyX1
  | 2 => tyX2
  | 3 => tyX3
  | 4 => tyX4
  | 5 => tyX5
  | 6 => tyX6
  | 7 => tyX7
  | 8 => tyX8
  | _ => tyX9
def mN (ci : Nat) : Nat := match ci with
  | 0 => 3
  | 1 => 2
  | 2 => 5
  | 3 => 3
  | 4 => 9
  | 5 => 6
  | 6 => 9
  | 7 => 13
  | 8 => 13
  | 9 => 36
  | _ => 0
def mR (ci : Nat) : String := match ci with
  | 0 => RX0
  | 1 => RX1
  | 2 => RX2
  | 3 => RX3
  | 4 => RX4
  | 5 => RX5
  | 6 => RX6
  | 7 => RX7
  | 8 => RX8
  | _ => RX9
theorem mcl (ci : Nat) (h : ci < 10) : vwCl[ci]? = some (mR ci, mT ci, mN ci) := match ci, h with
  | 0, _ => rfl
  | 1, _ => rfl
  | 2, _ => rfl
  | 3, _ => rfl
  | 4, _ => rfl
  | 5, _ => rfl
  | 6, _ => rfl
  | 7, _ => rfl
  | 8, _ => rfl
  | 9, _ => rfl
  | k + 10, h => absurd h (by omega)
theorem mws (ci : Nat) (h : ci < 10) : ∀ w ∈ u_ws (mR ci) (mT ci) (mN ci), w ∈ wsL_law := match ci, h with
  | 0, _ => inlX0
  | 1, _ => inlX1
  | 2, _ => inlX2
  | 3, _ => inlX3
  | 4, _ => inlX4
  | 5, _ => inlX5
  | 6, _ => inlX6
  | 7, _ => inlX7
  | 8, _ => inlX8
  | 9, _ => inlX9
  | k + 10, h => absurd h (by omega)
theorem mty_ok (ci : Nat) (h : ci < 10) : ∀ k, k < mN ci → parseFieldDescriptor (mT ci k).2.2.1 = some (mty ci k) := match ci, h with
  | 0, _ => tyX0_ok
  | 1, _ => tyX1_ok
  | 2, _ => tyX2_ok
  | 3, _ => tyX3_ok
  | 4, _ => tyX4_ok
  | 5, _ => tyX5_ok
  | 6, _ => tyX6_ok
  | 7, _ => tyX7_ok
  | 8, _ => tyX8_ok
  | 9, _ => tyX9_ok
  | k + 10, h => absurd h (by omega)
theorem mnm (ci : Nat) (h : ci < 10) : ∀ a, a < mN ci → ∀ b, b < mN ci → a ≠ b → (mT ci a).2.1 ≠ (mT ci b).2.1 := match ci, h with
  | 0, _ => nmX0
  | 1, _ => nmX1
  | 2, _ => nmX2
  | 3, _ => nmX3
  | 4, _ => nmX4
  | 5, _ => nmX5
  | 6, _ => nmX6
  | 7, _ => nmX7
  | 8, _ => nmX8
  | 9, _ => nmX9
  | k + 10, h => absurd h (by omega)
def mfs (b : mX) (ci : Nat) (i : Nat → Int32) (j : Nat → Int64) (r : Nat → Option Nat) : List Value := (List.range (mN ci)).map (fun k => em b (fv (mty ci k) (i k) (j k) (r k)))
def mrs (b : Nat) (r : Nat → Option Nat) : Nat → Option Nat := fun k => (r k).map (fun q => b + q)
def mce (x : mX) (kd ln : Nat) (i : Nat → Int32) (j : Nat → Int64) (r : Nat → Option Nat) : va_E :=
  if kd < 10 then .inr (kd, mfs x kd i j r)
  else if kd = 10 then .inl (x.2.2.2.1 0, ln, .inl i)
  else if kd = 11 then .inl (x.2.2.2.1 1, ln, .inr (.inl j))
  else if kd = 12 then .inl (x.2.2.2.1 2, ln, .inl i)
  else if kd = 13 then .inl (x.2.2.2.1 3, ln, .inr (.inr (.inr (.inr (mrs x.2.1 r)))))
  else .inl (x.2.2.2.1 4, ln, .inr (.inr (.inr (.inr (mrs x.2.1 r)))))
def mW (x : mX) (E : mE) (S : mS) : va_W := (List.range E.1).map (fun t => (x.2.1 + t, mce x (E.2.1 t) (E.2.2.1 t) (S.1 t) (S.2 t) (E.2.2.2 t)))
def mty5 (x : mX) : List (ClassId × FieldType) := [(x.2.2.2.1 0, .int), (x.2.2.2.1 1, .long), (x.2.2.2.1 2, .boolean), (x.2.2.2.1 3, .object RX6), (x.2.2.2.1 4, .object RX5)]
def mP (x : mX) (E : mE) (S : mS) (H : Heap) : Prop := va_P x.2.2.1 vwCl (mW x E S) H ∧ (∀ t, E.1 ≤ t → E.2.1 t = 99) ∧ ∀ q, q < x.2.1 → H[q]? = x.2.2.2.2.1[q]?
def mA (x : mX) : Nat → Prop := fun q => x.2.1 ≤ q
def mNW : List Cond := [.methodLinkNest "ShutDays" 15 ⟨"ShutDays$Reader", "<init>", "()V"⟩ "ShutDays", .methodLinkNest "ShutDays" 26 ⟨"ShutDays$Text", "<init>", "()V"⟩ "ShutDays", .methodLinkNest "ShutDays" 33 ⟨"ShutDays$Laws", "<init>", "()V"⟩ "ShutDays", .methodLinkNest "ShutDays" 50 ⟨"ShutDays$Town", "<init>", "()V"⟩ "ShutDays", .methodLinkNest "ShutDays" 57 ⟨"ShutDays$Guess", "<init>", "()V"⟩ "ShutDays", .methodLinkNest "ShutDays" 64 ⟨"ShutDays$Diary", "<init>", "()V"⟩ "ShutDays", .methodLinkNest "ShutDays" 71 ⟨"ShutDays$Couples", "<init>", "()V"⟩ "ShutDays", .methodLinkNest "ShutDays$Laws" 99 ⟨"ShutDays", "isWithin", "(III)Z"⟩ "ShutDays", .methodLinkNest "ShutDays$Reader" 11 ⟨"ShutDays$Text", "<init>", "()V"⟩ "ShutDays", .methodLinkNest "ShutDays$Reader" 118 ⟨"ShutDays", "isWithin", "(III)Z"⟩ "ShutDays", .methodLinkNest "ShutDays$Text" 37 ⟨"ShutDays", "isWithin", "(III)Z"⟩ "ShutDays", .methodLinkNest "ShutDays$Town" 102 ⟨"ShutDays", "isDate", "(I)Z"⟩ "ShutDays", .methodLinkNest "ShutDays$Town" 79 ⟨"ShutDays", "isWithin", "(III)Z"⟩ "ShutDays", .methodLinkNest "ShutDays$World" 11 ⟨"ShutDays$Town", "<init>", "()V"⟩ "ShutDays"]
def strL : List Nat := [176, 11]
def strB : List (List Int32) := [[100, 97, 121, 32, 32, 32, 32, 32, 100, 97, 116, 101, 32, 32, 32, 32, 104, 111, 117, 115, 101, 32, 32, 32, 112, 117, 114, 115, 101, 32, 32, 32, 102, 114, 105, 101, 110, 100, 115, 32, 100, 97, 121, 115, 32, 32, 32, 32, 111, 112, 101, 110, 32, 32, 32, 32, 98, 101, 115, 105, 100, 101, 32, 32, 101, 97, 114, 110, 115, 32, 32, 32, 108, 111, 115, 101, 115, 32, 32, 32, 108, 101, 116, 115, 32, 32, 32, 32, 107, 110, 111, 99, 107, 32, 32, 32, 109, 97, 114, 114, 121, 32, 32, 32, 104, 97, 116, 32, 32, 32, 32, 32, 102, 111, 114, 103, 101, 116, 32, 32, 116, 111, 32, 32, 32, 32, 32, 32, 111, 102, 32, 32, 32, 32, 32, 32, 111, 114, 32, 32, 32, 32, 32, 32, 97, 110, 100, 32, 32, 32, 32, 32, 110, 111, 116, 32, 32, 32, 32, 32, 100, 105, 118, 105, 100, 101, 115, 32, 100, 105, 103, 105, 116, 32, 32, 32], [60, 62, 61, 35, 43, 45, 42, 47, 40, 41, 59]]
def strT0 : String := "day     date    house   purse   friends days    open    beside  earns   loses   lets    knock   marry   hat     forget  to      of      or      and     not     divides digit   "
def strT1 : String := "<>=#+-*/();"
def mStr (x : mX) (s : State) : Prop := ∃ adK adV : Nat → Nat, vk_S 2 strL strB adK adV (mA x) s s.heap ∧ vk_R RX4 109 strT0 (adK 0) s ∧ vk_R RX4 97 strT1 (adK 1) s ∧ x.2.2.2.2.2.1 0 = some (adK 0) ∧ x.2.2.2.2.2.1 1 = some (adK 1) ∧ x.2.2.2.2.2.1 2 = some (adV 0) ∧ x.2.2.2.2.2.1 3 = some (adV 1) ∧ va_Z "java/lang/String" "COMPACT_STRINGS" "Z" (.int 1) (mA x) s s.heap ∧ va_Z "jdk/internal/util/Preconditions" "SIOOBE_FORMATTER" "Ljava/util/function/BiFunction;" (va_rf (x.2.2.2.2.2.1 4)) (mA x) s s.heap ∧ ∃ b : Nat, x.2.2.2.2.2.1 5 = some b ∧ va_X b x.2.2.2.2.2.2.1 x.2.2.2.2.2.2.2 s s.heap ∧ b < s.heap.size ∧ ¬ mA x b
theorem mStr.to {x : mX} {s U : State} (h : mStr x s) (hW : s.WarmedH U.vm) (hq : ∀ a : Nat, a < s.heap.size → ¬ mA x a → U.heap[a]? = s.heap[a]?) : mStr x U := by
  obtain ⟨adK, adV, h1, h2, h3, e0, e1, e2, e3, h4, h5, b, b1, b2, b3, b4⟩ := h
  have b5 := b2.kept (hq b b3 b4)
  refine ⟨adK, adV, (h1.kept hq).moved hW.alike, h2.warm hW, h3.warm hW, e0, e1, e2, e3, (h4.kept hq).moved hW.alike, (h5.kept hq).moved hW.alike, b, b1, b5.moved hW.alike, ?_, b4⟩
  obtain ⟨scr, c1, -⟩ := b5
  exact (Array.getElem?_eq_some_iff.mp c1).1
/-- what is known of the tables at a method's start -/
def mK (x : mX) (s : State) : Prop := va_K x.2.2.1 vwCl (mty5 x) s ∧ (∀ a i y h, Cond.methodLinkNest a i y h ∈ mNW → va_Nw (.methodLinkNest a i y h) s) ∧ va_AO RX6 s ∧ va_AO RX5 s ∧ mStr x s
theorem mK.warm {x : mX} {s U : State} (h : mK x s) (hW : s.WarmedH U.vm) (hq : ∀ a : Nat, a < s.heap.size → ¬ mA x a → U.heap[a]? = s.heap[a]?) : mK x U := ⟨va_K.moved hW.alike h.1, fun a i y q hq => va_Nw.warmM hW (h.2.1 a i y q hq), va_AO.moved hW.alike h.2.2.1, va_AO.moved hW.alike h.2.2.2.1, h.2.2.2.2.to hW hq⟩
def mQ (x : mX) (Q : mQt) : Array Value → State → Outcome → State → Prop := fun _ st oc t => (∃ (E : mE) (S : mS) (r : Option Value), Q E S r ∧ oc = .returned (r.map (em x)) ∧ mP x E S t.heap) ∧ va_F (mA x) st t
def mPc (x : mX) (E : mE) (S : mS) (as : List Value) : Array Value → State → Prop := fun v U => v = (as.map (em x)).toArray ∧ mP x E S U.heap ∧ mK x U ∧ U.heap.size = x.2.1 + E.1
def mRoom (d mc ms : Nat) : Room := { frames := d, cells := mc, slots := ms, locals := 40 * d }
def mws1 (μ : mM) : List Cond := Cond.code μ.1 μ.2.1 μ.2.2.1 μ.2.2.2 :: wsL_law
/-- a contract: called with 'as' at (E, S), with room for d frames, the method comes back with Q, having made mc cells of ms slots -/
def mCt (μ : mM) (d mc ms : Nat) (E : mE) (S : mS) (as : List Value) (Q : mQt) : Prop := ∀ (x : mX) (d' : Nat), d ≤ d' → Met x.1 μ.1 (mws1 μ) (mRoom d' mc ms) (mPc x E S as) (mQ x Q) mc ms (mA x)
theorem mCt.mono {μ : mM} {d d1 mc ms : Nat} {E : mE} {S : mS} {as : List Value} {Q : mQt} (h : mCt μ d mc ms E S as Q) (hd : d ≤ d1) : mCt μ d1 mc ms E S as Q := fun x d' h' => h x d' (Nat.le_trans hd h')
/-- what stands all along a method's run -/
def mCx (μ : mM) (d mc ms nc : Nat) (E : mE) (x : mX) (p : Program) (R : Room) (s : State) (m : MethodId) (args : Array Value) (meth : Method) (c : Code) : Prop :=
  p.tables.exec = Jvm.exec ∧ c.code = μ.2.1 ∧ c.maxLocals = μ.2.2.1 ∧ meth.sig.returnType = μ.2.2.2 ∧ s.vm.findClass μ.1.cls = some m.cls ∧ (∀ w ∈ wsL_law, w.before args s = true) ∧ meth.locks = false ∧ (μ.1.name = "<init>" → meth.name = "<init>") ∧ d ≤ R.frames ∧ 40 * d ≤ R.locals ∧ R.cells = mc ∧ R.slots = ms ∧ mK x s ∧ s.heap.size + nc = x.2.1 + E.1 ∧ x.2.1 ≤ s.heap.size
def mL (b : mX) (lv : List (Nat × Value)) : List (Nat × Value) := lv.map (fun q => (q.1, em b q.2))
/-- the machine, in the method at pc with these locals (those that count), this stack, this world, having made nc cells of ns slots, comes back with Q -/
def mG (x : mX) (μ : mM) (d mc ms : Nat) (Q : mQt) (nc ns : Nat) (E : mE) (S : mS) (pc : Nat) (lv : List (Nat × Value)) (st : List Value) : Prop :=
  ∀ (p : Program) (e : Env) (R : Room) (s : State) (m : MethodId) (args : Array Value) (below : List Frame) (meth : Method) (c : Code) (H : Heap) (locs : List Loc) (ls : Array Slot),
    mCx μ d mc ms nc E x p R s m args meth c → lv_has ls μ.2.2.1 (mL x lv) → mP x E S H → va_S (mA x) s.heap H locs →
    W p x.1 e R s m args below meth c H locs nc ns (MQ below (mQ x Q) args s mc ms (mA x)) (F0 m pc ls (st.map (em x)))
theorem mW_at {x : mX} {E : mE} {S : mS} {t : Nat} (h : t < E.1) : (mW x E S)[t]? = some (x.2.1 + t, mce x (E.2.1 t) (E.2.2.1 t) (S.1 t) (S.2 t) (E.2.2.2 t)) := by
  simp [mW, h]
theorem mW_len (x : mX) (E : mE) (S : mS) : (mW x E S).length = E.1 := by simp [mW]
theorem mW_D (x : mX) (E : mE) (S : mS) : va_D (mA x) (mW x E S) := by
  have key : ∀ (i : Nat) (p : Nat × va_E), (mW x E S)[i]? = some p → p.1 = x.2.1 + i := by
    intro i p h
    have hl : i < E.1 := by have := (List.getElem?_eq_some_iff.mp h).1; rwa [mW_len] at this
    rw [mW_at hl] at h
    cases h
    rfl
  refine ⟨fun i j p q hi hj h => ?_, fun k q hk => ?_⟩
  · have h1 := key i p hi
    have h2 := key j q hj
    omega
  · show x.2.1 ≤ q.1
    rw [key k q hk]
    omega
theorem mP.lt {x : mX} {E : mE} {S : mS} {H : Heap} (h : mP x E S H) {t : Nat} (ht : E.2.1 t ≠ 99) : t < E.1 := Nat.lt_of_not_le fun q => ht (h.2.1 t q)
/-- one cell's ints, or longs, at one place -/
def sI (S : mS) (t k : Nat) (v : Int32) : mS := (fun u j => if u = t ∧ j = k then v else S.1 u j, S.2)
def sJ (S : mS) (t k : Nat) (v : Int64) : mS := (S.1, fun u j => if u = t ∧ j = k then v else S.2 u j)
theorem sI_at (S : mS) (t k : Nat) (v : Int32) : (sI S t k v).1 t = upd (S.1 t) k v := by
  funext j
  simp [sI, upd]
theorem sJ_at (S : mS) (t k : Nat) (v : Int64) : (sJ S t k v).2 t = vp_updL (S.2 t) k v := by
  funext j
  simp [sJ, vp_updL]
theorem sI_off (S : mS) {t k u : Nat} (v : Int32) (h : u ≠ t) : (sI S t k v).1 u = S.1 u := by
  funext j
  simp [sI, h]
theorem sJ_off (S : mS) {t k u : Nat} (v : Int64) (h : u ≠ t) : (sJ S t k v).2 u = S.2 u := by
  funext j
  simp [sJ, h]
theorem mW_set {x : mX} {E : mE} {S S' : mS} {t : Nat} (ht : t < E.1) {e : va_E} (he : mce x (E.2.1 t) (E.2.2.1 t) (S'.1 t) (S'.2 t) (E.2.2.2 t) = e) (h1 : ∀ u, u ≠ t → S'.1 u = S.1 u ∧ S'.2 u = S.2 u) : (mW x E S).set t (x.2.1 + t, e) = mW x E S' := by
  apply List.ext_getElem?
  intro i
  by_cases hi : i < E.1
  · by_cases hit : i = t
    · subst hit
      rw [List.getElem?_set_self (by rw [mW_len]; exact hi), mW_at hi, he]
    · rw [List.getElem?_set_ne (Ne.symm hit), mW_at hi, mW_at hi, (h1 i hit).1, (h1 i hit).2]
  · rw [List.getElem?_eq_none (by rw [List.length_set, mW_len]; omega), List.getElem?_eq_none (by rw [mW_len]; omega)]
theorem mP.put {x : mX} {E : mE} {S S' : mS} {H H1 : Heap} {t : Nat} {locs1 : List Loc} {H0 : Heap} (h : mP x E S H) (ht : t < E.1) {e : va_E} (he : mce x (E.2.1 t) (E.2.2.1 t) (S'.1 t) (S'.2 t) (E.2.2.2 t) = e) (h1 : ∀ u, u ≠ t → S'.1 u = S.1 u ∧ S'.2 u = S.2 u)
    (hP : va_P x.2.2.1 vwCl ((mW x E S).set t (x.2.1 + t, e)) H1) (hS : va_S (mA x) H0 H1 locs1) (h0 : ∀ q, q < x.2.1 → H0[q]? = x.2.2.2.2.1[q]?) (hz : x.2.1 ≤ H0.size) : mP x E S' H1 := by
  rw [mW_set ht he h1] at hP
  exact ⟨hP, h.2.1, fun q hq => (hS.2.1 q (by omega) (by show ¬ x.2.1 ≤ q; omega)).trans (h0 q hq)⟩
theorem mS.old {x : mX} {E : mE} {S : mS} {H H0 : Heap} {locs : List Loc} (h : mP x E S H) (hS : va_S (mA x) H0 H locs) (hz : x.2.1 ≤ H0.size) : ∀ q, q < x.2.1 → H0[q]? = x.2.2.2.2.1[q]? := fun q hq => (hS.2.1 q (by omega) (by show ¬ x.2.1 ≤ q; omega)).symm.trans (h.2.2 q hq)
/-- the entry of a method -/
theorem mL_args (b : mX) (as : List Value) : ∀ i, lv_args i (as.map (em b)) = mL b (lv_args i as) := by
  induction as with
  | nil => intro i; rfl
  | cons v vs ih =>
    intro i
    show (i, em b v) :: lv_args (if (em b v).category = 2 then i + 2 else i + 1) (vs.map (em b)) = (i, em b v) :: mL b (lv_args (if v.category = 2 then i + 2 else i + 1) vs)
    rw [em_cat, ih]
theorem mlg_len (b : mX) (as : List Value) : (lg_sl (as.map (em b))).length = (lg_sl as).length := by
  induction as with
  | nil => rfl
  | cons v vs ih =>
    simp only [lg_sl, List.map_cons, List.flatMap_cons, List.length_append, em_cat] at ih ⊢
    rw [ih]
    split <;> rfl
theorem mCt.of {μ : mM} {d mc ms : Nat} {E : mE} {S : mS} {as : List Value} {Q : mQt} (hy : plainName μ.1.cls = true) (hn : (lg_sl as).length ≤ μ.2.2.1) (k : ∀ x, mG x μ d mc ms Q 0 0 E S 0 (lv_args 0 as) []) : mCt μ d mc ms E S as Q := by
  intro x d' hd
  refine Met.ofW (cc := μ.2.1) (maxL := μ.2.2.1) (ret := μ.2.2.2) hy rfl ?_
  intro p e s m args below meth c s₁ B hml hv
  obtain ⟨rfl, hP, hK, hz⟩ := hv
  have hts := atoms_spec (ws := mws1 μ) B.pre
  rw [lg_entry_eq]
  have hl := lv_entry (as.map (em x)) (n := μ.2.2.1) (by rw [mlg_len]; exact hn)
  rw [mL_args] at hl
  exact k x p e _ s m _ below meth c s.heap [] _ ⟨B.exec, B.bytes, hml, B.returns, findClass_of_methodNamed B.named, fun w hw => hts w (List.mem_cons_of_mem _ hw), B.notSynchronized, fun hq => (name_of_methodNamed B.named B.method).1.trans hq, hd, Nat.mul_le_mul_left 40 hd, rfl, rfl, hK, hz, by rw [hz]; exact Nat.le_add_right _ _⟩ hl hP va_S.rf
/-! ===== locals ===== -/
theorem mL_get {b : mX} {lv : List (Nat × Value)} {ls : Array Slot} {n j i : Nat} {v : Value} (h : lv_has ls n (mL b lv)) (hj : lv[j]? = some (i, v)) : ls[i]? = some (.val (em b v)) := lv_at h j (by simp [mL, hj])
theorem mL_filter {b : mX} (i : Nat) (v : Value) (lv : List (Nat × Value)) : (i, em b v) :: (mL b lv).filter (fun q => !(q.1 == i) && !(q.1 + 1 == i && q.2.category == 2)) = mL b ((i, v) :: lv.filter (fun q => !(q.1 == i) && !(q.1 + 1 == i && q.2.category == 2))) := by
  simp only [mL, List.filter_map, List.map_cons]
  congr 2
  apply List.filter_congr
  intro q _
  simp only [Function.comp, em_cat]
theorem mL_filter2 {b : mX} (i : Nat) (v : Value) (lv : List (Nat × Value)) : (i, em b v) :: (mL b lv).filter (fun q => !(q.1 == i) && (!(q.1 == i + 1) && !(q.1 + 1 == i && q.2.category == 2))) = mL b ((i, v) :: lv.filter (fun q => !(q.1 == i) && (!(q.1 == i + 1) && !(q.1 + 1 == i && q.2.category == 2)))) := by
  simp only [mL, List.filter_map, List.map_cons]
  congr 2
  apply List.filter_congr
  intro q _
  simp only [Function.comp, em_cat]
section RULES
variable {x : mX} {μ : mM} {d mc ms : Nat} {Q : mQt} {nc ns : Nat} {E : mE} {S : mS} {pc : Nat} {lv : List (Nat × Value)} {st : List Value}
theorem mG.iconst {n : Int} {v : Int32} (hd : decode μ.2.1 pc = .ok (.iconst n, 1)) (hv : Int32.ofInt n = v) (k : mG x μ d mc ms Q nc ns E S (pc + 1) lv (.int v :: st)) : mG x μ d mc ms Q nc ns E S pc lv st := by
  intro p e R s m args below meth c H locs ls C hl hP hS
  exact lv_iconst C.1 C.2.1 hd hv (k p e R s m args below meth c H locs ls C hl hP hS)
theorem mG.bipush {n : Int} {v : Int32} (hd : decode μ.2.1 pc = .ok (.bipush n, 2)) (hv : (Int8.ofInt n).toInt32 = v) (k : mG x μ d mc ms Q nc ns E S (pc + 2) lv (.int v :: st)) : mG x μ d mc ms Q nc ns E S pc lv st := by
  intro p e R s m args below meth c H locs ls C hl hP hS
  exact lv_bipush C.1 C.2.1 hd hv (k p e R s m args below meth c H locs ls C hl hP hS)
theorem mG.sipush {n : Int} {v : Int32} (hd : decode μ.2.1 pc = .ok (.sipush n, 3)) (hv : (Int16.ofInt n).toInt32 = v) (k : mG x μ d mc ms Q nc ns E S (pc + 3) lv (.int v :: st)) : mG x μ d mc ms Q nc ns E S pc lv st := by
  intro p e R s m args below meth c H locs ls C hl hP hS
  exact lv_sipush C.1 C.2.1 hd hv (k p e R s m args below meth c H locs ls C hl hP hS)
theorem mG.lconst {n : Fin 2} {v : Int64} (hd : decode μ.2.1 pc = .ok (.lconst n, 1)) (hv : Int64.ofNat (n : Nat) = v) (k : mG x μ d mc ms Q nc ns E S (pc + 1) lv (.long v :: st)) : mG x μ d mc ms Q nc ns E S pc lv st := by
  intro p e R s m args below meth c H locs ls C hl hP hS
  exact lv_lconst C.1 C.2.1 hd hv (k p e R s m args below meth c H locs ls C hl hP hS)
theorem mG.iadd {x1 y1 : Int32} (hd : decode μ.2.1 pc = .ok (.iadd, 1))  (k : mG x μ d mc ms Q nc ns E S (pc + 1) lv (.int (x1 + y1) :: st)) : mG x μ d mc ms Q nc ns E S pc lv (.int y1 :: .int x1 :: st) := by
  intro p e R s m args below meth c H locs ls C hl hP hS
  exact lv_iadd C.1 C.2.1 hd (k p e R s m args below meth c H locs ls C hl hP hS)
theorem mG.isub {x1 y1 : Int32} (hd : decode μ.2.1 pc = .ok (.isub, 1))  (k : mG x μ d mc ms Q nc ns E S (pc + 1) lv (.int (x1 - y1) :: st)) : mG x μ d mc ms Q nc ns E S pc lv (.int y1 :: .int x1 :: st) := by
  intro p e R s m args below meth c H locs ls C hl hP hS
  exact lv_isub C.1 C.2.1 hd (k p e R s m args below meth c H locs ls C hl hP hS)
theorem mG.imul {x1 y1 : Int32} (hd : decode μ.2.1 pc = .ok (.imul, 1))  (k : mG x μ d mc ms Q nc ns E S (pc + 1) lv (.int (x1 * y1) :: st)) : mG x μ d mc ms Q nc ns E S pc lv (.int y1 :: .int x1 :: st) := by
  intro p e R s m args below meth c H locs ls C hl hP hS
  exact lv_imul C.1 C.2.1 hd (k p e R s m args below meth c H locs ls C hl hP hS)
theorem mG.iand {x1 y1 : Int32} (hd : decode μ.2.1 pc = .ok (.iand, 1))  (k : mG x μ d mc ms Q nc ns E S (pc + 1) lv (.int (x1 &&& y1) :: st)) : mG x μ d mc ms Q nc ns E S pc lv (.int y1 :: .int x1 :: st) := by
  intro p e R s m args below meth c H locs ls C hl hP hS
  exact lv_iand C.1 C.2.1 hd (k p e R s m args below meth c H locs ls C hl hP hS)
theorem mG.ior {x1 y1 : Int32} (hd : decode μ.2.1 pc = .ok (.ior, 1))  (k : mG x μ d mc ms Q nc ns E S (pc + 1) lv (.int (x1 ||| y1) :: st)) : mG x μ d mc ms Q nc ns E S pc lv (.int y1 :: .int x1 :: st) := by
  intro p e R s m args below meth c H locs ls C hl hP hS
  exact lv_ior C.1 C.2.1 hd (k p e R s m args below meth c H locs ls C hl hP hS)
theorem mG.ixor {x1 y1 : Int32} (hd : decode μ.2.1 pc = .ok (.ixor, 1))  (k : mG x μ d mc ms Q nc ns E S (pc + 1) lv (.int (x1 ^^^ y1) :: st)) : mG x μ d mc ms Q nc ns E S pc lv (.int y1 :: .int x1 :: st) := by
  intro p e R s m args below meth c H locs ls C hl hP hS
  exact lv_ixor C.1 C.2.1 hd (k p e R s m args below meth c H locs ls C hl hP hS)
theorem mG.ishl {x1 y1 : Int32} (hd : decode μ.2.1 pc = .ok (.ishl, 1))  (k : mG x μ d mc ms Q nc ns E S (pc + 1) lv (.int (x1 <<< (y1 &&& 31)) :: st)) : mG x μ d mc ms Q nc ns E S pc lv (.int y1 :: .int x1 :: st) := by
  intro p e R s m args below meth c H locs ls C hl hP hS
  exact lv_ishl C.1 C.2.1 hd (k p e R s m args below meth c H locs ls C hl hP hS)
theorem mG.ishr {x1 y1 : Int32} (hd : decode μ.2.1 pc = .ok (.ishr, 1))  (k : mG x μ d mc ms Q nc ns E S (pc + 1) lv (.int (x1 >>> (y1 &&& 31)) :: st)) : mG x μ d mc ms Q nc ns E S pc lv (.int y1 :: .int x1 :: st) := by
  intro p e R s m args below meth c H locs ls C hl hP hS
  exact lv_ishr C.1 C.2.1 hd (k p e R s m args below meth c H locs ls C hl hP hS)
theorem mG.idiv {x1 y1 : Int32} (hd : decode μ.2.1 pc = .ok (.idiv, 1)) (hne : ¬ y1 = 0) (k : mG x μ d mc ms Q nc ns E S (pc + 1) lv (.int (x1 / y1) :: st)) : mG x μ d mc ms Q nc ns E S pc lv (.int y1 :: .int x1 :: st) := by
  intro p e R s m args below meth c H locs ls C hl hP hS
  exact lv_idiv C.1 C.2.1 hd hne (k p e R s m args below meth c H locs ls C hl hP hS)
theorem mG.irem {x1 y1 : Int32} (hd : decode μ.2.1 pc = .ok (.irem, 1)) (hne : ¬ y1 = 0) (k : mG x μ d mc ms Q nc ns E S (pc + 1) lv (.int (x1 - x1 / y1 * y1) :: st)) : mG x μ d mc ms Q nc ns E S pc lv (.int y1 :: .int x1 :: st) := by
  intro p e R s m args below meth c H locs ls C hl hP hS
  exact lv_irem C.1 C.2.1 hd hne (k p e R s m args below meth c H locs ls C hl hP hS)
theorem mG.ineg {x1 : Int32} (hd : decode μ.2.1 pc = .ok (.ineg, 1))  (k : mG x μ d mc ms Q nc ns E S (pc + 1) lv (.int (-x1) :: st)) : mG x μ d mc ms Q nc ns E S pc lv (.int x1 :: st) := by
  intro p e R s m args below meth c H locs ls C hl hP hS
  exact lv_ineg C.1 C.2.1 hd (k p e R s m args below meth c H locs ls C hl hP hS)
theorem mG.ladd {x1 y1 : Int64} (hd : decode μ.2.1 pc = .ok (.ladd, 1))  (k : mG x μ d mc ms Q nc ns E S (pc + 1) lv (.long (x1 + y1) :: st)) : mG x μ d mc ms Q nc ns E S pc lv (.long y1 :: .long x1 :: st) := by
  intro p e R s m args below meth c H locs ls C hl hP hS
  exact lv_ladd C.1 C.2.1 hd (k p e R s m args below meth c H locs ls C hl hP hS)
theorem mG.lsub {x1 y1 : Int64} (hd : decode μ.2.1 pc = .ok (.lsub, 1))  (k : mG x μ d mc ms Q nc ns E S (pc + 1) lv (.long (x1 - y1) :: st)) : mG x μ d mc ms Q nc ns E S pc lv (.long y1 :: .long x1 :: st) := by
  intro p e R s m args below meth c H locs ls C hl hP hS
  exact lv_lsub C.1 C.2.1 hd (k p e R s m args below meth c H locs ls C hl hP hS)
theorem mG.lmul {x1 y1 : Int64} (hd : decode μ.2.1 pc = .ok (.lmul, 1))  (k : mG x μ d mc ms Q nc ns E S (pc + 1) lv (.long (x1 * y1) :: st)) : mG x μ d mc ms Q nc ns E S pc lv (.long y1 :: .long x1 :: st) := by
  intro p e R s m args below meth c H locs ls C hl hP hS
  exact lv_lmul C.1 C.2.1 hd (k p e R s m args below meth c H locs ls C hl hP hS)
theorem mG.lor {x1 y1 : Int64} (hd : decode μ.2.1 pc = .ok (.lor, 1))  (k : mG x μ d mc ms Q nc ns E S (pc + 1) lv (.long (x1 ||| y1) :: st)) : mG x μ d mc ms Q nc ns E S pc lv (.long y1 :: .long x1 :: st) := by
  intro p e R s m args below meth c H locs ls C hl hP hS
  exact lv_lor C.1 C.2.1 hd (k p e R s m args below meth c H locs ls C hl hP hS)
theorem mG.land {x1 y1 : Int64} (hd : decode μ.2.1 pc = .ok (.land, 1))  (k : mG x μ d mc ms Q nc ns E S (pc + 1) lv (.long (x1 &&& y1) :: st)) : mG x μ d mc ms Q nc ns E S pc lv (.long y1 :: .long x1 :: st) := by
  intro p e R s m args below meth c H locs ls C hl hP hS
  exact lv_land C.1 C.2.1 hd (k p e R s m args below meth c H locs ls C hl hP hS)
theorem mG.ldiv {x1 y1 : Int64} (hd : decode μ.2.1 pc = .ok (.ldiv, 1)) (hne : ¬ y1 = 0) (k : mG x μ d mc ms Q nc ns E S (pc + 1) lv (.long (x1 / y1) :: st)) : mG x μ d mc ms Q nc ns E S pc lv (.long y1 :: .long x1 :: st) := by
  intro p e R s m args below meth c H locs ls C hl hP hS
  exact lv_ldiv C.1 C.2.1 hd hne (k p e R s m args below meth c H locs ls C hl hP hS)
theorem mG.lrem {x1 y1 : Int64} (hd : decode μ.2.1 pc = .ok (.lrem, 1)) (hne : ¬ y1 = 0) (k : mG x μ d mc ms Q nc ns E S (pc + 1) lv (.long (x1 - x1 / y1 * y1) :: st)) : mG x μ d mc ms Q nc ns E S pc lv (.long y1 :: .long x1 :: st) := by
  intro p e R s m args below meth c H locs ls C hl hP hS
  exact lv_lrem C.1 C.2.1 hd hne (k p e R s m args below meth c H locs ls C hl hP hS)
theorem mG.lneg {x1 : Int64} (hd : decode μ.2.1 pc = .ok (.lneg, 1))  (k : mG x μ d mc ms Q nc ns E S (pc + 1) lv (.long (-x1) :: st)) : mG x μ d mc ms Q nc ns E S pc lv (.long x1 :: st) := by
  intro p e R s m args below meth c H locs ls C hl hP hS
  exact lv_lneg C.1 C.2.1 hd (k p e R s m args below meth c H locs ls C hl hP hS)
theorem mG.lshl {x1 : Int64} {y1 : Int32} (hd : decode μ.2.1 pc = .ok (.lshl, 1))  (k : mG x μ d mc ms Q nc ns E S (pc + 1) lv (.long (x1 <<< (y1.toInt64 &&& 63)) :: st)) : mG x μ d mc ms Q nc ns E S pc lv (.int y1 :: .long x1 :: st) := by
  intro p e R s m args below meth c H locs ls C hl hP hS
  exact lv_lshl C.1 C.2.1 hd rfl (k p e R s m args below meth c H locs ls C hl hP hS)
theorem mG.lshr {x1 : Int64} {y1 : Int32} (hd : decode μ.2.1 pc = .ok (.lshr, 1))  (k : mG x μ d mc ms Q nc ns E S (pc + 1) lv (.long (x1 >>> (y1.toInt64 &&& 63)) :: st)) : mG x μ d mc ms Q nc ns E S pc lv (.int y1 :: .long x1 :: st) := by
  intro p e R s m args below meth c H locs ls C hl hP hS
  exact lv_lshr C.1 C.2.1 hd rfl (k p e R s m args below meth c H locs ls C hl hP hS)
theorem mG.i2l {x1 : Int32} (hd : decode μ.2.1 pc = .ok (.i2l, 1))  (k : mG x μ d mc ms Q nc ns E S (pc + 1) lv (.long x1.toInt64 :: st)) : mG x μ d mc ms Q nc ns E S pc lv (.int x1 :: st) := by
  intro p e R s m args below meth c H locs ls C hl hP hS
  exact lv_i2l C.1 C.2.1 hd rfl (k p e R s m args below meth c H locs ls C hl hP hS)
theorem mG.l2i {x1 : Int64} (hd : decode μ.2.1 pc = .ok (.l2i, 1))  (k : mG x μ d mc ms Q nc ns E S (pc + 1) lv (.int x1.toInt32 :: st)) : mG x μ d mc ms Q nc ns E S pc lv (.long x1 :: st) := by
  intro p e R s m args below meth c H locs ls C hl hP hS
  exact lv_l2i C.1 C.2.1 hd rfl (k p e R s m args below meth c H locs ls C hl hP hS)
theorem mG.i2c {x1 : Int32} (hd : decode μ.2.1 pc = .ok (.i2c, 1))  (k : mG x μ d mc ms Q nc ns E S (pc + 1) lv (.int (x1.toUInt32 % 65536).toInt32 :: st)) : mG x μ d mc ms Q nc ns E S pc lv (.int x1 :: st) := by
  intro p e R s m args below meth c H locs ls C hl hP hS
  exact lv_i2c C.1 C.2.1 hd rfl (k p e R s m args below meth c H locs ls C hl hP hS)
theorem mG.lcmp {x1 y1 : Int64} (hd : decode μ.2.1 pc = .ok (.lcmp, 1))  (k : mG x μ d mc ms Q nc ns E S (pc + 1) lv (.int (lg_cmp x1 y1) :: st)) : mG x μ d mc ms Q nc ns E S pc lv (.long y1 :: .long x1 :: st) := by
  intro p e R s m args below meth c H locs ls C hl hP hS
  exact W.lcmp C.1 C.2.1 hd (k p e R s m args below meth c H locs ls C hl hP hS)
theorem mG.iushr {x1 y1 : Int32} (hd : decode μ.2.1 pc = .ok (.iushr, 1))  (k : mG x μ d mc ms Q nc ns E S (pc + 1) lv (.int ((x1.toUInt32 >>> (y1.toUInt32 &&& Int32.toUInt32 31)).toInt32) :: st)) : mG x μ d mc ms Q nc ns E S pc lv (.int y1 :: .int x1 :: st) := by
  intro p e R s m args below meth c H locs ls C hl hP hS
  exact lv_iushr C.1 C.2.1 hd rfl (k p e R s m args below meth c H locs ls C hl hP hS)
theorem mG.dup {v : Value} (hd : decode μ.2.1 pc = .ok (.dup, 1)) (hc : v.category = 1) (k : mG x μ d mc ms Q nc ns E S (pc + 1) lv (v :: v :: st)) : mG x μ d mc ms Q nc ns E S pc lv (v :: st) := by
  intro p e R s m args below meth c H locs ls C hl hP hS
  exact lv_dup C.1 C.2.1 hd ((em_cat _ _).trans hc) (k p e R s m args below meth c H locs ls C hl hP hS)
theorem mG.pop {v : Value} (hd : decode μ.2.1 pc = .ok (.pop, 1)) (hc : v.category = 1) (k : mG x μ d mc ms Q nc ns E S (pc + 1) lv st) : mG x μ d mc ms Q nc ns E S pc lv (v :: st) := by
  intro p e R s m args below meth c H locs ls C hl hP hS
  exact lv_pop C.1 C.2.1 hd ((em_cat _ _).trans hc) (k p e R s m args below meth c H locs ls C hl hP hS)
theorem mG.dup_x1 {v u : Value} (hd : decode μ.2.1 pc = .ok (.dup_x1, 1)) (hc : v.category = 1) (hc2 : u.category = 1) (k : mG x μ d mc ms Q nc ns E S (pc + 1) lv (v :: u :: v :: st)) : mG x μ d mc ms Q nc ns E S pc lv (v :: u :: st) := by
  intro p e R s m args below meth c H locs ls C hl hP hS
  exact lv_dup_x1 C.1 C.2.1 hd ((em_cat _ _).trans hc) ((em_cat _ _).trans hc2) (k p e R s m args below meth c H locs ls C hl hP hS)
theorem mG.dup2 {v u : Value} (hd : decode μ.2.1 pc = .ok (.dup2, 1)) (hc : v.category = 1) (hc2 : u.category = 1) (k : mG x μ d mc ms Q nc ns E S (pc + 1) lv (v :: u :: v :: u :: st)) : mG x μ d mc ms Q nc ns E S pc lv (v :: u :: st) := by
  intro p e R s m args below meth c H locs ls C hl hP hS
  exact lv_dup2_11 C.1 C.2.1 hd ((em_cat _ _).trans hc) ((em_cat _ _).trans hc2) (k p e R s m args below meth c H locs ls C hl hP hS)
theorem mG.iload_n {n : Fin 4} (j : Nat) {v : Int32} (hd : decode μ.2.1 pc = .ok (.iload_n n, 1)) (hj : lv[j]? = some ((n : Nat), .int v)) (k : mG x μ d mc ms Q nc ns E S (pc + 1) lv (.int v :: st)) : mG x μ d mc ms Q nc ns E S pc lv st := by
  intro p e R s m args below meth c H locs ls C hl hP hS
  exact lv_iload_n C.1 C.2.1 hd rfl (mL_get hl hj) (k p e R s m args below meth c H locs ls C hl hP hS)
theorem mG.iload {i : Nat} (j : Nat) {v : Int32} (hd : decode μ.2.1 pc = .ok (.iload i, 2)) (hj : lv[j]? = some (i, .int v)) (k : mG x μ d mc ms Q nc ns E S (pc + 2) lv (.int v :: st)) : mG x μ d mc ms Q nc ns E S pc lv st := by
  intro p e R s m args below meth c H locs ls C hl hP hS
  exact lv_iload C.1 C.2.1 hd (mL_get hl hj) (k p e R s m args below meth c H locs ls C hl hP hS)
theorem mG.lload_n {n : Fin 4} (j : Nat) {v : Int64} (hd : decode μ.2.1 pc = .ok (.lload_n n, 1)) (hj : lv[j]? = some ((n : Nat), .long v)) (k : mG x μ d mc ms Q nc ns E S (pc + 1) lv (.long v :: st)) : mG x μ d mc ms Q nc ns E S pc lv st := by
  intro p e R s m args below meth c H locs ls C hl hP hS
  exact lv_lload_n C.1 C.2.1 hd rfl (mL_get hl hj) (k p e R s m args below meth c H locs ls C hl hP hS)
theorem mG.lload {i : Nat} (j : Nat) {v : Int64} (hd : decode μ.2.1 pc = .ok (.lload i, 2)) (hj : lv[j]? = some (i, .long v)) (k : mG x μ d mc ms Q nc ns E S (pc + 2) lv (.long v :: st)) : mG x μ d mc ms Q nc ns E S pc lv st := by
  intro p e R s m args below meth c H locs ls C hl hP hS
  exact lv_lload C.1 C.2.1 hd (mL_get hl hj) (k p e R s m args below meth c H locs ls C hl hP hS)
theorem mG.aload_n {n : Fin 4} (j : Nat) {v : Nat} (hd : decode μ.2.1 pc = .ok (.aload_n n, 1)) (hj : lv[j]? = some ((n : Nat), .ref v)) (k : mG x μ d mc ms Q nc ns E S (pc + 1) lv (.ref v :: st)) : mG x μ d mc ms Q nc ns E S pc lv st := by
  intro p e R s m args below meth c H locs ls C hl hP hS
  exact lv_aload_n C.1 C.2.1 hd rfl (mL_get hl hj) (k p e R s m args below meth c H locs ls C hl hP hS)
theorem mG.aload {i : Nat} (j : Nat) {v : Nat} (hd : decode μ.2.1 pc = .ok (.aload i, 2)) (hj : lv[j]? = some (i, .ref v)) (k : mG x μ d mc ms Q nc ns E S (pc + 2) lv (.ref v :: st)) : mG x μ d mc ms Q nc ns E S pc lv st := by
  intro p e R s m args below meth c H locs ls C hl hP hS
  exact lv_aload C.1 C.2.1 hd (mL_get hl hj) (k p e R s m args below meth c H locs ls C hl hP hS)
theorem mG.istore_n {n : Fin 4} {i : Nat} {lv2 : List (Nat × Value)} {v : Int32} (hd : decode μ.2.1 pc = .ok (.istore_n n, 1)) (hi : (n : Nat) = i) (hn : i < μ.2.2.1) (h2 : (i, .int v) :: lv.filter (fun q => !(q.1 == i) && !(q.1 + 1 == i && q.2.category == 2)) = lv2) (k : mG x μ d mc ms Q nc ns E S (pc + 1) lv2 st) : mG x μ d mc ms Q nc ns E S pc lv (.int v :: st) := by
  intro p e R s m args below meth c H locs ls C hl hP hS
  exact lv_istore_n C.1 C.2.1 hd hi hl hn ((mL_filter i (.int v) lv).trans (congrArg _ h2)) (fun ls2 hl2 => k p e R s m args below meth c H locs ls2 C hl2 hP hS)
theorem mG.istore {i : Nat} {lv2 : List (Nat × Value)} {v : Int32} (hd : decode μ.2.1 pc = .ok (.istore i, 2)) (hn : i < μ.2.2.1) (h2 : (i, .int v) :: lv.filter (fun q => !(q.1 == i) && !(q.1 + 1 == i && q.2.category == 2)) = lv2) (k : mG x μ d mc ms Q nc ns E S (pc + 2) lv2 st) : mG x μ d mc ms Q nc ns E S pc lv (.int v :: st) := by
  intro p e R s m args below meth c H locs ls C hl hP hS
  exact lv_istore C.1 C.2.1 hd hl hn ((mL_filter i (.int v) lv).trans (congrArg _ h2)) (fun ls2 hl2 => k p e R s m args below meth c H locs ls2 C hl2 hP hS)
theorem mG.astore_n {n : Fin 4} {i : Nat} {lv2 : List (Nat × Value)} {v : Nat} (hd : decode μ.2.1 pc = .ok (.astore_n n, 1)) (hi : (n : Nat) = i) (hn : i < μ.2.2.1) (h2 : (i, .ref v) :: lv.filter (fun q => !(q.1 == i) && !(q.1 + 1 == i && q.2.category == 2)) = lv2) (k : mG x μ d mc ms Q nc ns E S (pc + 1) lv2 st) : mG x μ d mc ms Q nc ns E S pc lv (.ref v :: st) := by
  intro p e R s m args below meth c H locs ls C hl hP hS
  exact lv_astore_n C.1 C.2.1 hd hi hl hn ((mL_filter i (.ref v) lv).trans (congrArg _ h2)) (fun ls2 hl2 => k p e R s m args below meth c H locs ls2 C hl2 hP hS)
theorem mG.astore {i : Nat} {lv2 : List (Nat × Value)} {v : Nat} (hd : decode μ.2.1 pc = .ok (.astore i, 2)) (hn : i < μ.2.2.1) (h2 : (i, .ref v) :: lv.filter (fun q => !(q.1 == i) && !(q.1 + 1 == i && q.2.category == 2)) = lv2) (k : mG x μ d mc ms Q nc ns E S (pc + 2) lv2 st) : mG x μ d mc ms Q nc ns E S pc lv (.ref v :: st) := by
  intro p e R s m args below meth c H locs ls C hl hP hS
  exact lv_astore C.1 C.2.1 hd hl hn ((mL_filter i (.ref v) lv).trans (congrArg _ h2)) (fun ls2 hl2 => k p e R s m args below meth c H locs ls2 C hl2 hP hS)
theorem mG.lstore_n {n : Fin 4} {i : Nat} {lv2 : List (Nat × Value)} {v : Int64} (hd : decode μ.2.1 pc = .ok (.lstore_n n, 1)) (hi : (n : Nat) = i) (hn : i + 1 < μ.2.2.1) (h2 : (i, .long v) :: lv.filter (fun q => !(q.1 == i) && (!(q.1 == i + 1) && !(q.1 + 1 == i && q.2.category == 2))) = lv2) (k : mG x μ d mc ms Q nc ns E S (pc + 1) lv2 st) : mG x μ d mc ms Q nc ns E S pc lv (.long v :: st) := by
  intro p e R s m args below meth c H locs ls C hl hP hS
  exact lv_lstore_n C.1 C.2.1 hd hi hl hn ((mL_filter2 i (.long v) lv).trans (congrArg _ h2)) (fun ls2 hl2 => k p e R s m args below meth c H locs ls2 C hl2 hP hS)
theorem mG.lstore {i : Nat} {lv2 : List (Nat × Value)} {v : Int64} (hd : decode μ.2.1 pc = .ok (.lstore i, 2)) (hn : i + 1 < μ.2.2.1) (h2 : (i, .long v) :: lv.filter (fun q => !(q.1 == i) && (!(q.1 == i + 1) && !(q.1 + 1 == i && q.2.category == 2))) = lv2) (k : mG x μ d mc ms Q nc ns E S (pc + 2) lv2 st) : mG x μ d mc ms Q nc ns E S pc lv (.long v :: st) := by
  intro p e R s m args below meth c H locs ls C hl hP hS
  exact lv_lstore C.1 C.2.1 hd hl hn ((mL_filter2 i (.long v) lv).trans (congrArg _ h2)) (fun ls2 hl2 => k p e R s m args below meth c H locs ls2 C hl2 hP hS)
theorem mG.iinc {i : Nat} (j : Nat) {n : Int} {v u : Int32} {lv2 : List (Nat × Value)} (hd : decode μ.2.1 pc = .ok (.iinc i n, 3)) (hj : lv[j]? = some (i, .int v)) (hu : v + Int32.ofInt n = u) (hn : i < μ.2.2.1) (h2 : (i, Value.int u) :: lv.filter (fun q => !(q.1 == i) && !(q.1 + 1 == i && q.2.category == 2)) = lv2) (k : mG x μ d mc ms Q nc ns E S (pc + 3) lv2 st) : mG x μ d mc ms Q nc ns E S pc lv st := by
  intro p e R s m args below meth c H locs ls C hl hP hS
  exact lv_iinc (k := j) C.1 C.2.1 hd hl (by simp [mL, hj]; rfl) hu hn ((mL_filter i (.int u) lv).trans (congrArg _ h2)) (fun ls2 hl2 => k p e R s m args below meth c H locs ls2 C hl2 hP hS)
theorem mG.if_eq {x1 : Int32} {off : Int} (tgt : Nat) (hd : decode μ.2.1 pc = .ok (.ifCond .eq off, 3)) (ht : (pc : Int) + off = (tgt : Int)) (kt : x1 = 0 → mG x μ d mc ms Q nc ns E S tgt lv st) (kf : ¬ x1 = 0 → mG x μ d mc ms Q nc ns E S (pc + 3) lv st) : mG x μ d mc ms Q nc ns E S pc lv (.int x1 :: st) := by
  intro p e R s m args below meth c H locs ls C hl hP hS
  exact lv_if_eq C.1 C.2.1 hd ht (fun q => kt q p e R s m args below meth c H locs ls C hl hP hS) (fun q => kf q p e R s m args below meth c H locs ls C hl hP hS)
theorem mG.if_ne {x1 : Int32} {off : Int} (tgt : Nat) (hd : decode μ.2.1 pc = .ok (.ifCond .ne off, 3)) (ht : (pc : Int) + off = (tgt : Int)) (kt : ¬ x1 = 0 → mG x μ d mc ms Q nc ns E S tgt lv st) (kf : x1 = 0 → mG x μ d mc ms Q nc ns E S (pc + 3) lv st) : mG x μ d mc ms Q nc ns E S pc lv (.int x1 :: st) := by
  intro p e R s m args below meth c H locs ls C hl hP hS
  exact lv_if_ne C.1 C.2.1 hd ht (fun q => kt q p e R s m args below meth c H locs ls C hl hP hS) (fun q => kf q p e R s m args below meth c H locs ls C hl hP hS)
theorem mG.if_lt {x1 : Int32} {off : Int} (tgt : Nat) (hd : decode μ.2.1 pc = .ok (.ifCond .lt off, 3)) (ht : (pc : Int) + off = (tgt : Int)) (kt : x1 < 0 → mG x μ d mc ms Q nc ns E S tgt lv st) (kf : ¬ x1 < 0 → mG x μ d mc ms Q nc ns E S (pc + 3) lv st) : mG x μ d mc ms Q nc ns E S pc lv (.int x1 :: st) := by
  intro p e R s m args below meth c H locs ls C hl hP hS
  exact lv_if_lt C.1 C.2.1 hd ht (fun q => kt q p e R s m args below meth c H locs ls C hl hP hS) (fun q => kf q p e R s m args below meth c H locs ls C hl hP hS)
theorem mG.if_ge {x1 : Int32} {off : Int} (tgt : Nat) (hd : decode μ.2.1 pc = .ok (.ifCond .ge off, 3)) (ht : (pc : Int) + off = (tgt : Int)) (kt : 0 ≤ x1 → mG x μ d mc ms Q nc ns E S tgt lv st) (kf : ¬ 0 ≤ x1 → mG x μ d mc ms Q nc ns E S (pc + 3) lv st) : mG x μ d mc ms Q nc ns E S pc lv (.int x1 :: st) := by
  intro p e R s m args below meth c H locs ls C hl hP hS
  exact lv_if_ge C.1 C.2.1 hd ht (fun q => kt q p e R s m args below meth c H locs ls C hl hP hS) (fun q => kf q p e R s m args below meth c H locs ls C hl hP hS)
theorem mG.if_gt {x1 : Int32} {off : Int} (tgt : Nat) (hd : decode μ.2.1 pc = .ok (.ifCond .gt off, 3)) (ht : (pc : Int) + off = (tgt : Int)) (kt : 0 < x1 → mG x μ d mc ms Q nc ns E S tgt lv st) (kf : ¬ 0 < x1 → mG x μ d mc ms Q nc ns E S (pc + 3) lv st) : mG x μ d mc ms Q nc ns E S pc lv (.int x1 :: st) := by
  intro p e R s m args below meth c H locs ls C hl hP hS
  exact lv_if_gt C.1 C.2.1 hd ht (fun q => kt q p e R s m args below meth c H locs ls C hl hP hS) (fun q => kf q p e R s m args below meth c H locs ls C hl hP hS)
theorem mG.if_le {x1 : Int32} {off : Int} (tgt : Nat) (hd : decode μ.2.1 pc = .ok (.ifCond .le off, 3)) (ht : (pc : Int) + off = (tgt : Int)) (kt : x1 ≤ 0 → mG x μ d mc ms Q nc ns E S tgt lv st) (kf : ¬ x1 ≤ 0 → mG x μ d mc ms Q nc ns E S (pc + 3) lv st) : mG x μ d mc ms Q nc ns E S pc lv (.int x1 :: st) := by
  intro p e R s m args below meth c H locs ls C hl hP hS
  exact lv_if_le C.1 C.2.1 hd ht (fun q => kt q p e R s m args below meth c H locs ls C hl hP hS) (fun q => kf q p e R s m args below meth c H locs ls C hl hP hS)
theorem mG.icmp_eq {x1 y1 : Int32} {off : Int} (tgt : Nat) (hd : decode μ.2.1 pc = .ok (.if_icmp .eq off, 3)) (ht : (pc : Int) + off = (tgt : Int)) (kt : x1 = y1 → mG x μ d mc ms Q nc ns E S tgt lv st) (kf : ¬ x1 = y1 → mG x μ d mc ms Q nc ns E S (pc + 3) lv st) : mG x μ d mc ms Q nc ns E S pc lv (.int y1 :: .int x1 :: st) := by
  intro p e R s m args below meth c H locs ls C hl hP hS
  exact lv_icmp_eq C.1 C.2.1 hd ht (fun q => kt q p e R s m args below meth c H locs ls C hl hP hS) (fun q => kf q p e R s m args below meth c H locs ls C hl hP hS)
theorem mG.icmp_ne {x1 y1 : Int32} {off : Int} (tgt : Nat) (hd : decode μ.2.1 pc = .ok (.if_icmp .ne off, 3)) (ht : (pc : Int) + off = (tgt : Int)) (kt : ¬ x1 = y1 → mG x μ d mc ms Q nc ns E S tgt lv st) (kf : x1 = y1 → mG x μ d mc ms Q nc ns E S (pc + 3) lv st) : mG x μ d mc ms Q nc ns E S pc lv (.int y1 :: .int x1 :: st) := by
  intro p e R s m args below meth c H locs ls C hl hP hS
  exact lv_icmp_ne C.1 C.2.1 hd ht (fun q => kt q p e R s m args below meth c H locs ls C hl hP hS) (fun q => kf q p e R s m args below meth c H locs ls C hl hP hS)
theorem mG.icmp_lt {x1 y1 : Int32} {off : Int} (tgt : Nat) (hd : decode μ.2.1 pc = .ok (.if_icmp .lt off, 3)) (ht : (pc : Int) + off = (tgt : Int)) (kt : x1 < y1 → mG x μ d mc ms Q nc ns E S tgt lv st) (kf : ¬ x1 < y1 → mG x μ d mc ms Q nc ns E S (pc + 3) lv st) : mG x μ d mc ms Q nc ns E S pc lv (.int y1 :: .int x1 :: st) := by
  intro p e R s m args below meth c H locs ls C hl hP hS
  exact lv_icmp_lt C.1 C.2.1 hd ht (fun q => kt q p e R s m args below meth c H locs ls C hl hP hS) (fun q => kf q p e R s m args below meth c H locs ls C hl hP hS)
theorem mG.icmp_ge {x1 y1 : Int32} {off : Int} (tgt : Nat) (hd : decode μ.2.1 pc = .ok (.if_icmp .ge off, 3)) (ht : (pc : Int) + off = (tgt : Int)) (kt : y1 ≤ x1 → mG x μ d mc ms Q nc ns E S tgt lv st) (kf : ¬ y1 ≤ x1 → mG x μ d mc ms Q nc ns E S (pc + 3) lv st) : mG x μ d mc ms Q nc ns E S pc lv (.int y1 :: .int x1 :: st) := by
  intro p e R s m args below meth c H locs ls C hl hP hS
  exact lv_icmp_ge C.1 C.2.1 hd ht (fun q => kt q p e R s m args below meth c H locs ls C hl hP hS) (fun q => kf q p e R s m args below meth c H locs ls C hl hP hS)
theorem mG.icmp_gt {x1 y1 : Int32} {off : Int} (tgt : Nat) (hd : decode μ.2.1 pc = .ok (.if_icmp .gt off, 3)) (ht : (pc : Int) + off = (tgt : Int)) (kt : y1 < x1 → mG x μ d mc ms Q nc ns E S tgt lv st) (kf : ¬ y1 < x1 → mG x μ d mc ms Q nc ns E S (pc + 3) lv st) : mG x μ d mc ms Q nc ns E S pc lv (.int y1 :: .int x1 :: st) := by
  intro p e R s m args below meth c H locs ls C hl hP hS
  exact lv_icmp_gt C.1 C.2.1 hd ht (fun q => kt q p e R s m args below meth c H locs ls C hl hP hS) (fun q => kf q p e R s m args below meth c H locs ls C hl hP hS)
theorem mG.icmp_le {x1 y1 : Int32} {off : Int} (tgt : Nat) (hd : decode μ.2.1 pc = .ok (.if_icmp .le off, 3)) (ht : (pc : Int) + off = (tgt : Int)) (kt : x1 ≤ y1 → mG x μ d mc ms Q nc ns E S tgt lv st) (kf : ¬ x1 ≤ y1 → mG x μ d mc ms Q nc ns E S (pc + 3) lv st) : mG x μ d mc ms Q nc ns E S pc lv (.int y1 :: .int x1 :: st) := by
  intro p e R s m args below meth c H locs ls C hl hP hS
  exact lv_icmp_le C.1 C.2.1 hd ht (fun q => kt q p e R s m args below meth c H locs ls C hl hP hS) (fun q => kf q p e R s m args below meth c H locs ls C hl hP hS)
theorem mG.goto {off : Int} (tgt : Nat) (hd : decode μ.2.1 pc = .ok (.goto off, 3)) (ht : (pc : Int) + off = (tgt : Int)) (k : mG x μ d mc ms Q nc ns E S tgt lv st) : mG x μ d mc ms Q nc ns E S pc lv st := by
  intro p e R s m args below meth c H locs ls C hl hP hS
  exact lv_goto C.1 C.2.1 hd ht (k p e R s m args below meth c H locs ls C hl hP hS)
theorem mG.tblIn {x1 : Int32} {dflt lo hi : Int} {offs : Array Int} {len : Nat} (off : Int) (tgt : Nat) (hd : decode μ.2.1 pc = .ok (.tableswitch dflt lo hi offs, len)) (h1 : ¬ x1.toInt < lo) (h2 : ¬ hi < x1.toInt) (ho : offs[(x1.toInt - lo).toNat]? = some off) (ht : (pc : Int) + off = (tgt : Int)) (k : mG x μ d mc ms Q nc ns E S tgt lv st) : mG x μ d mc ms Q nc ns E S pc lv (.int x1 :: st) := by
  intro p e R s m args below meth c H locs ls C hl hP hS
  exact lv_tableIn C.1 C.2.1 hd h1 h2 ho ht (k p e R s m args below meth c H locs ls C hl hP hS)
theorem mG.tblOut {x1 : Int32} {dflt lo hi : Int} {offs : Array Int} {len : Nat} (tgt : Nat) (hd : decode μ.2.1 pc = .ok (.tableswitch dflt lo hi offs, len)) (h : x1.toInt < lo ∨ hi < x1.toInt) (ht : (pc : Int) + dflt = (tgt : Int)) (k : mG x μ d mc ms Q nc ns E S tgt lv st) : mG x μ d mc ms Q nc ns E S pc lv (.int x1 :: st) := by
  intro p e R s m args below meth c H locs ls C hl hP hS
  exact lv_tableOut C.1 C.2.1 hd h ht (k p e R s m args below meth c H locs ls C hl hP hS)
theorem mG.lookup {x1 : Int32} {dflt : Int} {ps : Array (Int × Int)} {len : Nat} (off : Int) (tgt : Nat) (hd : decode μ.2.1 pc = .ok (.lookupswitch dflt ps, len)) (hp : (ps.toList.zip (ps.toList.drop 1)).all (fun (a, next) => a.1 < next.1) = true) (ho : Op.lookupswitch.offset ps.toList dflt x1.toInt = off) (ht : (pc : Int) + off = (tgt : Int)) (k : mG x μ d mc ms Q nc ns E S tgt lv st) : mG x μ d mc ms Q nc ns E S pc lv (.int x1 :: st) := by
  intro p e R s m args below meth c H locs ls C hl hP hS
  exact lv_lookup C.1 C.2.1 hd hp ho ht (k p e R s m args below meth c H locs ls C hl hP hS)
theorem mG.ldc {idx : Nat} {v : Int32} (hd : decode μ.2.1 pc = .ok (.ldc idx, 2)) (hc : Cond.constant μ.1.cls idx v ∈ wsL_law) (k : mG x μ d mc ms Q nc ns E S (pc + 2) lv (.int v :: st)) : mG x μ d mc ms Q nc ns E S pc lv st := by
  intro p e R s m args below meth c H locs ls C hl hP hS
  exact lv_ldc C.1 C.2.1 C.2.2.2.2.1 (C.2.2.2.2.2.1 _ hc) hd (k p e R s m args below meth c H locs ls C hl hP hS)
theorem mG.ldcw {idx : Nat} {v : Int32} (hd : decode μ.2.1 pc = .ok (.ldc_w idx, 3)) (hc : Cond.constant μ.1.cls idx v ∈ wsL_law) (k : mG x μ d mc ms Q nc ns E S (pc + 3) lv (.int v :: st)) : mG x μ d mc ms Q nc ns E S pc lv st := by
  intro p e R s m args below meth c H locs ls C hl hP hS
  exact lv_ldcw C.1 C.2.1 C.2.2.2.2.1 (C.2.2.2.2.2.1 _ hc) hd (k p e R s m args below meth c H locs ls C hl hP hS)
theorem mG.ldc2 {idx : Nat} {v : Int64} (hd : decode μ.2.1 pc = .ok (.ldc2_w idx, 3)) (hc : Cond.constantLong μ.1.cls idx v ∈ wsL_law) (k : mG x μ d mc ms Q nc ns E S (pc + 3) lv (.long v :: st)) : mG x μ d mc ms Q nc ns E S pc lv st := by
  intro p e R s m args below meth c H locs ls C hl hP hS
  exact lv_ldc2 C.1 C.2.1 C.2.2.2.2.1 (C.2.2.2.2.2.1 _ hc) hd (k p e R s m args below meth c H locs ls C hl hP hS)
/-- a field's link: class ci's k-th field, under the pool's number idx of the class own -/
def mF (own : String) (idx ci k : Nat) : Prop := ci < 10 ∧ k < mN ci ∧ Cond.fieldLink own idx (mT ci k).1 (mT ci k).2.1 (mT ci k).2.2.1 ∈ wsL_law
theorem mce_obj {x : mX} {kd ln : Nat} {i : Nat → Int32} {j : Nat → Int64} {r : Nat → Option Nat} (h : kd < 10) : mce x kd ln i j r = .inr (kd, mfs x kd i j r) := if_pos h
theorem mfs_at {b : mX} {ci k : Nat} {i : Nat → Int32} {j : Nat → Int64} {r : Nat → Option Nat} (h : k < mN ci) : (mfs b ci i j r)[k]? = some (em b (fv (mty ci k) (i k) (j k) (r k))) := by simp [mfs, h]
theorem mfs_len (b : mX) (ci : Nat) (i : Nat → Int32) (j : Nat → Int64) (r : Nat → Option Nat) : (mfs b ci i j r).length = mN ci := by simp [mfs]
theorem mfs_set {b : mX} {ci k : Nat} {i i' : Nat → Int32} {j j' : Nat → Int64} {r r' : Nat → Option Nat} {v : Value} (h : k < mN ci) (hv : em b (fv (mty ci k) (i' k) (j' k) (r' k)) = v) (ho : ∀ q, q < mN ci → q ≠ k → fv (mty ci q) (i' q) (j' q) (r' q) = fv (mty ci q) (i q) (j q) (r q)) : (mfs b ci i j r).set k v = mfs b ci i' j' r' := by
  apply List.ext_getElem?
  intro q
  by_cases hq : q < mN ci
  · by_cases hk : q = k
    · subst hk
      rw [List.getElem?_set_self (by rw [mfs_len]; exact hq), mfs_at hq, hv]
    · rw [List.getElem?_set_ne (Ne.symm hk), mfs_at hq, mfs_at hq, ho q hq hk]
  · rw [List.getElem?_eq_none (by rw [List.length_set, mfs_len]; omega), List.getElem?_eq_none (by rw [mfs_len]; omega)]
theorem mne {ci kd : Nat} (h : kd = ci) (hc : ci < 20) : kd ≠ 99 := by omega
theorem mG.get {idx ci k t : Nat} {v : Value} (hd : decode μ.2.1 pc = .ok (.getfield idx, 3)) (hf : mF μ.1.cls idx ci k) (ht : E.2.1 t = ci) (hv : fv (mty ci k) (S.1 t k) (S.2 t k) (E.2.2.2 t k) = v) (kk : mG x μ d mc ms Q nc ns E S (pc + 3) lv (v :: st)) : mG x μ d mc ms Q nc ns E S pc lv (.ref t :: st) := by
  intro p e R s m args below meth c H locs ls C hl hP hS
  obtain ⟨h10, hk, hw⟩ := hf
  have hlt : t < E.1 := hP.lt (mne ht (by omega))
  have he := mW_at (x := x) (S := S) hlt
  rw [ht, mce_obj h10] at he
  exact va_get C.1 C.2.1 C.2.2.2.2.2.1 (mws ci h10) C.2.2.2.2.1 C.2.2.2.2.2.2.2.2.2.2.2.2.1.1 hP.1 t he (mcl ci h10) k hk (C.2.2.2.2.2.1 _ hw) (fun _ h => h) (by rw [mfs_at hk, hv]) hd (kk p e R s m args below meth c H locs ls C hl hP hS)
theorem mnb {v : Int32} (h : v = 0 ∨ v = 1) : narrow .boolean (.int v) = .int v ∧ fits .boolean (.int v) = true ∧ vp_nar .boolean v = v := by
  rcases h with rfl | rfl <;> exact ⟨rfl, rfl, rfl⟩
theorem mG.putI {idx ci k t : Nat} {v : Int32} (hd : decode μ.2.1 pc = .ok (.putfield idx, 3)) (hf : mF μ.1.cls idx ci k) (hfin : (mT ci k).2.2.2 = false) (hty : mty ci k = .int ∨ (mty ci k = .boolean ∧ (v = 0 ∨ v = 1))) (ht : E.2.1 t = ci) {S2 : mS} (hS2 : sI S t k v = S2) (kk : mG x μ d mc ms Q nc ns E S2 (pc + 3) lv st) : mG x μ d mc ms Q nc ns E S pc lv (.int v :: .ref t :: st) := by
  subst hS2
  intro p e R s m args below meth c H locs ls C hl hP hS
  obtain ⟨hx, hb, hml, hr, hown, hts, hlk, hnm, hfr, hlo, hrc, hrs, hK, hz, hb0⟩ := id C
  obtain ⟨h10, hk, hw⟩ := hf
  have hlt : t < E.1 := hP.lt (mne ht (by omega))
  have he := mW_at (x := x) (S := S) hlt
  rw [ht, mce_obj h10] at he
  have hn : narrow (mty ci k) (.int v) = .int v ∧ fits (mty ci k) (.int v) = true := by
    rcases hty with h | ⟨h, h2⟩
    · rw [h]; exact ⟨rfl, rfl⟩
    · rw [h]; exact ⟨(mnb h2).1, (mnb h2).2.1⟩
  have hfv : ∀ i j r, fv (mty ci k) i j r = .int i := by
    intro i j r
    rcases hty with h | ⟨h, -⟩ <;> rw [h] <;> rfl
  refine va_put hx hb hts (mws ci h10) (mty ci) (mty_ok ci h10) (mnm ci h10) hown hK.1 hP.1 (mW_D x E S) hS t he (mcl ci h10) k hk (hts _ hw) (fun _ h => h) hfin (mty_ok ci h10 k hk) hn.1 hn.2 (by rw [mfs_len]; exact hk) hd (fun H1 locs1 hP1 hD1 hS1 => ?_)
  refine kk p e R s m args below meth c H1 locs1 ls C hl ?_ hS1
  refine hP.put (S' := sI S t k v) (e := .inr (ci, (mfs x ci (S.1 t) (S.2 t) (E.2.2.2 t)).set k (.int v))) hlt ?_ (fun u hu => ⟨sI_off S v hu, rfl⟩) hP1 hS1 (mS.old hP hS hb0) hb0
  rw [ht, mce_obj h10]
  congr 2
  refine (mfs_set hk ?_ ?_).symm
  · rw [hfv]
    simp [em, sI]
  · intro q hq hqk
    simp [sI, hqk]
theorem mG.putJ {idx ci k t : Nat} {v : Int64} (hd : decode μ.2.1 pc = .ok (.putfield idx, 3)) (hf : mF μ.1.cls idx ci k) (hfin : (mT ci k).2.2.2 = false) (hty : mty ci k = .long) (ht : E.2.1 t = ci) {S2 : mS} (hS2 : sJ S t k v = S2) (kk : mG x μ d mc ms Q nc ns E S2 (pc + 3) lv st) : mG x μ d mc ms Q nc ns E S pc lv (.long v :: .ref t :: st) := by
  subst hS2
  intro p e R s m args below meth c H locs ls C hl hP hS
  obtain ⟨hx, hb, hml, hr, hown, hts, hlk, hnm, hfr, hlo, hrc, hrs, hK, hz, hb0⟩ := id C
  obtain ⟨h10, hk, hw⟩ := hf
  have hlt : t < E.1 := hP.lt (mne ht (by omega))
  have he := mW_at (x := x) (S := S) hlt
  rw [ht, mce_obj h10] at he
  refine va_put hx hb hts (mws ci h10) (mty ci) (mty_ok ci h10) (mnm ci h10) hown hK.1 hP.1 (mW_D x E S) hS t he (mcl ci h10) k hk (hts _ hw) (fun _ h => h) hfin (mty_ok ci h10 k hk) (by rw [hty]; rfl) (by rw [hty]; rfl) (by rw [mfs_len]; exact hk) hd (fun H1 locs1 hP1 hD1 hS1 => ?_)
  refine kk p e R s m args below meth c H1 locs1 ls C hl ?_ hS1
  refine hP.put (S' := sJ S t k v) (e := .inr (ci, (mfs x ci (S.1 t) (S.2 t) (E.2.2.2 t)).set k (.long v))) hlt ?_ (fun u hu => ⟨rfl, sJ_off S v hu⟩) hP1 hS1 (mS.old hP hS hb0) hb0
  rw [ht, mce_obj h10]
  congr 2
  refine (mfs_set hk ?_ ?_).symm
  · rw [hty]
    simp [em, sJ, fv]
  · intro q hq hqk
    simp [sJ, hqk]
theorem mce_10 {x : mX} {ln : Nat} {i : Nat → Int32} {j : Nat → Int64} {r : Nat → Option Nat} : mce x 10 ln i j r = .inl (x.2.2.2.1 0, ln, .inl (i)) := rfl
theorem mW_10 {x : mX} {E : mE} {S : mS} {t : Nat} (hlt : t < E.1) (ht : E.2.1 t = 10) : (mW x E S)[t]? = some (x.2.1 + t, .inl (x.2.2.2.1 0, E.2.2.1 t, .inl (S.1 t))) := by
  rw [mW_at hlt, ht]
  rfl
theorem mce_11 {x : mX} {ln : Nat} {i : Nat → Int32} {j : Nat → Int64} {r : Nat → Option Nat} : mce x 11 ln i j r = .inl (x.2.2.2.1 1, ln, .inr (.inl (j))) := rfl
theorem mW_11 {x : mX} {E : mE} {S : mS} {t : Nat} (hlt : t < E.1) (ht : E.2.1 t = 11) : (mW x E S)[t]? = some (x.2.1 + t, .inl (x.2.2.2.1 1, E.2.2.1 t, .inr (.inl (S.2 t)))) := by
  rw [mW_at hlt, ht]
  rfl
theorem mce_12 {x : mX} {ln : Nat} {i : Nat → Int32} {j : Nat → Int64} {r : Nat → Option Nat} : mce x 12 ln i j r = .inl (x.2.2.2.1 2, ln, .inl (i)) := rfl
theorem mW_12 {x : mX} {E : mE} {S : mS} {t : Nat} (hlt : t < E.1) (ht : E.2.1 t = 12) : (mW x E S)[t]? = some (x.2.1 + t, .inl (x.2.2.2.1 2, E.2.2.1 t, .inl (S.1 t))) := by
  rw [mW_at hlt, ht]
  rfl
theorem mce_13 {x : mX} {ln : Nat} {i : Nat → Int32} {j : Nat → Int64} {r : Nat → Option Nat} : mce x 13 ln i j r = .inl (x.2.2.2.1 3, ln, .inr (.inr (.inr (.inr (mrs x.2.1 (r)))))) := rfl
theorem mW_13 {x : mX} {E : mE} {S : mS} {t : Nat} (hlt : t < E.1) (ht : E.2.1 t = 13) : (mW x E S)[t]? = some (x.2.1 + t, .inl (x.2.2.2.1 3, E.2.2.1 t, .inr (.inr (.inr (.inr (mrs x.2.1 (E.2.2.2 t))))))) := by
  rw [mW_at hlt, ht]
  rfl
theorem mce_14 {x : mX} {ln : Nat} {i : Nat → Int32} {j : Nat → Int64} {r : Nat → Option Nat} : mce x 14 ln i j r = .inl (x.2.2.2.1 4, ln, .inr (.inr (.inr (.inr (mrs x.2.1 (r)))))) := rfl
theorem mW_14 {x : mX} {E : mE} {S : mS} {t : Nat} (hlt : t < E.1) (ht : E.2.1 t = 14) : (mW x E S)[t]? = some (x.2.1 + t, .inl (x.2.2.2.1 4, E.2.2.1 t, .inr (.inr (.inr (.inr (mrs x.2.1 (E.2.2.2 t))))))) := by
  rw [mW_at hlt, ht]
  rfl
theorem mG.iald {t : Nat} {i : Int32} (hd : decode μ.2.1 pc = .ok (.iaload, 1)) {n : Nat} (ht : E.2.1 t = 10) (hn : E.2.2.1 t = n) (hin : vp_in i n) (kk : mG x μ d mc ms Q nc ns E S (pc + 1) lv (.int (S.1 t i.toNatClampNeg) :: st)) : mG x μ d mc ms Q nc ns E S pc lv (.int i :: .ref t :: st) := by
  intro p e R s m args below meth c H locs ls C hl hP hS
  obtain ⟨hx, hb, hml, hr, hown, hts, hlk, hnm, hfr, hlo, hrc, hrs, hK, hz, hb0⟩ := id C
  have hlt : t < E.1 := hP.lt (mne ht (by omega))
  exact va_iald hx hb hK.1 hP.1 t 0 (mW_10 hlt ht) rfl (by rw [hn]; exact hin) hd (kk p e R s m args below meth c H locs ls C hl hP hS)
theorem mG.zald {t : Nat} {i : Int32} (hd : decode μ.2.1 pc = .ok (.baload, 1)) {n : Nat} (ht : E.2.1 t = 12) (hn : E.2.2.1 t = n) (hin : vp_in i n) (kk : mG x μ d mc ms Q nc ns E S (pc + 1) lv (.int (S.1 t i.toNatClampNeg) :: st)) : mG x μ d mc ms Q nc ns E S pc lv (.int i :: .ref t :: st) := by
  intro p e R s m args below meth c H locs ls C hl hP hS
  obtain ⟨hx, hb, hml, hr, hown, hts, hlk, hnm, hfr, hlo, hrc, hrs, hK, hz, hb0⟩ := id C
  have hlt : t < E.1 := hP.lt (mne ht (by omega))
  exact va_zald hx hb hK.1 hP.1 t 2 (mW_12 hlt ht) rfl (by rw [hn]; exact hin) hd (kk p e R s m args below meth c H locs ls C hl hP hS)
theorem mG.lald {t : Nat} {i : Int32} (hd : decode μ.2.1 pc = .ok (.laload, 1)) {n : Nat} (ht : E.2.1 t = 11) (hn : E.2.2.1 t = n) (hin : vp_in i n) (kk : mG x μ d mc ms Q nc ns E S (pc + 1) lv (.long (S.2 t i.toNatClampNeg) :: st)) : mG x μ d mc ms Q nc ns E S pc lv (.int i :: .ref t :: st) := by
  intro p e R s m args below meth c H locs ls C hl hP hS
  obtain ⟨hx, hb, hml, hr, hown, hts, hlk, hnm, hfr, hlo, hrc, hrs, hK, hz, hb0⟩ := id C
  have hlt : t < E.1 := hP.lt (mne ht (by omega))
  exact va_lald hx hb hK.1 hP.1 t 1 (mW_11 hlt ht) rfl (by rw [hn]; exact hin) hd (kk p e R s m args below meth c H locs ls C hl hP hS)
theorem mG.iast {t : Nat} {i : Int32} {v : Int32} (hd : decode μ.2.1 pc = .ok (.iastore, 1)) {n : Nat} (ht : E.2.1 t = 10) (hn : E.2.2.1 t = n) (hin : vp_in i n) {S2 : mS} (hS2 : (sI S t i.toNatClampNeg v) = S2) (kk : mG x μ d mc ms Q nc ns E S2 (pc + 1) lv st) : mG x μ d mc ms Q nc ns E S pc lv (.int v :: .int i :: .ref t :: st) := by
  subst hS2
  intro p e R s m args below meth c H locs ls C hl hP hS
  obtain ⟨hx, hb, hml, hr, hown, hts, hlk, hnm, hfr, hlo, hrc, hrs, hK, hz, hb0⟩ := id C
  have hlt : t < E.1 := hP.lt (mne ht (by omega))
  refine va_iast hx hb hK.1 hP.1 (mW_D x E S) hS t 0 (mW_10 hlt ht) rfl (by rw [hn]; exact hin) hd (fun H1 locs1 hP1 hD1 hS1 => ?_)
  refine kk p e R s m args below meth c H1 locs1 ls C hl ?_ hS1
  refine hP.put (S' := (sI S t i.toNatClampNeg v)) (e := .inl (x.2.2.2.1 0, E.2.2.1 t, .inl (upd (S.1 t) i.toNatClampNeg v))) hlt ?_ (fun u hu => ⟨sI_off S v hu, rfl⟩) hP1 hS1 (mS.old hP hS hb0) hb0
  rw [ht, mce_10, sI_at]
theorem mG.zast {t : Nat} {i : Int32} {v : Int32} (hd : decode μ.2.1 pc = .ok (.bastore, 1)) {n : Nat} (ht : E.2.1 t = 12) (hn : E.2.2.1 t = n) (hin : vp_in i n) (hv : v = 0 ∨ v = 1) {S2 : mS} (hS2 : (sI S t i.toNatClampNeg v) = S2) (kk : mG x μ d mc ms Q nc ns E S2 (pc + 1) lv st) : mG x μ d mc ms Q nc ns E S pc lv (.int v :: .int i :: .ref t :: st) := by
  subst hS2
  intro p e R s m args below meth c H locs ls C hl hP hS
  obtain ⟨hx, hb, hml, hr, hown, hts, hlk, hnm, hfr, hlo, hrc, hrs, hK, hz, hb0⟩ := id C
  have hlt : t < E.1 := hP.lt (mne ht (by omega))
  refine va_zast hx hb hK.1 hP.1 (mW_D x E S) hS t 2 (mW_12 hlt ht) rfl (by rw [hn]; exact hin) hd (fun H1 locs1 hP1 hD1 hS1 => ?_)
  rw [(mnb hv).2.2] at hP1
  refine kk p e R s m args below meth c H1 locs1 ls C hl ?_ hS1
  refine hP.put (S' := (sI S t i.toNatClampNeg v)) (e := .inl (x.2.2.2.1 2, E.2.2.1 t, .inl (upd (S.1 t) i.toNatClampNeg v))) hlt ?_ (fun u hu => ⟨sI_off S v hu, rfl⟩) hP1 hS1 (mS.old hP hS hb0) hb0
  rw [ht, mce_12, sI_at]
theorem mG.last {t : Nat} {i : Int32} {v : Int64} (hd : decode μ.2.1 pc = .ok (.lastore, 1)) {n : Nat} (ht : E.2.1 t = 11) (hn : E.2.2.1 t = n) (hin : vp_in i n) {S2 : mS} (hS2 : (sJ S t i.toNatClampNeg v) = S2) (kk : mG x μ d mc ms Q nc ns E S2 (pc + 1) lv st) : mG x μ d mc ms Q nc ns E S pc lv (.long v :: .int i :: .ref t :: st) := by
  subst hS2
  intro p e R s m args below meth c H locs ls C hl hP hS
  obtain ⟨hx, hb, hml, hr, hown, hts, hlk, hnm, hfr, hlo, hrc, hrs, hK, hz, hb0⟩ := id C
  have hlt : t < E.1 := hP.lt (mne ht (by omega))
  refine va_last hx hb hK.1 hP.1 (mW_D x E S) hS t 1 (mW_11 hlt ht) rfl (by rw [hn]; exact hin) hd (fun H1 locs1 hP1 hD1 hS1 => ?_)
  refine kk p e R s m args below meth c H1 locs1 ls C hl ?_ hS1
  refine hP.put (S' := (sJ S t i.toNatClampNeg v)) (e := .inl (x.2.2.2.1 1, E.2.2.1 t, .inr (.inl (vp_updL (S.2 t) i.toNatClampNeg v)))) hlt ?_ (fun u hu => ⟨rfl, sJ_off S v hu⟩) hP1 hS1 (mS.old hP hS hb0) hb0
  rw [ht, mce_11, sJ_at]
theorem mG.aald13 {t u : Nat} {i : Int32} (hd : decode μ.2.1 pc = .ok (.aaload, 1)) {n : Nat} (ht : E.2.1 t = 13) (hn : E.2.2.1 t = n) (hin : vp_in i n) (hu : E.2.2.2 t i.toNatClampNeg = some u) (kk : mG x μ d mc ms Q nc ns E S (pc + 1) lv (.ref u :: st)) : mG x μ d mc ms Q nc ns E S pc lv (.int i :: .ref t :: st) := by
  intro p e R s m args below meth c H locs ls C hl hP hS
  obtain ⟨hx, hb, hml, hr, hown, hts, hlk, hnm, hfr, hlo, hrc, hrs, hK, hz, hb0⟩ := id C
  have hlt : t < E.1 := hP.lt (mne ht (by omega))
  refine va_aldq hx hb hK.1 hP.1 t 3 (mW_13 hlt ht) rfl (by rw [hn]; exact hin) hd ?_
  have h2 : va_rf (mrs x.2.1 (E.2.2.2 t) i.toNatClampNeg) = .ref (x.2.1 + u) := by simp [mrs, hu, va_rf]
  rw [h2]
  exact kk p e R s m args below meth c H locs ls C hl hP hS
theorem mG.aald14 {t u : Nat} {i : Int32} (hd : decode μ.2.1 pc = .ok (.aaload, 1)) {n : Nat} (ht : E.2.1 t = 14) (hn : E.2.2.1 t = n) (hin : vp_in i n) (hu : E.2.2.2 t i.toNatClampNeg = some u) (kk : mG x μ d mc ms Q nc ns E S (pc + 1) lv (.ref u :: st)) : mG x μ d mc ms Q nc ns E S pc lv (.int i :: .ref t :: st) := by
  intro p e R s m args below meth c H locs ls C hl hP hS
  obtain ⟨hx, hb, hml, hr, hown, hts, hlk, hnm, hfr, hlo, hrc, hrs, hK, hz, hb0⟩ := id C
  have hlt : t < E.1 := hP.lt (mne ht (by omega))
  refine va_aldq hx hb hK.1 hP.1 t 4 (mW_14 hlt ht) rfl (by rw [hn]; exact hin) hd ?_
  have h2 : va_rf (mrs x.2.1 (E.2.2.2 t) i.toNatClampNeg) = .ref (x.2.1 + u) := by simp [mrs, hu, va_rf]
  rw [h2]
  exact kk p e R s m args below meth c H locs ls C hl hP hS
theorem mG.alen {t : Nat} {n : Nat} {v : Int32} (hd : decode μ.2.1 pc = .ok (.arraylength, 1)) (ht : E.2.1 t = 10) (hn : E.2.2.1 t = n) (hv : Int32.ofNat n = v) (kk : mG x μ d mc ms Q nc ns E S (pc + 1) lv (.int v :: st)) : mG x μ d mc ms Q nc ns E S pc lv (.ref t :: st) := by
  intro p e R s m args below meth c H locs ls C hl hP hS
  obtain ⟨hx, hb, hml, hr, hown, hts, hlk, hnm, hfr, hlo, hrc, hrs, hK, hz, hb0⟩ := id C
  have hlt : t < E.1 := hP.lt (mne ht (by omega))
  exact va_alen hx hb hK.1 hP.1 t 0 (mW_10 hlt ht) rfl (by rw [hn]; exact hv) hd (kk p e R s m args below meth c H locs ls C hl hP hS)
def sC (S : mS) (a b sp dp n : Nat) : mS := (fun u j => if u = b then va_cpy (S.1 a) (S.1 b) sp dp n j else S.1 u j, S.2)
theorem sC_at (S : mS) (a b sp dp n : Nat) : (sC S a b sp dp n).1 b = va_cpy (S.1 a) (S.1 b) sp dp n := by
  funext j
  simp [sC]
theorem sC_off (S : mS) {a b sp dp n u : Nat} (h : u ≠ b) : (sC S a b sp dp n).1 u = S.1 u := by
  funext j
  simp [sC, h]
def mAc (own : String) (idx : Nat) : Prop := Cond.methodLink own idx arraycopyName ∈ wsL_law
theorem mAcW : Cond.native arraycopyName ∈ wsL_law ∧ Cond.static arraycopyName ∈ wsL_law ∧ Cond.initialized "java/lang/System" ∈ wsL_law := by decide +kernel
theorem mG.acopy {idx a b : Nat} {sp dp n : Int32} (hd : decode μ.2.1 pc = .ok (.invokestatic idx, 3)) (hw : mAc μ.1.cls idx) (hd1 : 1 ≤ d) (hst : (st.map fun v => v.category).sum ≤ 8) (ha : E.2.1 a = 10) (hb1 : E.2.1 b = 10) (h1 : ¬ sp < 0) (h2 : ¬ dp < 0) (h3 : ¬ n < 0) (h4 : sp.toNatClampNeg + n.toNatClampNeg ≤ E.2.2.1 a) (h5 : dp.toNatClampNeg + n.toNatClampNeg ≤ E.2.2.1 b) {S2 : mS} (hS2 : sC S a b sp.toNatClampNeg dp.toNatClampNeg n.toNatClampNeg = S2) (kk : mG x μ d mc ms Q nc ns E S2 (pc + 3) lv st) : mG x μ d mc ms Q nc ns E S pc lv (.int n :: .int dp :: .ref b :: .int sp :: .ref a :: st) := by
  subst hS2
  intro p e R s m args below meth c H locs ls C hl hP hS
  obtain ⟨hx, hb, hml, hr, hown, hts, hlk, hnm, hfr, hlo, hrc, hrs, hK, hz, hb0⟩ := id C
  have hlta : a < E.1 := hP.lt (mne ha (by omega))
  have hltb : b < E.1 := hP.lt (mne hb1 (by omega))
  have hcat : ((st.map (em x)).map fun v => v.category).sum = (st.map fun v => v.category).sum := by
    rw [List.map_map]
    congr 1
    exact List.map_congr_left (fun v _ => em_cat _ _)
  have h9 : nativeFrameWords "java/lang/System" "arraycopy" 5 ≤ 12 := by decide +kernel
  have h10 : ((st.map (em x)).map fun v => v.category).sum + (nativeFrameWords "java/lang/System" "arraycopy" 5 + 11) ≤ R.locals := by
    rw [hcat]
    omega
  refine va_copyi hx hb (hml.trans hl.1.symm) hown (hts _ hw) (hts _ mAcW.1) (hts _ mAcW.2.1) (hts _ mAcW.2.2) hK.1 hP.1 (mW_D x E S) hS a b 0 0 (mW_10 hlta ha) (mW_10 hltb hb1) rfl rfl rfl h1 h2 h3 h4 h5 (fun i hi => rfl) (Nat.le_trans hd1 hfr) h10 hd (fun H1 locs1 hP1 hD1 hS1 => ?_)
  refine kk p e R s m args below meth c H1 locs1 ls C hl ?_ hS1
  refine hP.put (S' := sC S a b sp.toNatClampNeg dp.toNatClampNeg n.toNatClampNeg) (e := .inl (x.2.2.2.1 0, E.2.2.1 b, .inl (va_cpy (S.1 a) (S.1 b) sp.toNatClampNeg dp.toNatClampNeg n.toNatClampNeg))) hltb ?_ (fun u hu => ⟨sC_off S hu, rfl⟩) hP1 hS1 (mS.old hP hS hb0) hb0
  rw [hb1, mce_10, sC_at]
theorem mcat (b : mX) (st : List Value) : ((st.map (em b)).map fun v => v.category).sum = (st.map fun v => v.category).sum := by
  rw [List.map_map]
  congr 1
  exact List.map_congr_left (fun v _ => em_cat _ _)
def imin (a b : Int32) : Int32 := if b < a then b else a
def imax (a b : Int32) : Int32 := if a < b then b else a
def iabs (a : Int32) : Int32 := if 0 ≤ a then a else 0 - a
def lmin (a b : Int64) : Int64 := if b < a then b else a
def lmax (a b : Int64) : Int64 := if b < a then a else b
theorem w_mmin : Cond.static Lib.Math.min.name ∈ wsL_law ∧ Cond.initialized "java/lang/Math" ∈ wsL_law ∧ Cond.code Lib.Math.min.name Lib.Math.min.code 2 (some .int) ∈ wsL_law := by decide +kernel
theorem mG.mmin {idx : Nat} {x1 y1 : Int32} (hd : decode μ.2.1 pc = .ok (.invokestatic idx, 3)) (hl2 : Cond.methodLink μ.1.cls idx Lib.Math.min.name ∈ wsL_law) (hd1 : 1 ≤ d) (hrest : (st.map fun v => v.category).sum ≤ 8) (hnc : nc ≤ mc) (hns : ns ≤ ms) (kk : mG x μ d mc ms Q nc ns E S (pc + 3) lv (.int (imin x1 y1) :: st)) : mG x μ d mc ms Q nc ns E S pc lv (.int y1 :: .int x1 :: st) := by
  intro p e R s m args below meth c H locs ls C hl hP hS
  obtain ⟨hx, hb, hml, hr, hown, hts, hlk, hnm, hfr, hlo, hrc, hrs, hK, hz, hb0⟩ := id C
  exact va_mmin hx hb (hml.trans hl.1.symm) hown (hts _ hl2) (hts _ w_mmin.1) (hts _ w_mmin.2.1) (hts _ w_mmin.2.2) (by omega) (by rw [mcat]; omega) (by omega) (by omega) hd (kk p e R s m args below meth c H locs ls C hl hP hS)
theorem w_mmax : Cond.static Lib.Math.max.name ∈ wsL_law ∧ Cond.initialized "java/lang/Math" ∈ wsL_law ∧ Cond.code Lib.Math.max.name Lib.Math.max.code 2 (some .int) ∈ wsL_law := by decide +kernel
theorem mG.mmax {idx : Nat} {x1 y1 : Int32} (hd : decode μ.2.1 pc = .ok (.invokestatic idx, 3)) (hl2 : Cond.methodLink μ.1.cls idx Lib.Math.max.name ∈ wsL_law) (hd1 : 1 ≤ d) (hrest : (st.map fun v => v.category).sum ≤ 8) (hnc : nc ≤ mc) (hns : ns ≤ ms) (kk : mG x μ d mc ms Q nc ns E S (pc + 3) lv (.int (imax x1 y1) :: st)) : mG x μ d mc ms Q nc ns E S pc lv (.int y1 :: .int x1 :: st) := by
  intro p e R s m args below meth c H locs ls C hl hP hS
  obtain ⟨hx, hb, hml, hr, hown, hts, hlk, hnm, hfr, hlo, hrc, hrs, hK, hz, hb0⟩ := id C
  exact va_mmax hx hb (hml.trans hl.1.symm) hown (hts _ hl2) (hts _ w_mmax.1) (hts _ w_mmax.2.1) (hts _ w_mmax.2.2) (by omega) (by rw [mcat]; omega) (by omega) (by omega) hd (kk p e R s m args below meth c H locs ls C hl hP hS)
theorem w_mabs : Cond.static Lib.Math.abs.name ∈ wsL_law ∧ Cond.initialized "java/lang/Math" ∈ wsL_law ∧ Cond.code Lib.Math.abs.name Lib.Math.abs.code 1 (some .int) ∈ wsL_law := by decide +kernel
theorem mG.mabs {idx : Nat} {x1 : Int32} (hd : decode μ.2.1 pc = .ok (.invokestatic idx, 3)) (hl2 : Cond.methodLink μ.1.cls idx Lib.Math.abs.name ∈ wsL_law) (hd1 : 1 ≤ d) (hrest : (st.map fun v => v.category).sum ≤ 8) (hnc : nc ≤ mc) (hns : ns ≤ ms) (kk : mG x μ d mc ms Q nc ns E S (pc + 3) lv (.int (iabs x1) :: st)) : mG x μ d mc ms Q nc ns E S pc lv (.int x1 :: st) := by
  intro p e R s m args below meth c H locs ls C hl hP hS
  obtain ⟨hx, hb, hml, hr, hown, hts, hlk, hnm, hfr, hlo, hrc, hrs, hK, hz, hb0⟩ := id C
  exact va_mabs hx hb (hml.trans hl.1.symm) hown (hts _ hl2) (hts _ w_mabs.1) (hts _ w_mabs.2.1) (hts _ w_mabs.2.2) (by omega) (by rw [mcat]; omega) (by omega) (by omega) hd (kk p e R s m args below meth c H locs ls C hl hP hS)
theorem w_mlmin : Cond.static Lib.MathLoose.min_long.x ∈ wsL_law ∧ Cond.initialized "java/lang/Math" ∈ wsL_law ∧ Cond.code Lib.MathLoose.min_long.x Lib.MathLoose.min_long.code 4 (some .long) ∈ wsL_law := by decide +kernel
theorem mG.mlmin {idx : Nat} {x1 y1 : Int64} (hd : decode μ.2.1 pc = .ok (.invokestatic idx, 3)) (hl2 : Cond.methodLink μ.1.cls idx Lib.MathLoose.min_long.x ∈ wsL_law) (hd1 : 1 ≤ d) (hrest : (st.map fun v => v.category).sum ≤ 8) (hnc : nc ≤ mc) (hns : ns ≤ ms) (kk : mG x μ d mc ms Q nc ns E S (pc + 3) lv (.long (lmin x1 y1) :: st)) : mG x μ d mc ms Q nc ns E S pc lv (.long y1 :: .long x1 :: st) := by
  intro p e R s m args below meth c H locs ls C hl hP hS
  obtain ⟨hx, hb, hml, hr, hown, hts, hlk, hnm, hfr, hlo, hrc, hrs, hK, hz, hb0⟩ := id C
  exact va_mmin_long hx hb (hml.trans hl.1.symm) hown (hts _ hl2) (hts _ w_mlmin.1) (hts _ w_mlmin.2.1) (hts _ w_mlmin.2.2) (by omega) (by rw [mcat]; omega) (by omega) (by omega) hd (kk p e R s m args below meth c H locs ls C hl hP hS)
theorem w_mlmax : Cond.static Lib.MathLoose.max_long.x ∈ wsL_law ∧ Cond.initialized "java/lang/Math" ∈ wsL_law ∧ Cond.code Lib.MathLoose.max_long.x Lib.MathLoose.max_long.code 4 (some .long) ∈ wsL_law := by decide +kernel
theorem mG.mlmax {idx : Nat} {x1 y1 : Int64} (hd : decode μ.2.1 pc = .ok (.invokestatic idx, 3)) (hl2 : Cond.methodLink μ.1.cls idx Lib.MathLoose.max_long.x ∈ wsL_law) (hd1 : 1 ≤ d) (hrest : (st.map fun v => v.category).sum ≤ 8) (hnc : nc ≤ mc) (hns : ns ≤ ms) (kk : mG x μ d mc ms Q nc ns E S (pc + 3) lv (.long (lmax x1 y1) :: st)) : mG x μ d mc ms Q nc ns E S pc lv (.long y1 :: .long x1 :: st) := by
  intro p e R s m args below meth c H locs ls C hl hP hS
  obtain ⟨hx, hb, hml, hr, hown, hts, hlk, hnm, hfr, hlo, hrc, hrs, hK, hz, hb0⟩ := id C
  exact va_mmax_long hx hb (hml.trans hl.1.symm) hown (hts _ hl2) (hts _ w_mlmax.1) (hts _ w_mlmax.2.1) (hts _ w_mlmax.2.2) (by omega) (by rw [mcat]; omega) (by omega) (by omega) hd (kk p e R s m args below meth c H locs ls C hl hP hS)
/-- a return: an int, a truth, a long, a reference, nothing -/
theorem mEnd {x : mX} {Q : mQt} {E : mE} {S : mS} {H : Heap} {locs : List Loc} {s : State} {args : Array Value} {r : Option Value} (hq : Q E S r) (hP : mP x E S H) (hS : va_S (mA x) s.heap H locs) : ∀ t : State, t.heap = H → s.WarmedH t.vm → mQ x Q args s (.returned (r.map (em x))) t := fun t ht _ => ⟨⟨E, S, r, hq, rfl, by rw [ht]; exact hP⟩, hS.F ht⟩
theorem mG.iret {v : Int32} (hd : decode μ.2.1 pc = .ok (.ireturn, 1)) (hr : μ.2.2.2 = some .int) (hq : Q E S (some (.int v))) : mG x μ d mc ms Q mc ms E S pc lv [.int v] := by
  intro p e R s m args below meth c H locs ls C hl hP hS
  exact W.iret C.1 C.2.1 (C.2.2.2.1.trans hr) (mEnd (r := some (.int v)) hq hP hS) (fun q h => hS.2.2 q h) hd C.2.2.2.2.2.2.1
def bI (b : Bool) : Int32 := if b then 1 else 0
theorem bI01 (b : Bool) : bI b = 0 ∨ bI b = 1 := by cases b <;> simp [bI]
theorem mG.zret {v : Int32} {b : Bool} (hd : decode μ.2.1 pc = .ok (.ireturn, 1)) (hr : μ.2.2.2 = some .boolean) (hv : bI b = v) (hq : Q E S (some (.int (bI b)))) : mG x μ d mc ms Q mc ms E S pc lv [.int v] := by
  intro p e R s m args below meth c H locs ls C hl hP hS
  subst hv
  exact W.zret C.1 C.2.1 (C.2.2.2.1.trans hr) (mnb (bI01 b)).1 (mEnd (r := some (.int (bI b))) hq hP hS) (fun q h => hS.2.2 q h) hd C.2.2.2.2.2.2.1
theorem mG.lret {v : Int64} (hd : decode μ.2.1 pc = .ok (.lreturn, 1)) (hr : μ.2.2.2 = some .long) (hq : Q E S (some (.long v))) : mG x μ d mc ms Q mc ms E S pc lv [.long v] := by
  intro p e R s m args below meth c H locs ls C hl hP hS
  exact W.lret C.1 C.2.1 (C.2.2.2.1.trans hr) (mEnd (r := some (.long v)) hq hP hS) (fun q h => hS.2.2 q h) hd C.2.2.2.2.2.2.1
theorem mG.aret {t : Nat} {n : String} (hd : decode μ.2.1 pc = .ok (.areturn, 1)) (hr : μ.2.2.2 = some (.object n)) (hq : Q E S (some (.ref t))) : mG x μ d mc ms Q mc ms E S pc lv [.ref t] := by
  intro p e R s m args below meth c H locs ls C hl hP hS
  exact W.aret C.1 C.2.1 (C.2.2.2.1.trans hr) (Or.inl ⟨n, rfl⟩) (Or.inr ⟨x.2.1 + t, rfl⟩) (mEnd (r := some (.ref t)) hq hP hS) (fun q h => hS.2.2 q h) hd C.2.2.2.2.2.2.1
theorem mG.vret (hd : decode μ.2.1 pc = .ok (.return_, 1)) (hr : μ.2.2.2 = none) (hq : Q E S none) : mG x μ d mc ms Q mc ms E S pc lv [] := by
  intro p e R s m args below meth c H locs ls C hl hP hS
  exact W.vret C.1 C.2.1 (C.2.2.2.1.trans hr) (mEnd (r := none) hq hP hS) (fun q h => hS.2.2 q h) hd C.2.2.2.2.2.2.1
theorem mG.widen {nc2 ns2 : Nat} (h1 : nc = nc2) (h2 : ns ≤ ns2) (k : mG x μ d mc ms Q nc2 ns2 E S pc lv st) : mG x μ d mc ms Q nc ns E S pc lv st := by
  subst h1
  intro p e R s m args below meth c H locs ls C hl hP hS
  exact W.widen (Nat.le_refl _) h2 (k p e R s m args below meth c H locs ls C hl hP hS)
theorem mG.iretW {v : Int32} (hd : decode μ.2.1 pc = .ok (.ireturn, 1)) (hr : μ.2.2.2 = some .boolean) (hv : v = 0 ∨ v = 1) (h1 : nc ≤ mc) (h2 : ns ≤ ms) (hq : Q E S (some (.int v))) : mG x μ d mc ms Q nc ns E S pc lv [.int v] := by
  intro p e R s m args below meth c H locs ls C hl hP hS
  exact W.widen h1 h2 (W.zret C.1 C.2.1 (C.2.2.2.1.trans hr) (mnb hv).1 (mEnd (r := some (.int v)) hq hP hS) (fun q h => hS.2.2 q h) hd C.2.2.2.2.2.2.1)
theorem mG.eqv {E2 : mE} {S2 : mS} (h1 : E = E2) (h2 : S = S2) (k : mG x μ d mc ms Q nc ns E2 S2 pc lv st) : mG x μ d mc ms Q nc ns E S pc lv st := by
  subst h1
  subst h2
  exact k
/-! ===== calls ===== -/
theorem mSz {x : mX} {E : mE} {S : mS} {H : Heap} {s T : State} {p : Program} {l : Launch} {e : Env} {R : Room} {m : MethodId} {args : Array Value} {below : List Frame} {meth : Method} {c : Code} {locs : List Loc} {nc ns : Nat} (X : Stand p l e R s m args below meth c T locs nc ns) (hT : T.heap = H) (hP : mP x E S H) (hS : va_S (mA x) s.heap H locs) (hz : s.heap.size + nc = x.2.1 + E.1) (hb0 : x.2.1 ≤ s.heap.size) : H.size = x.2.1 + E.1 := by
  have h1 : T.heap.size ≤ s.heap.size + nc := X.same.2.2.1
  rw [hT] at h1
  have h2 : x.2.1 + E.1 ≤ H.size := by
    by_cases h : E.1 = 0
    · have := hS.1
      omega
    · have h3 := (hP.1 (E.1 - 1) _ (mW_at (by omega))).lt
      dsimp only at h3
      omega
  omega
theorem mGo {x : mX} {s : State} {p : Program} {e : Env} {R : Room} {m : MethodId} {args : Array Value} {below : List Frame} {meth : Method} {c : Code} {H : Heap} {locs : List Loc} {nc ns mc2 ms2 pc : Nat} {Q2 : mQt} {Z : State → Prop} {ls : Array Slot} {stk rest : List Value} {a : Array Value}
    (hr : va_Run p x.1 e R s m args below meth c H locs nc ns mc2 ms2 (F0 m pc ls stk) rest (mQ x Q2 a) (mA x)) (hS : va_S (mA x) s.heap H locs)
    (kk : ∀ (E' : mE) (S' : mS) (r : Option Value) (H1 : Heap) (locs1 : List Loc), Q2 E' S' r → mP x E' S' H1 → va_S (mA x) s.heap H1 locs1 → W p x.1 e R s m args below meth c H1 locs1 (nc + mc2) (ns + ms2) Z (F0 m (pc + 3) ls ((r.map (em x)).toList ++ rest))) :
    W p x.1 e R s m args below meth c H locs nc ns Z (F0 m pc ls stk) := by
  intro T hT X
  obtain ⟨v, st₀, t, T', L, h0, X', hL, e1, e2, ⟨⟨E', S', r, hq, hv, hP'⟩, hz, hk⟩, st⟩ := hr T hT X
  cases hv
  rw [h0] at hz hk
  obtain ⟨t2, a1, b1⟩ := kk E' S' r T'.heap (locs ++ L) hq (by rw [e1]; exact hP')
    ⟨Nat.le_trans hS.1 (by rw [e1]; exact hz), fun q h1 h2 => by rw [e1, hk q (Nat.lt_of_lt_of_le h1 hS.1) h2]; exact hS.2.1 q h1 h2, fun q hq => by
      rcases List.mem_append.mp hq with h | h
      · exact hS.2.2 q h
      · exact hL q h⟩ T' rfl X'
  exact ⟨t2, st t2 a1, b1⟩
theorem mPre {x : mX} {E : mE} {S : mS} {as : List Value} {H : Heap} {s : State} {locs : List Loc} (hP : mP x E S H) (hK : mK x s) (hS : va_S (mA x) s.heap H locs) (hz : H.size = x.2.1 + E.1) : PreS s H (mPc x E S as) (as.map (em x)) :=
  ⟨fun _ U g mk q => ⟨q.1, q.2.1, q.2.2.1.warm (State.WarmedH.refl _) (fun _ _ _ => rfl), q.2.2.2⟩, fun U hU hW => ⟨rfl, by rw [hU]; exact hP, hK.warm hW (by rw [hU]; exact hS.2.1), by rw [hU]; exact hz⟩⟩
theorem mGoodAll : wsL_law.all goodWord = true := by decide +kernel
theorem mGood {μ2 : mM} (h : Cond.code μ2.1 μ2.2.1 μ2.2.2.1 μ2.2.2.2 ∈ wsL_law) : GoodIn wsL_law (mws1 μ2) := goodIn_sub (fun w hw => by
  rcases List.mem_cons.mp hw with rfl | hw
  · exact h
  · exact hw) (List.all_eq_true.mpr fun w hw => List.all_eq_true.mp mGoodAll w (by
  rcases List.mem_cons.mp hw with rfl | hw
  · exact h
  · exact hw))
/-- a method that can be called: its code, its class, how many it takes -/
def mB (μ2 : mM) (n : Nat) : Prop := Cond.code μ2.1 μ2.2.1 μ2.2.2.1 μ2.2.2.2 ∈ wsL_law ∧ Cond.initialized μ2.1.cls ∈ wsL_law ∧ (μ2.1.cls ≠ "java/lang/invoke/MethodHandle" ∧ μ2.1.cls ≠ "java/lang/invoke/VarHandle" ∧ (parseMethodDescriptor μ2.1.desc).map (fun d => d.parameters.length) = some n) ∧ μ2.2.2.1 ≤ 21
theorem mCB {μ2 : mM} {n idx d2 mc2 ms2 : Nat} {own : String} {R : Room} {s : State} {args : Array Value} (hts : ∀ w ∈ wsL_law, w.before args s = true) (hB : mB μ2 n) (hl : Cond.methodLink own idx μ2.1 ∈ wsL_law) (h1 : d2 + 1 ≤ R.frames) (h2 : 40 * (d2 + 1) ≤ R.locals) : CallB R s args own idx μ2.1 μ2.2.1 μ2.2.2.1 μ2.2.2.2 (mws1 μ2) (mRoom d2 mc2 ms2) mc2 ms2 n :=
  callB_of n hts (mGood hB.1) rfl rfl rfl (hts _ hB.2.1) (hts _ hl) hB.2.2.1 ⟨h1, by have := hB.2.2.2; show 8 + (μ2.2.2.1 + 11) + 40 * d2 ≤ R.locals; omega⟩
theorem mCN {μ2 : mM} {n idx d2 mc2 ms2 : Nat} {own : String} {R : Room} {s : State} {args : Array Value} {x : mX} (hts : ∀ w ∈ wsL_law, w.before args s = true) (hK : mK x s) (hB : mB μ2 n) (hl : Cond.methodLinkNest own idx μ2.1 "ShutDays" ∈ mNW) (h1 : d2 + 1 ≤ R.frames) (h2 : 40 * (d2 + 1) ≤ R.locals) : va_CN R s args own idx μ2.1 "ShutDays" μ2.2.1 μ2.2.2.1 μ2.2.2.2 (mws1 μ2) (mRoom d2 mc2 ms2) mc2 ms2 n :=
  va_cnB n hts (mGood hB.1) rfl rfl rfl (hK.2.1 _ _ _ _ hl) (hts _ hB.2.1) hB.2.2.1 ⟨h1, by have := hB.2.2.2; show 8 + (μ2.2.2.1 + 11) + 40 * d2 ≤ R.locals; omega⟩
def mVs (μ2 : mM) (ci n : Nat) : Prop := mB μ2 n ∧ ci < 10 ∧ μ2.1.cls = mR ci ∧ Cond.instanceMethod μ2.1 ∈ wsL_law ∧ Cond.selects (mR ci) μ2.1 μ2.1 ∈ wsL_law
theorem mG.callV {μ2 : mM} {idx d2 mc2 ms2 : Nat} {as : List Value} {Q2 : mQt} {stk : List Value} {ci t n : Nat} (hd : decode μ.2.1 pc = .ok (.invokevirtual idx, 3)) (hV : mVs μ2 ci n) (hl2 : Cond.methodLink μ.1.cls idx μ2.1 ∈ wsL_law) (hn : as.length = n) (ht : E.2.1 t = ci) (hstk : stk = as.reverse ++ .ref t :: st) (hd2 : d2 + 1 ≤ d) (hnc : nc + mc2 ≤ mc) (hns : ns + ms2 ≤ ms) (hrest : (st.map fun v => v.category).sum ≤ 8) (hc : mCt μ2 d2 mc2 ms2 E S (.ref t :: as) Q2) (hE : ∀ E2 S2 r, Q2 E2 S2 r → E2.1 = E.1 + mc2) (kk : ∀ (E2 : mE) (S2 : mS) (r : Option Value), Q2 E2 S2 r → mG x μ d mc ms Q (nc + mc2) (ns + ms2) E2 S2 (pc + 3) lv (r.toList ++ st)) : mG x μ d mc ms Q nc ns E S pc lv stk := by
  intro p e R s m args below meth c H locs ls C hl hP hS
  obtain ⟨hx, hb, hml, hr, hown, hts, hlk, hnm, hfr, hlo, hrc, hrs, hK, hz, hb0⟩ := id C
  intro T hT X
  have hsz := mSz X hT hP hS hz hb0
  have hM := hc x d2 (Nat.le_refl _)
  have hlt : t < E.1 := hP.lt (mne ht (by have := hV.2.1; omega))
  have he := mW_at (x := x) (S := S) hlt
  rw [ht, mce_obj hV.2.1] at he
  have hrc2 := va_recv hK.1 hP.1 (mcl ci hV.2.1) he
  have hs2 : (stk.map (em x)) = (as.map (em x)).reverse ++ .ref (x.2.1 + t) :: st.map (em x) := by rw [hstk, List.map_append, List.map_reverse]; rfl
  refine mGo (Q2 := Q2) (rest := st.map (em x)) (va_runV (As := as.map (em x)) ⟨hx, hb, hml, hown, hts⟩ hM ⟨mCB hts hV.1 hl2 (by omega) (by omega), hts _ hV.2.2.2.1, hts _ hV.2.2.2.2⟩ ⟨(mPre hP hK hS hsz).1, hrc2, (mPre hP hK hS hsz).2⟩ rfl (by rw [List.length_map]; exact hn) hl.1 hs2 (lv_room (by rw [mcat]; exact hrest)) hd ⟨by omega, by omega⟩) hS (fun E2 S2 r H1 locs1 hq hP1 hS1 => ?_) T hT X
  have h3 := kk E2 S2 r hq p e R s m args below meth c H1 locs1 ls ⟨hx, hb, hml, hr, hown, hts, hlk, hnm, hfr, hlo, hrc, hrs, hK, by rw [hE _ _ _ hq]; omega, hb0⟩ hl hP1 hS1
  have h4 : (r.toList ++ st).map (em x) = (r.map (em x)).toList ++ st.map (em x) := by cases r <;> rfl
  rw [h4] at h3
  exact h3
theorem mG.callS {μ2 : mM} {idx d2 mc2 ms2 : Nat} {as : List Value} {Q2 : mQt} {stk : List Value} {n : Nat} (hd : decode μ.2.1 pc = .ok (.invokestatic idx, 3)) (hB : mB μ2 n) (hst2 : Cond.static μ2.1 ∈ wsL_law) (hl2 : Cond.methodLink μ.1.cls idx μ2.1 ∈ wsL_law) (hn : as.length = n) (hstk : stk = as.reverse ++ st) (hd2 : d2 + 1 ≤ d) (hnc : nc + mc2 ≤ mc) (hns : ns + ms2 ≤ ms) (hrest : (st.map fun v => v.category).sum ≤ 8) (hc : mCt μ2 d2 mc2 ms2 E S as Q2) (hE : ∀ E2 S2 r, Q2 E2 S2 r → E2.1 = E.1 + mc2) (kk : ∀ (E2 : mE) (S2 : mS) (r : Option Value), Q2 E2 S2 r → mG x μ d mc ms Q (nc + mc2) (ns + ms2) E2 S2 (pc + 3) lv (r.toList ++ st)) : mG x μ d mc ms Q nc ns E S pc lv stk := by
  intro p e R s m args below meth c H locs ls C hl hP hS
  obtain ⟨hx, hb, hml, hr, hown, hts, hlk, hnm, hfr, hlo, hrc, hrs, hK, hz, hb0⟩ := id C
  intro T hT X
  have hsz := mSz X hT hP hS hz hb0
  have hM := hc x d2 (Nat.le_refl _)
  have hs2 : (stk.map (em x)) = (as.map (em x)).reverse ++ st.map (em x) := by rw [hstk, List.map_append, List.map_reverse]
  refine mGo (Q2 := Q2) (rest := st.map (em x)) (va_runS (As := as.map (em x)) ⟨hx, hb, hml, hown, hts⟩ hM ⟨mCB hts hB hl2 (by omega) (by omega), hts _ hst2⟩ (mPre hP hK hS hsz) rfl (by rw [List.length_map]; exact hn) hl.1 hs2 (lv_room (by rw [mcat]; exact hrest)) hd ⟨by omega, by omega⟩) hS (fun E2 S2 r H1 locs1 hq hP1 hS1 => ?_) T hT X
  have h3 := kk E2 S2 r hq p e R s m args below meth c H1 locs1 ls ⟨hx, hb, hml, hr, hown, hts, hlk, hnm, hfr, hlo, hrc, hrs, hK, by rw [hE _ _ _ hq]; omega, hb0⟩ hl hP1 hS1
  have h4 : (r.toList ++ st).map (em x) = (r.map (em x)).toList ++ st.map (em x) := by cases r <;> rfl
  rw [h4] at h3
  exact h3
theorem mG.callSN {μ2 : mM} {idx d2 mc2 ms2 : Nat} {as : List Value} {Q2 : mQt} {stk : List Value} {n : Nat} (hd : decode μ.2.1 pc = .ok (.invokestatic idx, 3)) (hB : mB μ2 n) (hst2 : Cond.static μ2.1 ∈ wsL_law) (hl2 : Cond.methodLinkNest μ.1.cls idx μ2.1 "ShutDays" ∈ mNW) (hn : as.length = n) (hstk : stk = as.reverse ++ st) (hd2 : d2 + 1 ≤ d) (hnc : nc + mc2 ≤ mc) (hns : ns + ms2 ≤ ms) (hrest : (st.map fun v => v.category).sum ≤ 8) (hc : mCt μ2 d2 mc2 ms2 E S as Q2) (hE : ∀ E2 S2 r, Q2 E2 S2 r → E2.1 = E.1 + mc2) (kk : ∀ (E2 : mE) (S2 : mS) (r : Option Value), Q2 E2 S2 r → mG x μ d mc ms Q (nc + mc2) (ns + ms2) E2 S2 (pc + 3) lv (r.toList ++ st)) : mG x μ d mc ms Q nc ns E S pc lv stk := by
  intro p e R s m args below meth c H locs ls C hl hP hS
  obtain ⟨hx, hb, hml, hr, hown, hts, hlk, hnm, hfr, hlo, hrc, hrs, hK, hz, hb0⟩ := id C
  intro T hT X
  have hsz := mSz X hT hP hS hz hb0
  have hM := hc x d2 (Nat.le_refl _)
  have hs2 : (stk.map (em x)) = (as.map (em x)).reverse ++ st.map (em x) := by rw [hstk, List.map_append, List.map_reverse]
  refine mGo (Q2 := Q2) (rest := st.map (em x)) (va_runSN (As := as.map (em x)) ⟨hx, hb, hml, hown, hts⟩ hM ⟨mCN hts hK hB hl2 (by omega) (by omega), hts _ hst2, trivial⟩ (mPre hP hK hS hsz) rfl (by rw [List.length_map]; exact hn) hl.1 hs2 (lv_room (by rw [mcat]; exact hrest)) hd ⟨by omega, by omega⟩) hS (fun E2 S2 r H1 locs1 hq hP1 hS1 => ?_) T hT X
  have h3 := kk E2 S2 r hq p e R s m args below meth c H1 locs1 ls ⟨hx, hb, hml, hr, hown, hts, hlk, hnm, hfr, hlo, hrc, hrs, hK, by rw [hE _ _ _ hq]; omega, hb0⟩ hl hP1 hS1
  have h4 : (r.toList ++ st).map (em x) = (r.map (em x)).toList ++ st.map (em x) := by cases r <;> rfl
  rw [h4] at h3
  exact h3
theorem mG.callI {μ2 : mM} {idx d2 mc2 ms2 : Nat} {as : List Value} {Q2 : mQt} {stk : List Value} {t n : Nat} (hd : decode μ.2.1 pc = .ok (.invokespecial idx, 3)) (hB : mB μ2 n) (hr0 : μ2.2.2.2 = none) (hi2 : μ2.1.name = "<init>" ∧ Cond.instanceMethod μ2.1 ∈ wsL_law) (hl2 : Cond.methodLink μ.1.cls idx μ2.1 ∈ wsL_law) (hn : as.length = n) (hstk : stk = as.reverse ++ .ref t :: st) (hd2 : d2 + 1 ≤ d) (hnc : nc + mc2 ≤ mc) (hns : ns + ms2 ≤ ms) (hrest : (st.map fun v => v.category).sum ≤ 8) (hc : mCt μ2 d2 mc2 ms2 E S (.ref t :: as) Q2) (hE : ∀ E2 S2 r, Q2 E2 S2 r → E2.1 = E.1 + mc2) (kk : ∀ (E2 : mE) (S2 : mS) (r : Option Value), Q2 E2 S2 r → mG x μ d mc ms Q (nc + mc2) (ns + ms2) E2 S2 (pc + 3) lv (r.toList ++ st)) : mG x μ d mc ms Q nc ns E S pc lv stk := by
  intro p e R s m args below meth c H locs ls C hl hP hS
  obtain ⟨hx, hb, hml, hr, hown, hts, hlk, hnm, hfr, hlo, hrc, hrs, hK, hz, hb0⟩ := id C
  intro T hT X
  have hsz := mSz X hT hP hS hz hb0
  have hM := hc x d2 (Nat.le_refl _)
  have hs2 : (stk.map (em x)) = (as.map (em x)).reverse ++ .ref (x.2.1 + t) :: st.map (em x) := by rw [hstk, List.map_append, List.map_reverse]; rfl
  have hcb := mCB (mc2 := mc2) (ms2 := ms2) (R := R) hts hB hl2 (Nat.le_trans hd2 hfr) (by omega)
  rw [hr0] at hcb
  refine mGo (Q2 := Q2) (rest := st.map (em x)) (va_runI (As := as.map (em x)) ⟨hx, hb, hml, hown, hts⟩ hM ⟨hcb, hi2.1, hts _ hi2.2⟩ (mPre (as := .ref t :: as) hP hK hS hsz) rfl (by rw [List.length_map]; exact hn) hl.1 hs2 (lv_room (by rw [mcat]; exact hrest)) hd ⟨by omega, by omega⟩) hS (fun E2 S2 r H1 locs1 hq hP1 hS1 => ?_) T hT X
  have h3 := kk E2 S2 r hq p e R s m args below meth c H1 locs1 ls ⟨hx, hb, hml, hr, hown, hts, hlk, hnm, hfr, hlo, hrc, hrs, hK, by rw [hE _ _ _ hq]; omega, hb0⟩ hl hP1 hS1
  have h4 : (r.toList ++ st).map (em x) = (r.map (em x)).toList ++ st.map (em x) := by cases r <;> rfl
  rw [h4] at h3
  exact h3
theorem mG.callIN {μ2 : mM} {idx d2 mc2 ms2 : Nat} {as : List Value} {Q2 : mQt} {stk : List Value} {t n : Nat} (hd : decode μ.2.1 pc = .ok (.invokespecial idx, 3)) (hB : mB μ2 n) (hr0 : μ2.2.2.2 = none) (hi2 : μ2.1.name = "<init>" ∧ Cond.instanceMethod μ2.1 ∈ wsL_law) (hl2 : Cond.methodLinkNest μ.1.cls idx μ2.1 "ShutDays" ∈ mNW) (hn : as.length = n) (hstk : stk = as.reverse ++ .ref t :: st) (hd2 : d2 + 1 ≤ d) (hnc : nc + mc2 ≤ mc) (hns : ns + ms2 ≤ ms) (hrest : (st.map fun v => v.category).sum ≤ 8) (hc : mCt μ2 d2 mc2 ms2 E S (.ref t :: as) Q2) (hE : ∀ E2 S2 r, Q2 E2 S2 r → E2.1 = E.1 + mc2) (kk : ∀ (E2 : mE) (S2 : mS) (r : Option Value), Q2 E2 S2 r → mG x μ d mc ms Q (nc + mc2) (ns + ms2) E2 S2 (pc + 3) lv (r.toList ++ st)) : mG x μ d mc ms Q nc ns E S pc lv stk := by
  intro p e R s m args below meth c H locs ls C hl hP hS
  obtain ⟨hx, hb, hml, hr, hown, hts, hlk, hnm, hfr, hlo, hrc, hrs, hK, hz, hb0⟩ := id C
  intro T hT X
  have hsz := mSz X hT hP hS hz hb0
  have hM := hc x d2 (Nat.le_refl _)
  have hs2 : (stk.map (em x)) = (as.map (em x)).reverse ++ .ref (x.2.1 + t) :: st.map (em x) := by rw [hstk, List.map_append, List.map_reverse]; rfl
  have hcb := mCN (mc2 := mc2) (ms2 := ms2) (R := R) hts hK hB hl2 (Nat.le_trans hd2 hfr) (by omega)
  rw [hr0] at hcb
  refine mGo (Q2 := Q2) (rest := st.map (em x)) (va_runIN (As := as.map (em x)) ⟨hx, hb, hml, hown, hts⟩ hM ⟨hcb, hi2.1, hts _ hi2.2⟩ (mPre (as := .ref t :: as) hP hK hS hsz) rfl (by rw [List.length_map]; exact hn) hl.1 hs2 (lv_room (by rw [mcat]; exact hrest)) hd ⟨by omega, by omega⟩) hS (fun E2 S2 r H1 locs1 hq hP1 hS1 => ?_) T hT X
  have h3 := kk E2 S2 r hq p e R s m args below meth c H1 locs1 ls ⟨hx, hb, hml, hr, hown, hts, hlk, hnm, hfr, hlo, hrc, hrs, hK, by rw [hE _ _ _ hq]; omega, hb0⟩ hl hP1 hS1
  have h4 : (r.toList ++ st).map (em x) = (r.map (em x)).toList ++ st.map (em x) := by cases r <;> rfl
  rw [h4] at h3
  exact h3
theorem mG.sub {lv2 : List (Nat × Value)} (ks : List Nat) (h : lv_pick lv ks = lv2) (k : mG x μ d mc ms Q nc ns E S pc lv2 st) : mG x μ d mc ms Q nc ns E S pc lv st := by
  intro p e R s m args below meth c H locs ls C hl hP hS
  refine k p e R s m args below meth c H locs ls C (lv_sub hl ks ?_) hP hS
  rw [← h]
  simp only [mL, lv_pick, List.map_filterMap, List.getElem?_map]
theorem bI_f {b : Bool} (h : bI b = 0) : b = false := by cases b <;> simp_all [bI]
theorem bI_t {b : Bool} (h : ¬ bI b = 0) : b = true := by cases b <;> simp_all [bI]
theorem mG.ifz_eq {b : Bool} {off : Int} (tgt : Nat) (hd : decode μ.2.1 pc = .ok (.ifCond .eq off, 3)) (ht : (pc : Int) + off = (tgt : Int)) (kt : ¬ b = true → mG x μ d mc ms Q nc ns E S tgt lv st) (kf : b = true → mG x μ d mc ms Q nc ns E S (pc + 3) lv st) : mG x μ d mc ms Q nc ns E S pc lv (.int (bI b) :: st) := mG.if_eq tgt hd ht (fun q => kt (by rw [bI_f q]; decide)) (fun q => kf (bI_t q))
theorem mG.ifz_ne {b : Bool} {off : Int} (tgt : Nat) (hd : decode μ.2.1 pc = .ok (.ifCond .ne off, 3)) (ht : (pc : Int) + off = (tgt : Int)) (kt : b = true → mG x μ d mc ms Q nc ns E S tgt lv st) (kf : ¬ b = true → mG x μ d mc ms Q nc ns E S (pc + 3) lv st) : mG x μ d mc ms Q nc ns E S pc lv (.int (bI b) :: st) := mG.if_ne tgt hd ht (fun q => kt (bI_t q)) (fun q => kf (by rw [bI_f q]; decide))
theorem lgc_eq {a b : Int64} : lg_cmp a b = 0 ↔ a = b := by
  unfold lg_cmp
  simp only [gt_iff_lt, Int64.lt_iff_toInt_lt, ← Int64.toInt_inj]
  repeat' split
  all_goals (constructor <;> intro h <;> first | omega | (exact absurd h (by decide)) | decide)
theorem lgc_lt {a b : Int64} : lg_cmp a b < 0 ↔ a < b := by
  unfold lg_cmp
  simp only [gt_iff_lt, Int64.lt_iff_toInt_lt, ← Int64.toInt_inj]
  repeat' split
  all_goals (constructor <;> intro h <;> first | omega | (exact absurd h (by decide)) | decide)
theorem lgc_gt {a b : Int64} : 0 < lg_cmp a b ↔ b < a := by
  unfold lg_cmp
  simp only [gt_iff_lt, Int64.lt_iff_toInt_lt, ← Int64.toInt_inj]
  repeat' split
  all_goals (constructor <;> intro h <;> first | omega | (exact absurd h (by decide)) | decide)
theorem lgc_ge {a b : Int64} : 0 ≤ lg_cmp a b ↔ ¬ a < b := by rw [← lgc_lt, Int32.not_lt]
theorem lgc_le {a b : Int64} : lg_cmp a b ≤ 0 ↔ ¬ b < a := by rw [← lgc_gt, Int32.not_lt]
theorem mG.ifl_eq {a b : Int64} {off : Int} (tgt : Nat) (hd : decode μ.2.1 pc = .ok (.ifCond .eq off, 3)) (ht : (pc : Int) + off = (tgt : Int)) (kt : a = b → mG x μ d mc ms Q nc ns E S tgt lv st) (kf : ¬ a = b → mG x μ d mc ms Q nc ns E S (pc + 3) lv st) : mG x μ d mc ms Q nc ns E S pc lv (.int (lg_cmp a b) :: st) := mG.if_eq tgt hd ht (fun q => kt (lgc_eq.mp q)) (fun q => kf (fun z => q (lgc_eq.mpr z)))
theorem mG.ifl_lt {a b : Int64} {off : Int} (tgt : Nat) (hd : decode μ.2.1 pc = .ok (.ifCond .lt off, 3)) (ht : (pc : Int) + off = (tgt : Int)) (kt : a < b → mG x μ d mc ms Q nc ns E S tgt lv st) (kf : ¬ a < b → mG x μ d mc ms Q nc ns E S (pc + 3) lv st) : mG x μ d mc ms Q nc ns E S pc lv (.int (lg_cmp a b) :: st) := mG.if_lt tgt hd ht (fun q => kt (lgc_lt.mp q)) (fun q => kf (fun z => q (lgc_lt.mpr z)))
theorem mG.ifl_gt {a b : Int64} {off : Int} (tgt : Nat) (hd : decode μ.2.1 pc = .ok (.ifCond .gt off, 3)) (ht : (pc : Int) + off = (tgt : Int)) (kt : b < a → mG x μ d mc ms Q nc ns E S tgt lv st) (kf : ¬ b < a → mG x μ d mc ms Q nc ns E S (pc + 3) lv st) : mG x μ d mc ms Q nc ns E S pc lv (.int (lg_cmp a b) :: st) := mG.if_gt tgt hd ht (fun q => kt (lgc_gt.mp q)) (fun q => kf (fun z => q (lgc_gt.mpr z)))
theorem mG.ifl_ne {a b : Int64} {off : Int} (tgt : Nat) (hd : decode μ.2.1 pc = .ok (.ifCond .ne off, 3)) (ht : (pc : Int) + off = (tgt : Int)) (kt : ¬ a = b → mG x μ d mc ms Q nc ns E S tgt lv st) (kf : a = b → mG x μ d mc ms Q nc ns E S (pc + 3) lv st) : mG x μ d mc ms Q nc ns E S pc lv (.int (lg_cmp a b) :: st) := mG.if_ne tgt hd ht (fun q => kt (fun z => q (lgc_eq.mpr z))) (fun q => kf (lgc_eq.mp q))
theorem mG.ifl_ge {a b : Int64} {off : Int} (tgt : Nat) (hd : decode μ.2.1 pc = .ok (.ifCond .ge off, 3)) (ht : (pc : Int) + off = (tgt : Int)) (kt : ¬ a < b → mG x μ d mc ms Q nc ns E S tgt lv st) (kf : a < b → mG x μ d mc ms Q nc ns E S (pc + 3) lv st) : mG x μ d mc ms Q nc ns E S pc lv (.int (lg_cmp a b) :: st) := mG.if_ge tgt hd ht (fun q => kt (lgc_ge.mp q)) (fun q => kf (Classical.byContradiction fun z => q (lgc_ge.mpr z)))
theorem mG.ifl_le {a b : Int64} {off : Int} (tgt : Nat) (hd : decode μ.2.1 pc = .ok (.ifCond .le off, 3)) (ht : (pc : Int) + off = (tgt : Int)) (kt : ¬ b < a → mG x μ d mc ms Q nc ns E S tgt lv st) (kf : b < a → mG x μ d mc ms Q nc ns E S (pc + 3) lv st) : mG x μ d mc ms Q nc ns E S pc lv (.int (lg_cmp a b) :: st) := mG.if_le tgt hd ht (fun q => kt (lgc_le.mp q)) (fun q => kf (Classical.byContradiction fun z => q (lgc_le.mpr z)))
theorem tsw_out {x1 : Int32} {lo : Int} {n : Nat} (h : ∀ j : Nat, j < n → x1.toInt ≠ lo + j) : x1.toInt < lo ∨ lo + n - 1 < x1.toInt := by
  by_cases h1 : x1.toInt < lo
  · exact Or.inl h1
  · by_cases h2 : lo + n - 1 < x1.toInt
    · exact Or.inr h2
    · exact absurd (by omega : x1.toInt = lo + ((x1.toInt - lo).toNat : Int)) (h (x1.toInt - lo).toNat (by omega))
/-! ===== the String constants ===== -/
theorem mG.ldcS {idx : Nat} (i : Nat) (hi : i < 2) (hd : decode μ.2.1 pc = .ok (.ldc idx, 2)) (ho : μ.1.cls = RX4) (hx1 : (i = 0 ∧ idx = 109) ∨ (i = 1 ∧ idx = 97)) (kk : mG x μ d mc ms Q nc ns E S (pc + 2) lv (.float (UInt32.ofNat i) :: st)) : mG x μ d mc ms Q nc ns E S pc lv st := by
  intro p e R s m args below meth c H locs ls C hl hP hS
  obtain ⟨hx, hb, hml, hr, hown, hts, hlk, hnm, hfr, hlo, hrc, hrs, hK, hz, hb0⟩ := id C
  obtain ⟨adK, adV, h1, h2, h3, e0, e1, e2, e3, h4, h5, hscr⟩ := hK.2.2.2.2
  rw [ho] at hown
  have kk2 := kk p e R s m args below meth c H locs ls C hl hP hS
  rcases hx1 with ⟨rfl, rfl⟩ | ⟨rfl, rfl⟩
  · refine va_ldcS hx hb hown h2 hd ?_
    have e9 : em x (.float (UInt32.ofNat 0)) = .ref (adK 0) := by show va_rf (x.2.2.2.2.2.1 0) = _; rw [e0]; rfl
    rw [← e9]
    exact kk2
  · refine va_ldcS hx hb hown h3 hd ?_
    have e9 : em x (.float (UInt32.ofNat 1)) = .ref (adK 1) := by show va_rf (x.2.2.2.2.2.1 1) = _; rw [e1]; rfl
    rw [← e9]
    exact kk2
theorem mStr.at {x : mX} {s : State} (h : mStr x s) (i : Nat) (hi : i < 2) : ∃ q v : Nat, em x (.float (UInt32.ofNat i)) = .ref q ∧ em x (.float (UInt32.ofNat (i + 2))) = .ref v ∧ va_O "java/lang/String" q (mA x) s s.heap ∧ va_OF "java/lang/String" "coder" "B" (.int 0) q (mA x) s s.heap ∧ va_OF "java/lang/String" "value" "[B" (.ref v) q (mA x) s s.heap ∧ va_T .byte v (strL.getD i 0) (fun j => .int ((strB.getD i []).getD j 0)) (mA x) s s.heap := by
  obtain ⟨adK, adV, h1, h2, h3, e0, e1, e2, e3, h4, h5, hscr⟩ := h
  refine ⟨adK i, adV i, ?_, ?_, h1.1 i hi⟩
  · rcases (by omega : i = 0 ∨ i = 1) with rfl | rfl
    · show va_rf (x.2.2.2.2.2.1 0) = _
      rw [e0]; rfl
    · show va_rf (x.2.2.2.2.2.1 1) = _
      rw [e1]; rfl
  · rcases (by omega : i = 0 ∨ i = 1) with rfl | rfl
    · show va_rf (x.2.2.2.2.2.1 2) = _
      rw [e2]; rfl
    · show va_rf (x.2.2.2.2.2.1 3) = _
      rw [e3]; rfl
theorem mG.getCoder {idx : Nat} (i : Nat) (hi : i < 2) (hd : decode μ.2.1 pc = .ok (.getfield idx, 3)) (hw : Cond.fieldLink μ.1.cls idx "java/lang/String" "coder" "B" ∈ wsL_law) (kk : mG x μ d mc ms Q nc ns E S (pc + 3) lv (.int 0 :: st)) : mG x μ d mc ms Q nc ns E S pc lv (.float (UInt32.ofNat i) :: st) := by
  intro p e R s m args below meth c H locs ls C hl hP hS
  obtain ⟨hx, hb, hml, hr, hown, hts, hlk, hnm, hfr, hlo, hrc, hrs, hK, hz, hb0⟩ := id C
  obtain ⟨q, v, a1, a2, a3, a4, a5, a6⟩ := hK.2.2.2.2.at i hi
  rw [List.map_cons, a1]
  exact vk_getf hx hb a4 hS hown (hts _ hw) (fun _ h => h) hd (kk p e R s m args below meth c H locs ls C hl hP hS)
theorem mG.getValue {idx : Nat} (i : Nat) (hi : i < 2) (hd : decode μ.2.1 pc = .ok (.getfield idx, 3)) (hw : Cond.fieldLink μ.1.cls idx "java/lang/String" "value" "[B" ∈ wsL_law) (kk : mG x μ d mc ms Q nc ns E S (pc + 3) lv (.float (UInt32.ofNat (i + 2)) :: st)) : mG x μ d mc ms Q nc ns E S pc lv (.float (UInt32.ofNat i) :: st) := by
  intro p e R s m args below meth c H locs ls C hl hP hS
  obtain ⟨hx, hb, hml, hr, hown, hts, hlk, hnm, hfr, hlo, hrc, hrs, hK, hz, hb0⟩ := id C
  obtain ⟨q, v, a1, a2, a3, a4, a5, a6⟩ := hK.2.2.2.2.at i hi
  have kk2 := kk p e R s m args below meth c H locs ls C hl hP hS
  rw [List.map_cons, a2] at kk2
  rw [List.map_cons, a1]
  exact vk_getf hx hb a5 hS hown (hts _ hw) (fun _ h => h) hd kk2
theorem mG.balen (i : Nat) (hi : i < 2) {n : Int32} (hd : decode μ.2.1 pc = .ok (.arraylength, 1)) (hn : Int32.ofNat (strL.getD i 0) = n) (kk : mG x μ d mc ms Q nc ns E S (pc + 1) lv (.int n :: st)) : mG x μ d mc ms Q nc ns E S pc lv (.float (UInt32.ofNat (i + 2)) :: st) := by
  intro p e R s m args below meth c H locs ls C hl hP hS
  obtain ⟨hx, hb, hml, hr, hown, hts, hlk, hnm, hfr, hlo, hrc, hrs, hK, hz, hb0⟩ := id C
  obtain ⟨q, v, a1, a2, a3, a4, a5, a6⟩ := hK.2.2.2.2.at i hi
  rw [List.map_cons, a2]
  exact va_tlen hx hb a6 hS hn hd (kk p e R s m args below meth c H locs ls C hl hP hS)
theorem mG.bald (i : Nat) (hi : i < 2) {j : Int32} (hd : decode μ.2.1 pc = .ok (.baload, 1)) (hin : vp_in j (strL.getD i 0)) (kk : mG x μ d mc ms Q nc ns E S (pc + 1) lv (.int ((strB.getD i []).getD j.toNatClampNeg 0) :: st)) : mG x μ d mc ms Q nc ns E S pc lv (.int j :: .float (UInt32.ofNat (i + 2)) :: st) := by
  intro p e R s m args below meth c H locs ls C hl hP hS
  obtain ⟨hx, hb, hml, hr, hown, hts, hlk, hnm, hfr, hlo, hrc, hrs, hK, hz, hb0⟩ := id C
  obtain ⟨q, v, a1, a2, a3, a4, a5, a6⟩ := hK.2.2.2.2.at i hi
  rw [List.map_cons, List.map_cons, a2]
  exact va_tb hx hb a6 hS hin rfl hd (kk p e R s m args below meth c H locs ls C hl hP hS)
theorem mG.getsC {idx : Nat} (hd : decode μ.2.1 pc = .ok (.getstatic idx, 3)) (hw : Cond.fieldLink μ.1.cls idx "java/lang/String" "COMPACT_STRINGS" "Z" ∈ wsL_law) (kk : mG x μ d mc ms Q nc ns E S (pc + 3) lv (.int 1 :: st)) : mG x μ d mc ms Q nc ns E S pc lv st := by
  intro p e R s m args below meth c H locs ls C hl hP hS
  obtain ⟨hx, hb, hml, hr, hown, hts, hlk, hnm, hfr, hlo, hrc, hrs, hK, hz, hb0⟩ := id C
  obtain ⟨adK, adV, h1, h2, h3, e0, e1, e2, e3, h4, h5, hscr⟩ := hK.2.2.2.2
  exact va_gets hx hb h4 hS hown (hts _ hw) (fun _ h => h) hd (kk p e R s m args below meth c H locs ls C hl hP hS)
theorem mG.getsF {idx : Nat} (hd : decode μ.2.1 pc = .ok (.getstatic idx, 3)) (hw : Cond.fieldLink μ.1.cls idx "jdk/internal/util/Preconditions" "SIOOBE_FORMATTER" "Ljava/util/function/BiFunction;" ∈ wsL_law) (kk : mG x μ d mc ms Q nc ns E S (pc + 3) lv (.float 4 :: st)) : mG x μ d mc ms Q nc ns E S pc lv st := by
  intro p e R s m args below meth c H locs ls C hl hP hS
  obtain ⟨hx, hb, hml, hr, hown, hts, hlk, hnm, hfr, hlo, hrc, hrs, hK, hz, hb0⟩ := id C
  obtain ⟨adK, adV, h1, h2, h3, e0, e1, e2, e3, h4, h5, hscr⟩ := hK.2.2.2.2
  exact va_gets hx hb h5 hS hown (hts _ hw) (fun _ h => h) hd (kk p e R s m args below meth c H locs ls C hl hP hS)
theorem mG.sload_n {n : Fin 4} (j : Nat) {u : UInt32} (hd : decode μ.2.1 pc = .ok (.aload_n n, 1)) (hj : lv[j]? = some ((n : Nat), .float u)) (k : mG x μ d mc ms Q nc ns E S (pc + 1) lv (.float u :: st)) : mG x μ d mc ms Q nc ns E S pc lv st := by
  intro p e R s m args below meth c H locs ls C hl hP hS
  have h2 := mL_get hl hj
  have k2 := k p e R s m args below meth c H locs ls C hl hP hS
  rw [List.map_cons] at k2
  have e1 : em x (.float u) = va_rf (x.2.2.2.2.2.1 u) := rfl
  rw [e1] at h2 k2
  cases hq : x.2.2.2.2.2.1 u with
  | none =>
    rw [hq] at h2 k2
    exact lv_aload_nN C.1 C.2.1 hd rfl h2 k2
  | some a =>
    rw [hq] at h2 k2
    exact lv_aload_n C.1 C.2.1 hd rfl h2 k2
theorem mG.sload {n : Nat} (j : Nat) {u : UInt32} (hd : decode μ.2.1 pc = .ok (.aload n, 2)) (hj : lv[j]? = some (n, .float u)) (k : mG x μ d mc ms Q nc ns E S (pc + 2) lv (.float u :: st)) : mG x μ d mc ms Q nc ns E S pc lv st := by
  intro p e R s m args below meth c H locs ls C hl hP hS
  have h2 := mL_get hl hj
  have k2 := k p e R s m args below meth c H locs ls C hl hP hS
  rw [List.map_cons] at k2
  have e1 : em x (.float u) = va_rf (x.2.2.2.2.2.1 u) := rfl
  rw [e1] at h2 k2
  cases hq : x.2.2.2.2.2.1 u with
  | none =>
    rw [hq] at h2 k2
    exact lv_aloadN C.1 C.2.1 hd h2 k2
  | some a =>
    rw [hq] at h2 k2
    exact lv_aload C.1 C.2.1 hd h2 k2
theorem mG.scrLen {n : Int32} (hd : decode μ.2.1 pc = .ok (.arraylength, 1)) (hn : Int32.ofNat x.2.2.2.2.2.2.1 = n) (kk : mG x μ d mc ms Q nc ns E S (pc + 1) lv (.int n :: st)) : mG x μ d mc ms Q nc ns E S pc lv (.float 5 :: st) := by
  intro p e R s m args below meth c H locs ls C hl hP hS
  obtain ⟨hx, hb, hml, hr, hown, hts, hlk, hnm, hfr, hlo, hrc, hrs, hK, hz, hb0⟩ := id C
  obtain ⟨adK, adV, h1, h2, h3, e0, e1, e2, e3, h4, h5, b, b1, b2, b3, b4⟩ := hK.2.2.2.2
  have e9 : em x (.float 5) = .ref b := by show va_rf (x.2.2.2.2.2.1 5) = _; rw [b1]; rfl
  subst hn
  rw [List.map_cons, e9]
  exact va_slen hx hb b2 b3 b4 hS hd (kk p e R s m args below meth c H locs ls C hl hP hS)
theorem mG.scrLd {i : Int32} (hd : decode μ.2.1 pc = .ok (.iaload, 1)) (hin : vp_in i x.2.2.2.2.2.2.1) (kk : mG x μ d mc ms Q nc ns E S (pc + 1) lv (.int (x.2.2.2.2.2.2.2 i.toNatClampNeg) :: st)) : mG x μ d mc ms Q nc ns E S pc lv (.int i :: .float 5 :: st) := by
  intro p e R s m args below meth c H locs ls C hl hP hS
  obtain ⟨hx, hb, hml, hr, hown, hts, hlk, hnm, hfr, hlo, hrc, hrs, hK, hz, hb0⟩ := id C
  obtain ⟨adK, adV, h1, h2, h3, e0, e1, e2, e3, h4, h5, b, b1, b2, b3, b4⟩ := hK.2.2.2.2
  have e9 : em x (.float 5) = .ref b := by show va_rf (x.2.2.2.2.2.1 5) = _; rw [b1]; rfl
  rw [List.map_cons, List.map_cons, e9]
  exact va_sld hx hb b2 b3 b4 hS hin hd (kk p e R s m args below meth c H locs ls C hl hP hS)
theorem mG.callVs {μ2 : mM} {idx d2 mc2 ms2 : Nat} {as : List Value} {Q2 : mQt} {stk : List Value} {n : Nat} (i : Nat) (hi : i < 2) (hd : decode μ.2.1 pc = .ok (.invokevirtual idx, 3)) (hB : mB μ2 n) (hcl : μ2.1.cls = "java/lang/String") (hV1 : Cond.instanceMethod μ2.1 ∈ wsL_law) (hV2 : Cond.selects "java/lang/String" μ2.1 μ2.1 ∈ wsL_law) (hl2 : Cond.methodLink μ.1.cls idx μ2.1 ∈ wsL_law) (hn : as.length = n) (hstk : stk = as.reverse ++ .float (UInt32.ofNat i) :: st) (hd2 : d2 + 1 ≤ d) (hnc : nc + mc2 ≤ mc) (hns : ns + ms2 ≤ ms) (hrest : (st.map fun v => v.category).sum ≤ 8) (hc : mCt μ2 d2 mc2 ms2 E S (.float (UInt32.ofNat i) :: as) Q2) (hE : ∀ E2 S2 r, Q2 E2 S2 r → E2.1 = E.1 + mc2) (kk : ∀ (E2 : mE) (S2 : mS) (r : Option Value), Q2 E2 S2 r → mG x μ d mc ms Q (nc + mc2) (ns + ms2) E2 S2 (pc + 3) lv (r.toList ++ st)) : mG x μ d mc ms Q nc ns E S pc lv stk := by
  intro p e R s m args below meth c H locs ls C hl hP hS
  obtain ⟨hx, hb, hml, hr, hown, hts, hlk, hnm, hfr, hlo, hrc, hrs, hK, hz, hb0⟩ := id C
  intro T hT X
  have hsz := mSz X hT hP hS hz hb0
  have hM := hc x d2 (Nat.le_refl _)
  obtain ⟨q, v, a1, a2, a3, a4, a5, a6⟩ := hK.2.2.2.2.at i hi
  obtain ⟨cell, c1, c2, c3, -⟩ := a3.kept hS.2.1
  have hs2 : (stk.map (em x)) = (as.map (em x)).reverse ++ .ref q :: st.map (em x) := by rw [hstk, List.map_append, List.map_reverse, List.map_cons, a1]
  have hpre := mPre (as := .float (UInt32.ofNat i) :: as) hP hK hS hsz
  rw [List.map_cons, a1] at hpre
  refine mGo (Q2 := Q2) (rest := st.map (em x)) (va_runV (As := as.map (em x)) ⟨hx, hb, hml, hown, hts⟩ hM ⟨mCB hts hB hl2 (by omega) (by omega), hts _ hV1, hts _ hV2⟩ ⟨hpre.1, ⟨cell, c1, c2, c3⟩, hpre.2⟩ rfl (by rw [List.length_map]; exact hn) hl.1 hs2 (lv_room (by rw [mcat]; exact hrest)) hd ⟨by omega, by omega⟩) hS (fun E2 S2 r H1 locs1 hq hP1 hS1 => ?_) T hT X
  have h3 := kk E2 S2 r hq p e R s m args below meth c H1 locs1 ls ⟨hx, hb, hml, hr, hown, hts, hlk, hnm, hfr, hlo, hrc, hrs, hK, by rw [hE _ _ _ hq]; omega, hb0⟩ hl hP1 hS1
  have h4 : (r.toList ++ st).map (em x) = (r.map (em x)).toList ++ st.map (em x) := by cases r <;> rfl
  rw [h4] at h3
  exact h3
/-! ===== making cells ===== -/
def okTy (ty : FieldType) : Bool := match ty with
  | .int => true
  | .boolean => true
  | .long => true
  | .object _ => true
  | .array _ => true
  | _ => false
theorem fv_df {ty : FieldType} (h : okTy ty = true) : fv ty 0 0 none = defaultValue ty := by cases ty <;> first | rfl | cases h
theorem em_df {x : mX} {ty : FieldType} (h : okTy ty = true) : em x (defaultValue ty) = defaultValue ty := by cases ty <;> first | rfl | cases h
theorem okTy_all : ∀ ci, ci < 10 → ∀ k, k < mN ci → okTy (mty ci k) = true := by decide +kernel
def nE (E : mE) (ci n : Nat) : mE := (E.1 + 1, fun u => if u = E.1 then ci else E.2.1 u, fun u => if u = E.1 then n else E.2.2.1 u, fun u k => if u = E.1 then none else E.2.2.2 u k)
def nS (E : mE) (S : mS) : mS := (fun u k => if u = E.1 then 0 else S.1 u k, fun u k => if u = E.1 then 0 else S.2 u k)
theorem mW_new (x : mX) (E : mE) (S : mS) (ci n : Nat) : mW x (nE E ci n) (nS E S) = mW x E S ++ [(x.2.1 + E.1, mce x ci n (fun _ => 0) (fun _ => 0) (fun _ => none))] := by
  show (List.range (E.1 + 1)).map _ = _
  rw [List.range_succ, List.map_append]
  congr 1
  · apply List.map_congr_left
    intro t ht
    have h1 := List.mem_range.mp ht
    have h : t ≠ E.1 := by omega
    simp [nE, nS, h]
  · simp [nE, nS]
theorem mP.new {x : mX} {E : mE} {S : mS} {H H1 H0 : Heap} {ci n : Nat} {locs : List Loc} (h : mP x E S H) (hP : va_P x.2.2.1 vwCl (mW x E S ++ [(x.2.1 + E.1, mce x ci n (fun _ => 0) (fun _ => 0) (fun _ => none))]) H1) (hS : va_S (mA x) H0 H1 locs) (h0 : ∀ q, q < x.2.1 → H0[q]? = x.2.2.2.2.1[q]?) (hz : x.2.1 ≤ H0.size) : mP x (nE E ci n) (nS E S) H1 := by
  rw [← mW_new] at hP
  refine ⟨hP, fun t ht => ?_, fun q hq => (hS.2.1 q (by omega) (by show ¬ x.2.1 ≤ q; omega)).trans (h0 q hq)⟩
  have h2 : E.1 + 1 ≤ t := ht
  show (if t = E.1 then ci else E.2.1 t) = 99
  rw [if_neg (by omega)]
  exact h.2.1 t (by omega)
theorem mNewAt {x : mX} {E : mE} {S : mS} {H1 : Heap} {s T : State} {p : Program} {l : Launch} {e : Env} {R : Room} {m : MethodId} {args : Array Value} {below : List Frame} {meth : Method} {c : Code} {locs : List Loc} {nc ns q : Nat} {ce : va_E} (X : Stand p l e R s m args below meth c T locs (nc + 1) ns) (hT : T.heap = H1) (hP : va_P x.2.2.1 vwCl (mW x E S ++ [(q, ce)]) H1) (hD : va_D (mA x) (mW x E S ++ [(q, ce)])) (hz : s.heap.size + nc = x.2.1 + E.1) : q = x.2.1 + E.1 := by
  have h1 : T.heap.size ≤ s.heap.size + (nc + 1) := X.same.2.2.1
  rw [hT] at h1
  have hg : (mW x E S ++ [(q, ce)])[E.1]? = some (q, ce) := by
    rw [List.getElem?_append_right (by rw [mW_len]; exact Nat.le_refl _), mW_len, Nat.sub_self]
    rfl
  have h2 : q < H1.size := (hP E.1 _ hg).lt
  have h3 : x.2.1 ≤ q := hD.2 E.1 _ hg
  by_cases h4 : q = x.2.1 + E.1
  · exact h4
  · have h5 : q - x.2.1 < E.1 := by omega
    have h6 : (mW x E S ++ [(q, ce)])[q - x.2.1]? = some (x.2.1 + (q - x.2.1), mce x (E.2.1 (q - x.2.1)) (E.2.2.1 (q - x.2.1)) (S.1 (q - x.2.1)) (S.2 (q - x.2.1)) (E.2.2.2 (q - x.2.1))) := by
      rw [List.getElem?_append_left (by rw [mW_len]; exact h5)]
      exact mW_at h5
    have h7 := hD.1 (q - x.2.1) E.1 _ _ h6 hg (by show x.2.1 + (q - x.2.1) = q; omega)
    omega
theorem mG.new {idx ci : Nat} (hd : decode μ.2.1 pc = .ok (.new idx, 3)) (h10 : ci < 10) (hw : Cond.classLink μ.1.cls idx (mR ci) ∈ wsL_law) (hw2 : Cond.instantiable (mR ci) (mN ci) ∈ wsL_law) (hw3 : Cond.initialized (mR ci) ∈ wsL_law) (hnc : nc + 1 ≤ mc) (hns : ns + mN ci ≤ ms) (kk : mG x μ d mc ms Q (nc + 1) (ns + mN ci) (nE E ci 0) (nS E S) (pc + 3) lv (.ref E.1 :: st)) : mG x μ d mc ms Q nc ns E S pc lv st := by
  intro p e R s m args below meth c H locs ls C hl hP hS
  obtain ⟨hx, hb, hml, hr, hown, hts, hlk, hnm, hfr, hlo, hrc, hrs, hK, hz, hb0⟩ := id C
  refine va_new (fs := mfs x ci (fun _ => 0) (fun _ => 0) (fun _ => none)) hx hb hts (mws ci h10) (mty ci) (mty_ok ci h10) hown (hts _ hw) (hts _ hw2) (hts _ hw3) hK.1 hP.1 (mW_D x E S) hS (fun q h => Nat.le_trans hb0 h) (mcl ci h10) ?_ (by omega) (by omega) hd (fun q H1 hP1 hD1 hS1 => ?_)
  · intro j hj
    unfold vp_V
    rw [List.getD_eq_getElem?_getD, mfs_at hj, fv_df (okTy_all ci h10 j hj), em_df (okTy_all ci h10 j hj)]
    rfl
  · intro T hT X
    have hq := mNewAt X hT hP1 hD1 hz
    subst hq
    have h3 : mP x (nE E ci 0) (nS E S) H1 := mP.new hP (by rw [mce_obj h10]; exact hP1) hS1 (mS.old hP hS hb0) hb0
    exact kk p e R s m args below meth c H1 locs ls ⟨hx, hb, hml, hr, hown, hts, hlk, hnm, hfr, hlo, hrc, hrs, hK, by show s.heap.size + (nc + 1) = x.2.1 + (E.1 + 1); omega, hb0⟩ hl h3 hS1 T hT X
theorem wAr_newI : Cond.arrayClass .int ∈ wsL_law := by decide +kernel
theorem mG.newI {n : Int32} {N : Nat} (hd : decode μ.2.1 pc = .ok (.newarray .int, 2)) (hn : ¬ n < 0) (hN : n.toNatClampNeg = N) (hN2 : N ≤ 100000) (hnc : nc + 1 ≤ mc) (hns : ns + N ≤ ms) (kk : mG x μ d mc ms Q (nc + 1) (ns + N) (nE E 10 N) (nS E S) (pc + 2) lv (.ref E.1 :: st)) : mG x μ d mc ms Q nc ns E S pc lv (.int n :: st) := by
  intro p e R s m args below meth c H locs ls C hl hP hS
  obtain ⟨hx, hb, hml, hr, hown, hts, hlk, hnm, hfr, hlo, hrc, hrs, hK, hz, hb0⟩ := id C
  have h9 : N * componentBytes .int ≤ 536870912 := Nat.le_trans (Nat.mul_le_mul hN2 (show componentBytes .int ≤ 8 by decide)) (by decide)
  refine va_newa (atype := .int) (a0 := (N, .inl (fun _ => 0))) (ty := .int) hx hb (hts _ wAr_newI) rfl hK.1 hP.1 (mW_D x E S) hS (fun q h => Nat.le_trans hb0 h) (fun cA => rfl) hn hN h9 (by omega) (by omega) hd (fun q cA H1 hK1 hP1 hD1 hS1 => ?_)
  intro T hT X
  have hq := mNewAt X hT hP1 hD1 hz
  subst hq
  have hcA : cA = x.2.2.2.1 0 := Option.some.inj ((hK1.2 5 (cA, .int) rfl).2.symm.trans (hK.1.2 0 (x.2.2.2.1 0, .int) rfl).2)
  subst hcA
  have h3 : mP x (nE E 10 N) (nS E S) H1 := mP.new hP hP1 hS1 (mS.old hP hS hb0) hb0
  exact kk p e R s m args below meth c H1 locs ls ⟨hx, hb, hml, hr, hown, hts, hlk, hnm, hfr, hlo, hrc, hrs, hK, by show s.heap.size + (nc + 1) = x.2.1 + (E.1 + 1); omega, hb0⟩ hl h3 hS1 T hT X
theorem wAr_newL : Cond.arrayClass .long ∈ wsL_law := by decide +kernel
theorem mG.newL {n : Int32} {N : Nat} (hd : decode μ.2.1 pc = .ok (.newarray .long, 2)) (hn : ¬ n < 0) (hN : n.toNatClampNeg = N) (hN2 : N ≤ 100000) (hnc : nc + 1 ≤ mc) (hns : ns + N ≤ ms) (kk : mG x μ d mc ms Q (nc + 1) (ns + N) (nE E 11 N) (nS E S) (pc + 2) lv (.ref E.1 :: st)) : mG x μ d mc ms Q nc ns E S pc lv (.int n :: st) := by
  intro p e R s m args below meth c H locs ls C hl hP hS
  obtain ⟨hx, hb, hml, hr, hown, hts, hlk, hnm, hfr, hlo, hrc, hrs, hK, hz, hb0⟩ := id C
  have h9 : N * componentBytes .long ≤ 536870912 := Nat.le_trans (Nat.mul_le_mul hN2 (show componentBytes .long ≤ 8 by decide)) (by decide)
  refine va_newa (atype := .long) (a0 := (N, .inr (.inl (fun _ => 0)))) (ty := .long) hx hb (hts _ wAr_newL) rfl hK.1 hP.1 (mW_D x E S) hS (fun q h => Nat.le_trans hb0 h) (fun cA => rfl) hn hN h9 (by omega) (by omega) hd (fun q cA H1 hK1 hP1 hD1 hS1 => ?_)
  intro T hT X
  have hq := mNewAt X hT hP1 hD1 hz
  subst hq
  have hcA : cA = x.2.2.2.1 1 := Option.some.inj ((hK1.2 5 (cA, .long) rfl).2.symm.trans (hK.1.2 1 (x.2.2.2.1 1, .long) rfl).2)
  subst hcA
  have h3 : mP x (nE E 11 N) (nS E S) H1 := mP.new hP hP1 hS1 (mS.old hP hS hb0) hb0
  exact kk p e R s m args below meth c H1 locs ls ⟨hx, hb, hml, hr, hown, hts, hlk, hnm, hfr, hlo, hrc, hrs, hK, by show s.heap.size + (nc + 1) = x.2.1 + (E.1 + 1); omega, hb0⟩ hl h3 hS1 T hT X
theorem wAr_newZ : Cond.arrayClass .boolean ∈ wsL_law := by decide +kernel
theorem mG.newZ {n : Int32} {N : Nat} (hd : decode μ.2.1 pc = .ok (.newarray .boolean, 2)) (hn : ¬ n < 0) (hN : n.toNatClampNeg = N) (hN2 : N ≤ 100000) (hnc : nc + 1 ≤ mc) (hns : ns + N ≤ ms) (kk : mG x μ d mc ms Q (nc + 1) (ns + N) (nE E 12 N) (nS E S) (pc + 2) lv (.ref E.1 :: st)) : mG x μ d mc ms Q nc ns E S pc lv (.int n :: st) := by
  intro p e R s m args below meth c H locs ls C hl hP hS
  obtain ⟨hx, hb, hml, hr, hown, hts, hlk, hnm, hfr, hlo, hrc, hrs, hK, hz, hb0⟩ := id C
  have h9 : N * componentBytes .boolean ≤ 536870912 := Nat.le_trans (Nat.mul_le_mul hN2 (show componentBytes .boolean ≤ 8 by decide)) (by decide)
  refine va_newa (atype := .boolean) (a0 := (N, .inl (fun _ => 0))) (ty := .boolean) hx hb (hts _ wAr_newZ) rfl hK.1 hP.1 (mW_D x E S) hS (fun q h => Nat.le_trans hb0 h) (fun cA => rfl) hn hN h9 (by omega) (by omega) hd (fun q cA H1 hK1 hP1 hD1 hS1 => ?_)
  intro T hT X
  have hq := mNewAt X hT hP1 hD1 hz
  subst hq
  have hcA : cA = x.2.2.2.1 2 := Option.some.inj ((hK1.2 5 (cA, .boolean) rfl).2.symm.trans (hK.1.2 2 (x.2.2.2.1 2, .boolean) rfl).2)
  subst hcA
  have h3 : mP x (nE E 12 N) (nS E S) H1 := mP.new hP hP1 hS1 (mS.old hP hS hb0) hb0
  exact kk p e R s m args below meth c H1 locs ls ⟨hx, hb, hml, hr, hown, hts, hlk, hnm, hfr, hlo, hrc, hrs, hK, by show s.heap.size + (nc + 1) = x.2.1 + (E.1 + 1); omega, hb0⟩ hl h3 hS1 T hT X
theorem mG.newR13 {idx : Nat} {n : Int32} {N : Nat} (hd : decode μ.2.1 pc = .ok (.anewarray idx, 3)) (hw : Cond.classLink μ.1.cls idx RX6 ∈ wsL_law) (hn : ¬ n < 0) (hN : n.toNatClampNeg = N) (hN2 : N ≤ 100000) (hnc : nc + 1 ≤ mc) (hns : ns + N ≤ ms) (kk : mG x μ d mc ms Q (nc + 1) (ns + N) (nE E 13 N) (nS E S) (pc + 3) lv (.ref E.1 :: st)) : mG x μ d mc ms Q nc ns E S pc lv (.int n :: st) := by
  intro p e R s m args below meth c H locs ls C hl hP hS
  obtain ⟨hx, hb, hml, hr, hown, hts, hlk, hnm, hfr, hlo, hrc, hrs, hK, hz, hb0⟩ := id C
  refine va_newq hx hb hown (hts _ hw) hK.2.2.1 hK.1 hP.1 (mW_D x E S) hS (fun q h => Nat.le_trans hb0 h) hn hN (by omega) (by omega) (by omega) hd (fun q cA H1 hK1 hP1 hD1 hS1 => ?_)
  intro T hT X
  have hq := mNewAt X hT hP1 hD1 hz
  subst hq
  obtain ⟨kA, comp, f1, f2, f3, f4⟩ := (hK1.2 5 (cA, .object RX6) rfl).2
  obtain ⟨kA2, comp2, f5, f6, f7, f8⟩ := (hK.1.2 3 (x.2.2.2.1 3, .object RX6) rfl).2
  have hcA : cA = x.2.2.2.1 3 := Option.some.inj (f4.symm.trans f8)
  subst hcA
  have h3 : mP x (nE E 13 N) (nS E S) H1 := mP.new hP hP1 hS1 (mS.old hP hS hb0) hb0
  exact kk p e R s m args below meth c H1 locs ls ⟨hx, hb, hml, hr, hown, hts, hlk, hnm, hfr, hlo, hrc, hrs, hK, by show s.heap.size + (nc + 1) = x.2.1 + (E.1 + 1); omega, hb0⟩ hl h3 hS1 T hT X
theorem mG.newR14 {idx : Nat} {n : Int32} {N : Nat} (hd : decode μ.2.1 pc = .ok (.anewarray idx, 3)) (hw : Cond.classLink μ.1.cls idx RX5 ∈ wsL_law) (hn : ¬ n < 0) (hN : n.toNatClampNeg = N) (hN2 : N ≤ 100000) (hnc : nc + 1 ≤ mc) (hns : ns + N ≤ ms) (kk : mG x μ d mc ms Q (nc + 1) (ns + N) (nE E 14 N) (nS E S) (pc + 3) lv (.ref E.1 :: st)) : mG x μ d mc ms Q nc ns E S pc lv (.int n :: st) := by
  intro p e R s m args below meth c H locs ls C hl hP hS
  obtain ⟨hx, hb, hml, hr, hown, hts, hlk, hnm, hfr, hlo, hrc, hrs, hK, hz, hb0⟩ := id C
  refine va_newq hx hb hown (hts _ hw) hK.2.2.2.1 hK.1 hP.1 (mW_D x E S) hS (fun q h => Nat.le_trans hb0 h) hn hN (by omega) (by omega) (by omega) hd (fun q cA H1 hK1 hP1 hD1 hS1 => ?_)
  intro T hT X
  have hq := mNewAt X hT hP1 hD1 hz
  subst hq
  obtain ⟨kA, comp, f1, f2, f3, f4⟩ := (hK1.2 5 (cA, .object RX5) rfl).2
  obtain ⟨kA2, comp2, f5, f6, f7, f8⟩ := (hK.1.2 4 (x.2.2.2.1 4, .object RX5) rfl).2
  have hcA : cA = x.2.2.2.1 4 := Option.some.inj (f4.symm.trans f8)
  subst hcA
  have h3 : mP x (nE E 14 N) (nS E S) H1 := mP.new hP hP1 hS1 (mS.old hP hS hb0) hb0
  exact kk p e R s m args below meth c H1 locs ls ⟨hx, hb, hml, hr, hown, hts, hlk, hnm, hfr, hlo, hrc, hrs, hK, by show s.heap.size + (nc + 1) = x.2.1 + (E.1 + 1); omega, hb0⟩ hl h3 hS1 T hT X
def pE (E : mE) (t k u : Nat) : mE := (E.1, E.2.1, E.2.2.1, fun v j => if v = t ∧ j = k then some u else E.2.2.2 v j)
theorem pE_off (E : mE) {t k u v : Nat} (h : v ≠ t) : (pE E t k u).2.2.2 v = E.2.2.2 v := by
  funext j
  simp [pE, h]
theorem mW_setE {x : mX} {E : mE} {S : mS} {t k u : Nat} (ht : t < E.1) {e : va_E} (he : mce x (E.2.1 t) (E.2.2.1 t) (S.1 t) (S.2 t) ((pE E t k u).2.2.2 t) = e) : (mW x E S).set t (x.2.1 + t, e) = mW x (pE E t k u) S := by
  apply List.ext_getElem?
  intro i
  by_cases hi : i < E.1
  · by_cases hit : i = t
    · subst hit
      rw [List.getElem?_set_self (by rw [mW_len]; exact hi), mW_at (E := pE E i k u) hi]
      rw [← he]
      rfl
    · rw [List.getElem?_set_ne (Ne.symm hit), mW_at hi, mW_at (E := pE E t k u) hi, pE_off E hit]
      rfl
  · rw [List.getElem?_eq_none (by rw [List.length_set, mW_len]; omega), List.getElem?_eq_none (by rw [mW_len]; show E.1 ≤ i; omega)]
theorem mG.putR {idx ci k t u : Nat} (hd : decode μ.2.1 pc = .ok (.putfield idx, 3)) (hf : mF μ.1.cls idx ci k) (hfin : (mT ci k).2.2.2 = true) (hin2 : μ.1.name = "<init>") (hdecl : (mT ci k).1 = μ.1.cls) (hty : (∃ n, mty ci k = .object n) ∨ ∃ n, mty ci k = .array n) (ht : E.2.1 t = ci) (kk : mG x μ d mc ms Q nc ns (pE E t k u) S (pc + 3) lv st) : mG x μ d mc ms Q nc ns E S pc lv (.ref u :: .ref t :: st) := by
  intro p e R s m args below meth c H locs ls C hl hP hS
  obtain ⟨hx, hb, hml, hr, hown, hts, hlk, hnm, hfr, hlo, hrc, hrs, hK, hz, hb0⟩ := id C
  obtain ⟨h10, hk, hw⟩ := hf
  have hlt : t < E.1 := hP.lt (mne ht (by omega))
  have he := mW_at (x := x) (S := S) hlt
  rw [ht, mce_obj h10] at he
  have hfv : ∀ i j r, fv (mty ci k) i j r = va_rf r := by
    intro i j r
    rcases hty with ⟨n, h⟩ | ⟨n, h⟩ <;> rw [h] <;> rfl
  refine va_putF (v := .ref (x.2.1 + u)) hx hb hts (mws ci h10) (mty ci) (mty_ok ci h10) (mnm ci h10) hown hK.1 hP.1 (mW_D x E S) hS t he (mcl ci h10) k hk (hts _ hw) (fun _ h => h) hfin (hnm hin2) hdecl (mty_ok ci h10 k hk) (by rcases hty with ⟨n, h⟩ | ⟨n, h⟩ <;> rw [h] <;> rfl) (by rcases hty with ⟨n, h⟩ | ⟨n, h⟩ <;> rw [h] <;> rfl) (by rw [mfs_len]; exact hk) hd (fun H1 locs1 hP1 hD1 hS1 => ?_)
  have hP2 : mP x (pE E t k u) S H1 := by
    rw [mW_setE (k := k) (u := u) hlt ?_] at hP1
    · exact ⟨hP1, hP.2.1, fun q hq => (hS1.2.1 q (by omega) (by show ¬ x.2.1 ≤ q; omega)).trans (mS.old hP hS hb0 q hq)⟩
    · rw [ht, mce_obj h10]
      congr 2
      refine (mfs_set hk ?_ ?_).symm
      · rw [hfv]
        simp [em, pE, va_rf]
      · intro q hq hqk
        simp [pE, hqk]
  exact kk p e R s m args below meth c H1 locs1 ls ⟨hx, hb, hml, hr, hown, hts, hlk, hnm, hfr, hlo, hrc, hrs, hK, hz, hb0⟩ hl hP2 hS1
theorem mG.aast13 {t u n : Nat} {i : Int32} (hd : decode μ.2.1 pc = .ok (.aastore, 1)) (ht : E.2.1 t = 13) (hn : E.2.2.1 t = n) (hin : vp_in i n) (hu : E.2.1 u = 6) (kk : mG x μ d mc ms Q nc ns (pE E t i.toNatClampNeg u) S (pc + 1) lv st) : mG x μ d mc ms Q nc ns E S pc lv (.ref u :: .int i :: .ref t :: st) := by
  intro p e R s m args below meth c H locs ls C hl hP hS
  obtain ⟨hx, hb, hml, hr, hown, hts, hlk, hnm, hfr, hlo, hrc, hrs, hK, hz, hb0⟩ := id C
  have hlt : t < E.1 := hP.lt (mne ht (by omega))
  have hltu : u < E.1 := hP.lt (mne hu (by omega))
  have he := mW_at (x := x) (S := S) hltu
  rw [hu, mce_obj (by decide)] at he
  refine va_astq (r := (mR 6, mT 6, mN 6)) hx hb hK.1 hP.1 (mW_D x E S) hS t 3 u 6 (mW_13 hlt ht) rfl he (mcl 6 (by decide)) (by rw [hn]; exact hin) hd (fun H1 locs1 hP1 hD1 hS1 => ?_)
  have hP2 : mP x (pE E t i.toNatClampNeg u) S H1 := by
    rw [mW_setE (k := i.toNatClampNeg) (u := u) hlt ?_] at hP1
    · exact ⟨hP1, hP.2.1, fun q hq => (hS1.2.1 q (by omega) (by show ¬ x.2.1 ≤ q; omega)).trans (mS.old hP hS hb0 q hq)⟩
    · rw [ht, mce_13]
      congr 7
      funext q
      by_cases hq : q = i.toNatClampNeg
      · subst hq
        simp [mrs, pE, va_up]
      · simp [mrs, pE, va_up, hq]
  exact kk p e R s m args below meth c H1 locs1 ls ⟨hx, hb, hml, hr, hown, hts, hlk, hnm, hfr, hlo, hrc, hrs, hK, hz, hb0⟩ hl hP2 hS1
theorem mG.aast14 {t u n : Nat} {i : Int32} (hd : decode μ.2.1 pc = .ok (.aastore, 1)) (ht : E.2.1 t = 14) (hn : E.2.2.1 t = n) (hin : vp_in i n) (hu : E.2.1 u = 5) (kk : mG x μ d mc ms Q nc ns (pE E t i.toNatClampNeg u) S (pc + 1) lv st) : mG x μ d mc ms Q nc ns E S pc lv (.ref u :: .int i :: .ref t :: st) := by
  intro p e R s m args below meth c H locs ls C hl hP hS
  obtain ⟨hx, hb, hml, hr, hown, hts, hlk, hnm, hfr, hlo, hrc, hrs, hK, hz, hb0⟩ := id C
  have hlt : t < E.1 := hP.lt (mne ht (by omega))
  have hltu : u < E.1 := hP.lt (mne hu (by omega))
  have he := mW_at (x := x) (S := S) hltu
  rw [hu, mce_obj (by decide)] at he
  refine va_astq (r := (mR 5, mT 5, mN 5)) hx hb hK.1 hP.1 (mW_D x E S) hS t 4 u 5 (mW_14 hlt ht) rfl he (mcl 5 (by decide)) (by rw [hn]; exact hin) hd (fun H1 locs1 hP1 hD1 hS1 => ?_)
  have hP2 : mP x (pE E t i.toNatClampNeg u) S H1 := by
    rw [mW_setE (k := i.toNatClampNeg) (u := u) hlt ?_] at hP1
    · exact ⟨hP1, hP.2.1, fun q hq => (hS1.2.1 q (by omega) (by show ¬ x.2.1 ≤ q; omega)).trans (mS.old hP hS hb0 q hq)⟩
    · rw [ht, mce_14]
      congr 7
      funext q
      by_cases hq : q = i.toNatClampNeg
      · subst hq
        simp [mrs, pE, va_up]
      · simp [mrs, pE, va_up, hq]
  exact kk p e R s m args below meth c H1 locs1 ls ⟨hx, hb, hml, hr, hown, hts, hlk, hnm, hfr, hlo, hrc, hrs, hK, hz, hb0⟩ hl hP2 hS1
theorem wObj : Cond.instanceMethod Lib.objectInit ∈ wsL_law ∧ Cond.code Lib.objectInit ⟨#[0xb1]⟩ 1 none ∈ wsL_law := by decide +kernel
theorem mG.objInit {idx t : Nat} (hd : decode μ.2.1 pc = .ok (.invokespecial idx, 3)) (hw : Cond.methodLink μ.1.cls idx Lib.objectInit ∈ wsL_law) (hd1 : 1 ≤ d) (hrest : (st.map fun v => v.category).sum ≤ 8) (kk : mG x μ d mc ms Q nc ns E S (pc + 3) lv st) : mG x μ d mc ms Q nc ns E S pc lv (.ref t :: st) := by
  intro p e R s m args below meth c H locs ls C hl hP hS
  obtain ⟨hx, hb, hml, hr, hown, hts, hlk, hnm, hfr, hlo, hrc, hrs, hK, hz, hb0⟩ := id C
  refine W.objInit hx hb hown (hts _ hw) (hts _ wObj.1) (hts _ wObj.2) rfl (hl.1.trans hml.symm) rfl hd (by omega) ?_ (kk p e R s m args below meth c H locs ls C hl hP hS)
  have h1 := lv_room (m := m) (pc := pc) (ls := ls) (rest := st.map (em x)) (st := st.map (em x)) (by rw [mcat]; exact hrest)
  have h2 : (F0 m pc ls (em x (.ref t) :: st.map (em x))).monitorRoom = (F0 m pc ls (st.map (em x))).monitorRoom := rfl
  show 2 * (F0 m pc ls (em x (.ref t) :: st.map (em x))).monitorRoom + _ + 12 ≤ R.locals
  rw [h2]
  omega
end RULES
/-! ===== what the printed functions are made of ===== -/
def ck {α : Type} (b : Bool) (a : Option α) : Option α := if b then a else none
def bd {α β : Type} (a : Option α) (k : α → Option β) : Option β := match a with
  | some q => k q
  | none => none
def stp {α : Type} (S : mS) (k : mS → α) : α := k S
def inb (i : Int32) (n : Nat) : Bool := decide (¬ (i < 0 ∨ n ≤ i.toNatClampNeg))
def nz (i : Int32) : Bool := decide (¬ i = 0)
def nzl (i : Int64) : Bool := decide (¬ i = 0)
def is01 (i : Int32) : Bool := decide (i = 0 ∨ i = 1)
def cpo (sp dp n : Int32) (la lb : Nat) : Bool := decide (¬ sp < 0 ∧ ¬ dp < 0 ∧ ¬ n < 0 ∧ sp.toNatClampNeg + n.toNatClampNeg ≤ la ∧ dp.toNatClampNeg + n.toNatClampNeg ≤ lb)
theorem ckp {α : Type} {b : Bool} {a : Option α} {r : α} (h : ck b a = some r) : b = true ∧ a = some r := by
  unfold ck at h
  split at h
  · exact ⟨by assumption, h⟩
  · cases h
theorem bdp {α β : Type} {a : Option α} {k : α → Option β} {r : β} (h : bd a k = some r) : ∃ q, a = some q ∧ k q = some r := by
  unfold bd at h
  split at h
  · exact ⟨_, rfl, h⟩
  · cases h
theorem stpp {α : Type} {S : mS} {k : mS → α} {r : α} (h : stp S k = r) : ∃ S2, S = S2 ∧ k S2 = r := ⟨S, rfl, h⟩
theorem itp {α : Type} {c : Prop} [i : Decidable c] {a b r : α} (hc : c) (h : (if c then a else b) = r) : a = r := by rwa [if_pos hc] at h
theorem itn {α : Type} {c : Prop} [i : Decidable c] {a b r : α} (hc : ¬ c) (h : (if c then a else b) = r) : b = r := by rwa [if_neg hc] at h
theorem inbp {i : Int32} {n : Nat} (h : inb i n = true) : vp_in i n := show ¬ (i < 0 ∨ n ≤ i.toNatClampNeg) from of_decide_eq_true h
theorem nzp {i : Int32} (h : nz i = true) : ¬ i = 0 := of_decide_eq_true h
theorem nzlp {i : Int64} (h : nzl i = true) : ¬ i = 0 := of_decide_eq_true h
theorem is01p {i : Int32} (h : is01 i = true) : i = 0 ∨ i = 1 := of_decide_eq_true h
theorem cpop {sp dp n : Int32} {la lb : Nat} (h : cpo sp dp n la lb = true) : ¬ sp < 0 ∧ ¬ dp < 0 ∧ ¬ n < 0 ∧ sp.toNatClampNeg + n.toNatClampNeg ≤ la ∧ dp.toNatClampNeg + n.toNatClampNeg ≤ lb := of_decide_eq_true h
theorem d1b {v : Int32} (h : v = 0 ∨ v = 1) : bI (decide (v = 1)) = v := by rcases h with rfl | rfl <;> rfl
