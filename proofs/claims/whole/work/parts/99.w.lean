/-! ===== weddings: the reference ===== -/
def Q9 (S : mS) (M : Nat → Int32) (b2 : Nat → Int32) : Prop := (∀ i, i < 7 → S.1 388 i = M i) ∧ ∀ i, i < 7 → S.1 389 i = b2 i
def F8 (S S' : mS) : Prop := ∀ u k, u ≠ 388 → u ≠ 389 → S'.1 u k = S.1 u k
theorem F8.rfl' (S : mS) : F8 S S := fun _ _ _ _ => rfl
theorem F8.trans {S S1 S2 : mS} (a : F8 S S1) (b : F8 S1 S2) : F8 S S2 := fun u k h g => (b u k h g).trans (a u k h g)
/-- nobody from h on is with somebody from h on -/
def V9 (n h : Nat) (M : Nat → Int32) : Prop := ∀ i, i < n → (M i = -1 ∨ ∃ j, j < n ∧ M i = nI j) ∧ (h ≤ i → M i = -1 ∨ ∃ j, j < h ∧ M i = nI j)
theorem V9.up {n h : Nat} {M : Nat → Int32} (v : V9 n h M) : V9 n (h + 1) M := fun i hi => ⟨(v i hi).1, fun g => ((v i hi).2 (by omega)).imp id (fun ⟨j, a, b⟩ => ⟨j, by omega, b⟩)⟩
theorem V9_jn {n h j : Nat} {M : Nat → Int32} (v : V9 n h M) (hj : h < j) (hn : j < n) : V9 n (h + 1) (jn M h j) := fun i hi => by
  unfold jn
  by_cases a : i = j
  · rw [if_pos a]; exact ⟨Or.inr ⟨h, by omega, rfl⟩, fun _ => Or.inr ⟨h, by omega, rfl⟩⟩
  · rw [if_neg a]
    by_cases c : i = h
    · rw [if_pos c]; exact ⟨Or.inr ⟨j, hn, rfl⟩, fun g => absurd g (by omega)⟩
    · rw [if_neg c]; exact v.up i hi
def sm (f : Nat → Nat) : Nat → Nat
  | 0 => 0
  | n + 1 => sm f n + f n
theorem sm_u {f g : Nat → Nat} {h x : Nat} (n : Nat) (e : ∀ i, i < n → i ≠ h → g i = f i) (eh : g h = f h + x) : sm g n = sm f n + if h < n then x else 0 := by
  induction n with
  | zero => rfl
  | succ n ih =>
    show sm g n + g n = sm f n + f n + _
    rw [ih (fun i hi => e i (by omega))]
    by_cases c : n = h
    · subst c
      rw [eh, if_neg (by omega), if_pos (by omega)]; omega
    · rw [e n (by omega) c]
      by_cases w : h < n
      · rw [if_pos w, if_pos (by omega)]; omega
      · rw [if_neg w, if_neg (by omega)]; omega
def shF (T : Tw) (M : Nat → Int32) (i : Nat) : Nat := if M i ≤ nI i then 0 else shr T i (M i).toNatClampNeg
theorem sh_jn {T : Tw} {M : Nat → Int32} {h j n : Nat} (hj : h < j) (hn : j < n) (h7 : n ≤ 7) (mh : M h = -1) (mj : M j = -1) : sm (shF T (jn M h j)) n = sm (shF T M) n + shr T h j := by
  have z : ∀ i, i < 8 → (-1 : Int32) ≤ nI i := by decide
  have := sm_u (f := shF T M) (g := shF T (jn M h j)) (h := h) (x := shr T h j) n (fun i hi g => by
    unfold shF jn
    by_cases a : i = j
    · rw [if_pos a, if_pos (nI_le (by omega) (by omega)), a, mj, if_pos (z j (by omega))]
    · rw [if_neg a, if_neg g]) (by
    unfold shF jn
    rw [if_neg (show ¬ h = j by omega), if_pos rfl, if_neg (nI_ge hj (by omega)), mh, if_pos (z h (by omega)), nI_clamp (by omega), Nat.zero_add])
  rw [this, if_pos (by omega)]
section
variable {F : Nat} {T : Tw}
theorem x9_sh (hF : 40 < F) {S : mS} {M b2 : Nat → Int32} {h : Nat} (hR : RT S 376 T) (hW : Wf T) (hQ : Q9 S M b2) (hV : V9 (T 0 0) h M) (m : Nat) : ∀ (i k : Nat), i + m = T 0 0 → m < k → lX9_sharedNow_4 F 375 k S (nI (sm (shF T M) i)) (nI i) = some (nI (sm (shF T M) (T 0 0))) := by
  have w0 := hW.1
  have r0 : S.1 376 0 = nI (T 0 0) := hR.1
  have rs : ∀ h, h < T 0 0 → S.1 376 (12 + 8 * h + 0) = nI (T 1 h) := fun h hh => hR.2.2.2.2.1 h hh
  induction m with
  | zero =>
    intro i k hi hk
    obtain ⟨k, rfl⟩ : ∃ k', k = k' + 1 := ⟨k - 1, by omega⟩
    rw [u_X9_sharedNow_4, inb_n (n := 0) (by omega) (by omega), ck_t, nI_clamp (n := 0) (by omega), r0, if_pos (nI_le (by omega) (by omega)), show i = T 0 0 by omega]
  | succ m ih =>
    intro i k hi hk
    obtain ⟨k, rfl⟩ : ∃ k', k = k' + 1 := ⟨k - 1, by omega⟩
    have hi' : i < T 0 0 := by omega
    have t1 := (hW.2.2.2.2.2.1 i hi').1
    have e : sm (shF T M) (i + 1) = sm (shF T M) i + shF T M i := rfl
    have ih' := ih (i + 1) k (by omega) (by omega)
    rw [e] at ih'
    rw [u_X9_sharedNow_4, inb_n (n := 0) (by omega) (by omega), ck_t, nI_clamp (n := 0) (by omega), r0, if_neg (nI_ge hi' (by omega)), inb_n (n := i) (by omega) (by omega), ck_t, nI_clamp (n := i) (by omega), hQ.1 i (by omega), nI_add (a := i)]
    unfold shF at ih' ⊢
    by_cases c : M i ≤ nI i
    · rw [if_pos c, nI_add]
      rw [if_pos c] at ih'
      exact ih'
    · rw [if_neg c]
      rw [if_neg c] at ih'
      rcases (hV i hi').1 with q | ⟨j, hj, q⟩
      · exact absurd (by rw [q]; exact (by decide : ∀ i, i < 8 → (-1 : Int32) ≤ nI i) i (by omega)) c
      · rw [q] at ih' ⊢
        rw [nI_clamp (n := j) (by omega)] at ih'
        rw [x9_get S (h := i) (k := 0) (by omega) (by omega), bd_s, ck_t, x9_get S (h := j) (k := 0) (by omega) (by omega), bd_s, rs i hi', rs j hj, nx_and, bits_f (by omega) (Nat.lt_of_le_of_lt Nat.and_le_left t1), bd_s, nI_add]
        exact ih'
theorem x9_w51 {M : Nat → Int32} {v : Int32} (m : Nat) : ∀ (i k : Nat) {S : mS}, i + m = 7 → m < k → (∀ i, i < 7 → S.1 388 i = M i) → (∀ d, d < i → S.1 389 d = M d) → ∃ S', (∀ K, lX9_wed_51 F K 375 k S v (nI i) = (bd (f_X9_nextRow F S' 375) fun q1 => K q1.1 v (bI (q1.2)))) ∧ Q9 S' M M ∧ F8 S S' := by
  induction m with
  | zero =>
    intro i k S hi hk h1 h2
    obtain ⟨k, rfl⟩ : ∃ k', k = k' + 1 := ⟨k - 1, by omega⟩
    exact ⟨S, fun K => by rw [u_X9_wed_51, if_pos (nI_le (by omega) (by omega))], ⟨h1, fun d hd => h2 d (by omega)⟩, F8.rfl' S⟩
  | succ m ih =>
    intro i k S hi hk h1 h2
    obtain ⟨k, rfl⟩ : ∃ k', k = k' + 1 := ⟨k - 1, by omega⟩
    obtain ⟨S2, u2, p2, f2⟩ := ih (i + 1) k (S := sI S 389 i (M i)) (by omega) (by omega) (fun d hd => by rw [sq_u (by decide)]; exact h1 d hd) (fun d hd => by
      by_cases e : d = i
      · subst e; rw [sq_hit]
      · rw [sq_off (by omega)]; exact h2 d (by omega))
    refine ⟨S2, fun K => ?_, p2, F8.trans (fun u k a b => sq_u b) f2⟩
    rw [u_X9_wed_51, if_neg (nI_ge (by omega) (by omega)), inb_n (n := i) (by omega) (by omega), ck_t, ck_t, nI_clamp (n := i) (by omega), h1 i (by omega), stp_s, nI_add, u2]
/-- the next row is sought from p - 1 down -/
def scn (F k f p : Nat) (S : mS) (v : Int32) : Option (mS × Int32) := bd (lX9_nextRow_9 F 375 f S (nI p + (-1))) fun q2 => lX9_wed_32 F 375 k q2.1 v (bI q2.2)
theorem x9_leaf (hF : 40 < F) {S : mS} {M : Nat → Int32} {b : Int32 × (Nat → Int32)} {h : Nat} (hR : RT S 376 T) (hW : Wf T) (hQ : Q9 S M b.2) (hV : V9 (T 0 0) h M) : ∃ S', (∀ k, lX9_wed_32 F 375 (k + 1) S b.1 (nI 1) = scn F k F (T 0 0) S' (kB (sm (shF T M) (T 0 0)) M b).1) ∧ Q9 S' M (kB (sm (shF T M) (T 0 0)) M b).2 ∧ F8 S S' := by
  have w0 := hW.1
  have sh : f_X9_sharedNow F S 375 = some (nI (sm (shF T M) (T 0 0))) := by rw [u_X9_sharedNow]; exact x9_sh hF hR hW hQ hV (T 0 0) 0 F (by omega) (by omega)
  have nr : ∀ S', S'.1 376 0 = nI (T 0 0) → f_X9_nextRow F S' 375 = lX9_nextRow_9 F 375 F S' (nI (T 0 0) + (-1)) := fun S' e => by
    rw [u_X9_nextRow, inb_n (n := 0) (by omega) (by omega), ck_t, nI_clamp (n := 0) (by omega), e, (by decide : ∀ n, n < 8 → nI n - nI 1 = nI n + (-1)) (T 0 0) (by omega)]
  unfold kB
  by_cases c : nI (sm (shF T M) (T 0 0)) ≤ b.1
  · refine ⟨S, fun k => ?_, by rw [if_pos c]; exact hQ, F8.rfl' S⟩
    rw [u_X9_wed_32, if_neg (by decide), sh, bd_s, if_pos c, nr S hR.1, if_pos c]
    rfl
  · obtain ⟨S1, u1, p1, f1⟩ : ∃ S', (∀ k, lX9_wed_51 F (fun (S : mS) (v1 : Int32) (v2 : Int32) => lX9_wed_32 F 375 k S v1 v2) 375 F S (nI (sm (shF T M) (T 0 0))) (nI 0) = (bd (f_X9_nextRow F S' 375) fun q1 => lX9_wed_32 F 375 k q1.1 (nI (sm (shF T M) (T 0 0))) (bI (q1.2)))) ∧ Q9 S' M M ∧ F8 S S' := by
      obtain ⟨S1, u1, p1, f1⟩ := x9_w51 (F := F) (M := M) (v := nI (sm (shF T M) (T 0 0))) 7 0 F (S := S) (by omega) (by omega) hQ.1 (fun d hd => absurd hd (Nat.not_lt_zero d))
      exact ⟨S1, fun k => u1 _, p1, f1⟩
    refine ⟨S1, fun k => ?_, by rw [if_neg c]; exact p1, f1⟩
    rw [u_X9_wed_32, if_neg (by decide), sh, bd_s, if_neg c, u1, nr S1 ((f1 _ _ (by decide) (by decide)).trans hR.1), if_neg c]
    rfl
end
