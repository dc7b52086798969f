/-! ===== thieves, night ===== -/
def ltP (T : Tw) (d kk : Nat) : Nat → Nat → Nat → Nat → Nat × Nat
  | 0, _, s, c => (s, c)
  | m + 1, h, s, c => if kk ≤ c then (s, c) else if (T 0 1).testBit h = true then ltP T d kk m (h + 1) s c else if (T 1 h).testBit d = true then ltP T d kk m (h + 1) (s + T 2 h) (c + 1) else (s, c)
section
variable {T : Tw} {d kk m h s c : Nat}
theorem ltp_k (q : kk ≤ c) : ltP T d kk (m + 1) h s c = (s, c) := if_pos q
theorem ltp_g (q : ¬ kk ≤ c) (g : (T 0 1).testBit h = true) : ltP T d kk (m + 1) h s c = ltP T d kk m (h + 1) s c := (if_neg q).trans (if_pos g)
theorem ltp_s (q : ¬ kk ≤ c) (g : ¬ (T 0 1).testBit h = true) (b : (T 1 h).testBit d = true) : ltP T d kk (m + 1) h s c = ltP T d kk m (h + 1) (s + T 2 h) (c + 1) := (if_neg q).trans ((if_neg g).trans (if_pos b))
theorem ltp_o (q : ¬ kk ≤ c) (g : ¬ (T 0 1).testBit h = true) (b : ¬ (T 1 h).testBit d = true) : ltP T d kk (m + 1) h s c = (s, c) := (if_neg q).trans ((if_neg g).trans (if_neg b))
theorem ltp_b (hW : Wf T) (m : Nat) : ∀ (h s c : Nat), h + m = T 0 0 → s ≤ 10000 * h → s ≤ (ltP T d kk m h s c).1 ∧ (ltP T d kk m h s c).1 ≤ 70000 ∧ c ≤ (ltP T d kk m h s c).2 := by
  have w0 := hW.1
  induction m with
  | zero => intro h s c hi hs; exact ⟨Nat.le_refl _, by show s ≤ 70000; omega, Nat.le_refl _⟩
  | succ m ih =>
    intro h s c hi hs
    have p := (hW.2.2.2.2.2.1 h (by omega)).2.2.1
    by_cases q : kk ≤ c
    · rw [ltp_k q]; exact ⟨Nat.le_refl _, by show s ≤ 70000; omega, Nat.le_refl _⟩
    · by_cases g : (T 0 1).testBit h = true
      · rw [ltp_g q g]; exact ih (h + 1) s c (by omega) (by omega)
      · by_cases b : (T 1 h).testBit d = true
        · rw [ltp_s q g b]
          have := ih (h + 1) (s + T 2 h) (c + 1) (by omega) (by omega)
          omega
        · rw [ltp_o q g b]; exact ⟨Nat.le_refl _, by show s ≤ 70000; omega, Nat.le_refl _⟩
end
def lo (T : Tw) (d kk : Nat) (v : Int32) : Nat := if v = -1 then 0 else (ltP T d kk (T 0 0 - v.toNatClampNeg) v.toNatClampNeg 0 0).1
def rbL (T : Tw) (d kk : Nat) : Nat → Nat → Int32 → Int32
  | 0, _, b => b
  | m + 1, h, b => rbL T d kk m (h + 1) (if (T 0 1).testBit h = true then b else if (T 1 h).testBit d = true then (if b = -1 then nI h else if lo T d kk (nI h) ≤ lo T d kk b then b else nI h) else b)
def okb (T : Tw) (v : Int32) : Prop := v = -1 ∨ ∃ f, f < T 0 0 ∧ v = nI f
theorem lo_le {T : Tw} (hW : Wf T) {d kk : Nat} {v : Int32} (hv : okb T v) : lo T d kk v ≤ 70000 := by
  have w0 := hW.1
  unfold lo
  rcases hv with rfl | ⟨f, hf, rfl⟩
  · rw [if_pos rfl]; omega
  · rw [if_neg (by rw [n_m1 (by omega)]; exact fun h => h), nI_clamp (by omega)]
    exact (ltp_b hW (T 0 0 - f) f 0 0 (by omega) (by omega)).2.1
theorem lo_n {T : Tw} (hW : Wf T) {d kk f : Nat} (hf : f < T 0 0) : lo T d kk (nI f) = (ltP T d kk (T 0 0 - f) f 0 0).1 := by
  have w0 := hW.1
  unfold lo
  rw [if_neg (by rw [n_m1 (by omega)]; exact fun h => h), nI_clamp (by omega)]
theorem rb_ok {T : Tw} {d kk : Nat} (m : Nat) : ∀ (h : Nat) (b : Int32), h + m = T 0 0 → okb T b → okb T (rbL T d kk m h b) := by
  induction m with
  | zero => exact fun h b _ hb => hb
  | succ m ih =>
    intro h b hi hb
    refine ih (h + 1) _ (by omega) ?_
    split
    · exact hb
    · split
      · split
        · exact Or.inr ⟨h, (by omega), rfl⟩
        · split
          · exact hb
          · exact Or.inr ⟨h, (by omega), rfl⟩
      · exact hb
section
variable {F : Nat} {S : mS} {T : Tw} {d kk : Nat}
theorem x6_l19 (hC : CT S 41 T) (hW : Wf T) (hd : d < 20) (hk7 : kk ≤ 7) {a1 : Int32} (m : Nat) : ∀ (k h s c : Nat), h + m = T 0 0 → m < k → c ≤ h → lX6_loot_19 F 41 a1 (nI d) (nI kk) k S (nI s) (nI c) (nI h) = some (nI (ltP T d kk m h s c).1) := by
  have w0 := hW.1
  induction m with
  | zero =>
    intro k h s c hi hk hc
    obtain ⟨k, rfl⟩ : ∃ k', k = k' + 1 := ⟨k - 1, by omega⟩
    rw [u_X6_loot_19, hC.1, if_pos (nI_le (by omega) (by omega))]; rfl
  | succ m ih =>
    intro k h s c hi hk hc
    obtain ⟨k, rfl⟩ : ∃ k', k = k' + 1 := ⟨k - 1, by omega⟩
    have hh : h < T 0 0 := by omega
    have p := (hW.2.2.2.2.2.1 h hh).2.2.1
    rw [u_X6_loot_19, hC.1, if_neg (nI_ge hh (by omega))]
    by_cases q : kk ≤ c
    · rw [if_pos (nI_le q (by omega)), ltp_k q]
    · rw [if_neg (nI_ge (by omega) (by omega)), x6_isGone hC hW (by omega), nI_add]
      by_cases g : (T 0 1).testBit h = true
      · rw [if_pos g, ltp_g q g]; exact ih k (h + 1) s c (by omega) (by omega) (by omega)
      · rw [if_neg g, x6_isShutn hC hW hh (by omega), bd_s]
        by_cases b : (T 1 h).testBit d = true
        · rw [if_pos b, ltp_s q g b, inb_n (n := h) (by omega) (by omega), ck_t, nI_clamp (n := h) (by omega), hC.2.2.2.2.2.2.1 h hh, nI_add, nI_add]
          exact ih k (h + 1) (s + T 2 h) (c + 1) (by omega) (by omega) (by omega)
        · rw [if_neg b, ltp_o q g b]
theorem x6_loot (hF : 100 < F) (hC : CT S 41 T) (hW : Wf T) (hd : d < 20) (hk7 : kk ≤ 7) {v : Int32} (hv : okb T v) : f_X6_loot F S 41 v (nI d) (nI kk) = some (nI (lo T d kk v)) := by
  have w0 := hW.1
  rw [u_X6_loot, x6_told hC hW]
  rcases hv with rfl | ⟨f, hf, rfl⟩
  · rw [tld_m1]; rfl
  · rw [tld_n (by omega) (by omega), decide_eq_true hf, if_pos rfl, lo_n hW hf]
    exact x6_l19 hC hW hd hk7 (T 0 0 - f) F f 0 0 (by omega) (by omega) (by omega)
theorem x6_rob (hF : 100 < F) (hC : CT S 41 T) (hW : Wf T) (hd : d < 20) (hk7 : kk ≤ 7) (m : Nat) : ∀ (k h : Nat) (b : Int32), h + m = T 0 0 → m < k → okb T b → lX6_robbedFirst_5 F 41 (nI d) (nI kk) k S b (nI h) = some (rbL T d kk m h b) := by
  have w0 := hW.1
  induction m with
  | zero =>
    intro k h b hi hk hb
    obtain ⟨k, rfl⟩ : ∃ k', k = k' + 1 := ⟨k - 1, by omega⟩
    rw [u_X6_robbedFirst_5, hC.1, if_pos (nI_le (by omega) (by omega))]; rfl
  | succ m ih =>
    intro k h b hi hk hb
    obtain ⟨k, rfl⟩ : ∃ k', k = k' + 1 := ⟨k - 1, by omega⟩
    have hh : h < T 0 0 := by omega
    rw [u_X6_robbedFirst_5, hC.1, if_neg (nI_ge hh (by omega)), x6_livesn hC hW hh, x6_isShutn hC hW hh (by omega), bd_s, nI_add]
    show _ = some (rbL T d kk m (h + 1) _)
    cases (T 0 1).testBit h
    · rw [if_pos (show (!false) = true by decide), if_neg (show ¬ false = true by decide)]
      by_cases z : (T 1 h).testBit d = true
      · rw [if_pos z, if_pos z]
        by_cases y : b = -1
        · rw [if_pos y, if_pos y]
          exact ih k (h + 1) _ (by omega) (by omega) (Or.inr ⟨h, hh, rfl⟩)
        · have l1 := lo_le (d := d) (kk := kk) hW (v := nI h) (Or.inr ⟨h, hh, rfl⟩)
          have l2 := lo_le (d := d) (kk := kk) hW hb
          rw [if_neg y, if_neg y, x6_loot hF hC hW hd hk7 (Or.inr ⟨h, hh, rfl⟩), bd_s, x6_loot hF hC hW hd hk7 hb, bd_s]
          by_cases x : lo T d kk (nI h) ≤ lo T d kk b
          · rw [if_pos (nI_le x (by omega)), if_pos x]
            exact ih k (h + 1) _ (by omega) (by omega) hb
          · rw [if_neg (nI_ge (by omega) (by omega)), if_neg x]
            exact ih k (h + 1) _ (by omega) (by omega) (Or.inr ⟨h, hh, rfl⟩)
      · rw [if_neg z, if_neg z]
        exact ih k (h + 1) _ (by omega) (by omega) hb
    · rw [if_neg (show ¬ (!true) = true by decide), if_pos rfl]
      exact ih k (h + 1) _ (by omega) (by omega) hb
/-- the reference's two fields -/
def upF (ms : Nat) (fs : Int32) (first s c : Nat) : Nat × Int32 := if c = 0 then (ms, fs) else if fs = -1 ∨ ms < s then (s, nI first) else (ms, fs)
def F3 (S S' : mS) : Prop := ∀ u k, ¬ (u = 375 ∧ (k = 30 ∨ k = 31)) → S'.1 u k = S.1 u k
theorem F3.trans {S S1 S2 : mS} (h : F3 S S1) (h2 : F3 S1 S2) : F3 S S2 := fun u k c => (h2 u k c).trans (h u k c)
theorem x9_t31 (hW : Wf T) (hd : d < 20) (hk7 : kk ≤ 7) (K : mS → Int32 → Option mS) {first ms : Nat} {fs : Int32} (hf : first < T 0 0) (hg : ¬ (T 0 1).testBit first = true) (hms : ms ≤ 70000) (m : Nat) : ∀ (k h s c : Nat) {S : mS}, h + m = T 0 0 → m < k → c ≤ h → s ≤ 10000 * h → (c = 0 → s = 0) → RT S 376 T → S.1 375 30 = nI (upF ms fs first s c).1 → S.1 375 31 = (upF ms fs first s c).2 → ∃ S', lX9_layThieves_31 F K 375 (nI d) (nI kk) k S (nI first) (nI s) (nI c) (nI h) = K S' (nI (first + 1)) ∧ S'.1 375 30 = nI (upF ms fs first (ltP T d kk m h s c).1 (ltP T d kk m h s c).2).1 ∧ S'.1 375 31 = (upF ms fs first (ltP T d kk m h s c).1 (ltP T d kk m h s c).2).2 ∧ F3 S S' := by
  have w0 := hW.1
  have hg' : (T 0 1).testBit first = false := by
    cases q : (T 0 1).testBit first
    · rfl
    · exact absurd q hg
  induction m with
  | zero =>
    intro k h s c S hi hk hc hs h0 hR e1 e2
    obtain ⟨k, rfl⟩ : ∃ k', k = k' + 1 := ⟨k - 1, by omega⟩
    exact ⟨S, by rw [u_X9_layThieves_31, x9_isHeren hR hW hf, hg', bd_s, if_pos (show (!false) = true by decide), inb_n (n := 0) (by omega) (by omega), ck_t, nI_clamp (n := 0) (by omega), hR.1, if_pos (nI_le (by omega) (by omega)), nI_add], e1, e2, fun _ _ _ => rfl⟩
  | succ m ih =>
    intro k h s c S hi hk hc hs h0 hR e1 e2
    obtain ⟨k, rfl⟩ : ∃ k', k = k' + 1 := ⟨k - 1, by omega⟩
    have hh : h < T 0 0 := by omega
    have p := (hW.2.2.2.2.2.1 h hh).2.2.1
    have u := u_X9_layThieves_31 (F := F) (K12 := K) (a1 := nI d) (a2 := nI kk) (n := k) (S := S) (v3 := nI first) (v4 := nI s) (v5 := nI c) (v6 := nI h)
    rw [x9_isHeren hR hW hf, hg', bd_s, if_pos (show (!false) = true by decide), inb_n (n := 0) (by omega) (by omega), ck_t, nI_clamp (n := 0) (by omega), hR.1, if_neg (nI_ge hh (by omega)), x9_isOpenn hR hW hh (by omega), bd_s, x9_isHeren hR hW hh, bd_s, x9_purse hR hW hh, bd_s, nI_add, nI_add, nI_add, nI_add] at u
    by_cases g : (T 0 1).testBit h = true
    · rw [g, show (!(T 1 h).testBit d && !true) = false from by cases (T 1 h).testBit d <;> rfl, if_neg (show ¬ false = true by decide), if_neg (show ¬ (!true) = true by decide)] at u
      by_cases q : kk ≤ c
      · rw [if_pos (nI_le q (by omega))] at u
        rw [ltp_k q]
        exact ⟨S, u, e1, e2, fun _ _ _ => rfl⟩
      · rw [if_neg (nI_ge (by omega) (by omega))] at u
        rw [ltp_g q g, u]
        exact ih k (h + 1) s c (by omega) (by omega) (by omega) (by omega) h0 hR e1 e2
    · have gf : (T 0 1).testBit h = false := by
        cases q : (T 0 1).testBit h
        · rfl
        · exact absurd q g
      rw [gf] at u
      by_cases b : (T 1 h).testBit d = true
      · rw [b, show (!true && !false) = false from rfl, if_neg (show ¬ false = true by decide), if_pos (show (!false) = true by decide)] at u
        by_cases q : kk ≤ c
        · rw [if_pos (nI_le q (by omega))] at u
          rw [ltp_k q]
          exact ⟨S, u, e1, e2, fun _ _ _ => rfl⟩
        · rw [if_neg (nI_ge (by omega) (by omega)), e1, e2] at u
          rw [ltp_s q g b]
          have st : ∀ S1, RT S1 376 T → S1.1 375 30 = nI (upF ms fs first (s + T 2 h) (c + 1)).1 → S1.1 375 31 = (upF ms fs first (s + T 2 h) (c + 1)).2 → F3 S S1 → lX9_layThieves_31 F K 375 (nI d) (nI kk) (k + 1) S (nI first) (nI s) (nI c) (nI h) = lX9_layThieves_31 F K 375 (nI d) (nI kk) k S1 (nI first) (nI (s + T 2 h)) (nI (c + 1)) (nI (h + 1)) → ∃ S', lX9_layThieves_31 F K 375 (nI d) (nI kk) (k + 1) S (nI first) (nI s) (nI c) (nI h) = K S' (nI (first + 1)) ∧ S'.1 375 30 = nI (upF ms fs first (ltP T d kk m (h + 1) (s + T 2 h) (c + 1)).1 (ltP T d kk m (h + 1) (s + T 2 h) (c + 1)).2).1 ∧ S'.1 375 31 = (upF ms fs first (ltP T d kk m (h + 1) (s + T 2 h) (c + 1)).1 (ltP T d kk m (h + 1) (s + T 2 h) (c + 1)).2).2 ∧ F3 S S' := fun S1 r1 x1 x2 f1 ee => by
            obtain ⟨S', a1, a2, a3, a4⟩ := ih k (h + 1) (s + T 2 h) (c + 1) (S := S1) (by omega) (by omega) (by omega) (by omega) (by omega) r1 x1 x2
            exact ⟨S', ee.trans a1, a2, a3, f1.trans a4⟩
          have wr : ∀ (v : Nat), RT (sI (sI S 375 30 (nI v)) 375 31 (nI first)) 376 T ∧ F3 S (sI (sI S 375 30 (nI v)) 375 31 (nI first)) := fun v => ⟨hR.fr (fun k => (sq_u (by decide)).trans (sq_u (by decide))), fun u k hu => (sq_off (by omega)).trans (sq_off (by omega))⟩
          have fn : nI first ≠ -1 := by rw [ne_eq, n_m1 (by omega)]; exact fun h => h
          simp only [stp_s] at u
          by_cases c0 : c = 0
          · have s0 := h0 c0
            have eu : upF ms fs first s c = (ms, fs) := if_pos c0
            rw [eu] at u e1 e2
            by_cases y : fs = -1
            · have eu2 : upF ms fs first (s + T 2 h) (c + 1) = (s + T 2 h, nI first) := (if_neg (by omega)).trans (if_pos (Or.inl y))
              refine st _ (wr (s + T 2 h)).1 ?_ ?_ (wr (s + T 2 h)).2 (u.trans (if_pos y))
              · rw [eu2, sq_off (by omega), sq_hit]
              · rw [eu2, sq_hit]
            · by_cases x : ms < s + T 2 h
              · have eu2 : upF ms fs first (s + T 2 h) (c + 1) = (s + T 2 h, nI first) := (if_neg (by omega)).trans (if_pos (Or.inr x))
                refine st _ (wr (s + T 2 h)).1 ?_ ?_ (wr (s + T 2 h)).2 (u.trans ((if_neg y).trans (if_pos (nI_lt x (by omega)))))
                · rw [eu2, sq_off (by omega), sq_hit]
                · rw [eu2, sq_hit]
              · have eu2 : upF ms fs first (s + T 2 h) (c + 1) = (ms, fs) := (if_neg (by omega)).trans (if_neg (fun w => by rcases w with w | w; exact y w; exact x w))
                exact st S hR (by rw [eu2]; exact e1) (by rw [eu2]; exact e2) (fun _ _ _ => rfl) (u.trans ((if_neg y).trans (if_neg (nI_nlt (by omega) (by omega)))))
          · by_cases y : fs = -1 ∨ ms < s
            · have eu : upF ms fs first s c = (s, nI first) := (if_neg c0).trans (if_pos y)
              have eu2 : upF ms fs first (s + T 2 h) (c + 1) = (s + T 2 h, nI first) := (if_neg (by omega)).trans (if_pos (by rcases y with y | y; exact Or.inl y; exact Or.inr (by omega)))
              rw [eu] at u e1 e2
              by_cases x : s < s + T 2 h
              · refine st _ (wr (s + T 2 h)).1 ?_ ?_ (wr (s + T 2 h)).2 (u.trans ((if_neg fn).trans (if_pos (nI_lt x (by omega)))))
                · rw [eu2, sq_off (by omega), sq_hit]
                · rw [eu2, sq_hit]
              · have x0 : s + T 2 h = s := by omega
                exact st S hR (by rw [eu2, e1]; exact congrArg nI x0.symm) (by rw [eu2]; exact e2) (fun _ _ _ => rfl) (u.trans ((if_neg fn).trans (if_neg (nI_nlt (by omega) (by omega)))))
            · have eu : upF ms fs first s c = (ms, fs) := (if_neg c0).trans (if_neg y)
              have yn : ¬ fs = -1 := fun w => y (Or.inl w)
              rw [eu] at u e1 e2
              by_cases x : ms < s + T 2 h
              · have eu2 : upF ms fs first (s + T 2 h) (c + 1) = (s + T 2 h, nI first) := (if_neg (by omega)).trans (if_pos (Or.inr x))
                refine st _ (wr (s + T 2 h)).1 ?_ ?_ (wr (s + T 2 h)).2 (u.trans ((if_neg yn).trans (if_pos (nI_lt x (by omega)))))
                · rw [eu2, sq_off (by omega), sq_hit]
                · rw [eu2, sq_hit]
              · have eu2 : upF ms fs first (s + T 2 h) (c + 1) = (ms, fs) := (if_neg (by omega)).trans (if_neg (fun w => by rcases w with w | w; exact yn w; exact x w))
                exact st S hR (by rw [eu2]; exact e1) (by rw [eu2]; exact e2) (fun _ _ _ => rfl) (u.trans ((if_neg yn).trans (if_neg (nI_nlt (by omega) (by omega)))))
      · have bf : (T 1 h).testBit d = false := by
          cases q : (T 1 h).testBit d
          · rfl
          · exact absurd q b
        rw [bf, show (!false && !false) = true from rfl, if_pos rfl] at u
        refine ⟨S, u, ?_⟩
        by_cases q : kk ≤ c
        · rw [ltp_k q]; exact ⟨e1, e2, fun _ _ _ => rfl⟩
        · rw [ltp_o q g b]; exact ⟨e1, e2, fun _ _ _ => rfl⟩
end
