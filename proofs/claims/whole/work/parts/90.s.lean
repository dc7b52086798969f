/-! ===== thieves, night: the steps ===== -/
section
variable {F : Nat} {T : Tw} {d kk : Nat}
theorem x9_t12 (hF : 100 < F) (hW : Wf T) (hd : d < 20) (hk7 : kk ≤ 7) (hk1 : 1 ≤ kk) (m : Nat) : ∀ (k h : Nat) (b : Int32) {S : mS}, h + m = T 0 0 → m < k → okb T b → RT S 376 T → S.1 375 30 = nI (lo T d kk b) → S.1 375 31 = b → ∃ S', lX9_layThieves_12 F 375 (nI d) (nI kk) k S (nI h) = some S' ∧ S'.1 375 30 = nI (lo T d kk (rbL T d kk m h b)) ∧ S'.1 375 31 = rbL T d kk m h b ∧ F3 S S' := by
  have w0 := hW.1
  induction m with
  | zero =>
    intro k h b S hi hk hb hR e1 e2
    obtain ⟨k, rfl⟩ : ∃ k', k = k' + 1 := ⟨k - 1, by omega⟩
    exact ⟨S, by rw [u_X9_layThieves_12, inb_n (n := 0) (by omega) (by omega), ck_t, nI_clamp (n := 0) (by omega), hR.1, if_pos (nI_le (by omega) (by omega))], e1, e2, fun _ _ _ => rfl⟩
  | succ m ih =>
    intro k h b S hi hk hb hR e1 e2
    obtain ⟨k, rfl⟩ : ∃ k', k = k' + 1 := ⟨k - 1, by omega⟩
    obtain ⟨F', rfl⟩ : ∃ F', F = F' + 1 := ⟨F - 1, by omega⟩
    have hh : h < T 0 0 := by omega
    have ll := lo_le (d := d) (kk := kk) hW hb
    have u : lX9_layThieves_12 (F' + 1) 375 (nI d) (nI kk) (k + 1) S (nI h) = lX9_layThieves_31 (F' + 1) (fun (S : mS) (v3 : Int32) => lX9_layThieves_12 (F' + 1) 375 (nI d) (nI kk) k S v3) 375 (nI d) (nI kk) (F' + 1) S (nI h) (nI 0) (nI 0) (nI h) := by
      rw [u_X9_layThieves_12, inb_n (n := 0) (by omega) (by omega), ck_t, nI_clamp (n := 0) (by omega), hR.1, if_neg (nI_ge hh (by omega))]
    have go : ∀ b' S1, (if (T 0 1).testBit h = true then b else if (T 1 h).testBit d = true then (if b = -1 then nI h else if lo T d kk (nI h) ≤ lo T d kk b then b else nI h) else b) = b' → okb T b' → lX9_layThieves_12 (F' + 1) 375 (nI d) (nI kk) (k + 1) S (nI h) = lX9_layThieves_12 (F' + 1) 375 (nI d) (nI kk) k S1 (nI (h + 1)) → S1.1 375 30 = nI (lo T d kk b') → S1.1 375 31 = b' → F3 S S1 → ∃ S', lX9_layThieves_12 (F' + 1) 375 (nI d) (nI kk) (k + 1) S (nI h) = some S' ∧ S'.1 375 30 = nI (lo T d kk (rbL T d kk (m + 1) h b)) ∧ S'.1 375 31 = rbL T d kk (m + 1) h b ∧ F3 S S' := fun b' S1 eb ob ee x1 x2 f1 => by
      obtain ⟨S', a1, a2, a3, a4⟩ := ih k (h + 1) b' (S := S1) (by omega) (by omega) ob (hR.fr (fun k => f1 _ _ (by omega))) x1 x2
      have er : rbL T d kk (m + 1) h b = rbL T d kk m (h + 1) b' := by
        show rbL T d kk m (h + 1) _ = _
        rw [eb]
      rw [er]
      exact ⟨S', ee.trans a1, a2, a3, f1.trans a4⟩
    by_cases g : (T 0 1).testBit h = true
    · refine go b S (if_pos g) hb ?_ e1 e2 (fun _ _ _ => rfl)
      rw [u, u_X9_layThieves_31, x9_isHeren hR hW hh, g, bd_s, if_neg (show ¬ (!true) = true by decide), nI_add]
    · obtain ⟨S1, a1, a2, a3, a4⟩ := x9_t31 (F := F' + 1) hW hd hk7 (fun (S : mS) (v3 : Int32) => lX9_layThieves_12 (F' + 1) 375 (nI d) (nI kk) k S v3) (first := h) (ms := lo T d kk b) (fs := b) hh g ll (T 0 0 - h) (F' + 1) h 0 0 (S := S) (by omega) (by omega) (by omega) (by omega) (fun _ => rfl) hR e1 e2
      by_cases z : (T 1 h).testBit d = true
      · have cc : 1 ≤ (ltP T d kk (T 0 0 - h) h 0 0).2 := by
          obtain ⟨m', hm'⟩ : ∃ m', T 0 0 - h = m' + 1 := ⟨T 0 0 - h - 1, by omega⟩
          rw [hm', ltp_s (by omega) g z]
          have p := (hW.2.2.2.2.2.1 h hh).2.2.1
          exact (ltp_b hW m' (h + 1) (0 + T 2 h) (0 + 1) (by omega) (by omega)).2.2
        have en := lo_n (d := d) (kk := kk) hW hh
        by_cases y : b = -1
        · have eu : upF (lo T d kk b) b h (ltP T d kk (T 0 0 - h) h 0 0).1 (ltP T d kk (T 0 0 - h) h 0 0).2 = ((ltP T d kk (T 0 0 - h) h 0 0).1, nI h) := (if_neg (by omega)).trans (if_pos (Or.inl y))
          rw [eu] at a2 a3
          exact go (nI h) S1 (by rw [if_neg g, if_pos z, if_pos y]) (Or.inr ⟨h, hh, rfl⟩) (u.trans a1) (by rw [en]; exact a2) a3 a4
        · by_cases x : lo T d kk (nI h) ≤ lo T d kk b
          · have eu : upF (lo T d kk b) b h (ltP T d kk (T 0 0 - h) h 0 0).1 (ltP T d kk (T 0 0 - h) h 0 0).2 = (lo T d kk b, b) := (if_neg (by omega)).trans (if_neg (fun w => by
              rcases w with w | w
              · exact y w
              · omega))
            rw [eu] at a2 a3
            exact go b S1 (by rw [if_neg g, if_pos z, if_neg y, if_pos x]) hb (u.trans a1) a2 a3 a4
          · have eu : upF (lo T d kk b) b h (ltP T d kk (T 0 0 - h) h 0 0).1 (ltP T d kk (T 0 0 - h) h 0 0).2 = ((ltP T d kk (T 0 0 - h) h 0 0).1, nI h) := (if_neg (by omega)).trans (if_pos (Or.inr (by omega)))
            rw [eu] at a2 a3
            exact go (nI h) S1 (by rw [if_neg g, if_pos z, if_neg y, if_neg x]) (Or.inr ⟨h, hh, rfl⟩) (u.trans a1) (by rw [en]; exact a2) a3 a4
      · have e0 : ltP T d kk (T 0 0 - h) h 0 0 = (0, 0) := by
          obtain ⟨m', hm'⟩ : ∃ m', T 0 0 - h = m' + 1 := ⟨T 0 0 - h - 1, by omega⟩
          rw [hm', ltp_o (by omega) g z]
        rw [e0] at a2 a3
        exact go b S1 (by rw [if_neg g, if_neg z]) hb (u.trans a1) a2 a3 a4
theorem x9_lay (hF : 100 < F) (hW : Wf T) (hd : d < 20) (hk7 : kk ≤ 7) (hk1 : 1 ≤ kk) {S : mS} (hR : RT S 376 T) : ∃ S', f_X9_layThieves F S 375 (nI d) (nI kk) = some S' ∧ S'.1 375 30 = nI (lo T d kk (rbL T d kk (T 0 0) 0 (-1))) ∧ S'.1 375 31 = rbL T d kk (T 0 0) 0 (-1) ∧ F3 S S' := by
  have w0 := hW.1
  have f0 : F3 S (sI (sI S 375 30 (nI 0)) 375 31 (-1)) := fun u k hu => (sq_off (by omega)).trans (sq_off (by omega))
  obtain ⟨S', a1, a2, a3, a4⟩ := x9_t12 (F := F) hF hW hd hk7 hk1 (T 0 0) F 0 (-1) (S := sI (sI S 375 30 (nI 0)) 375 31 (-1)) (by omega) (by omega) (Or.inl rfl) (hR.fr (fun k => f0 _ _ (by omega))) rfl rfl
  exact ⟨S', by rw [u_X9_layThieves, stp_s, stp_s]; exact a1, a2, a3, f0.trans a4⟩
theorem x6_robF (hF : 100 < F) (hW : Wf T) (hd : d < 20) (hk7 : kk ≤ 7) {S : mS} (hC : CT S 41 T) : f_X6_robbedFirst F S 41 (nI d) (nI kk) = some (rbL T d kk (T 0 0) 0 (-1)) := by
  have w0 := hW.1
  rw [u_X6_robbedFirst]
  exact x6_rob hF hC hW hd hk7 (T 0 0) F 0 (-1) (by omega) (by omega) (Or.inl rfl)
end
theorem cor_3 {S S1 : mS} (f : F3 S S1) : ∀ u k, cor u k → S1.1 u k = S.1 u k := fun u k c => f u k (by unfold cor at c; omega)
theorem st_thieves : ∀ S, Inv S → ∀ a1 a2 a3, Step μX8_thieves μX9_thieves Inv S [.int a1, .int a2, .int (zb a3)] := by
  intro S hI a b c
  obtain ⟨T, P, N, hCW, hRW, hWV, hC, hR, hW⟩ := hI.t
  obtain ⟨F, hF⟩ := big_F
  have w0 := hW.1
  have w2 := hW.2.2.1
  have w4 := hW.2.2.2.2.1
  have c5 : S.1 41 5 = nI (T 0 0) := hC.1
  have c7 : S.1 41 7 = nI (T 0 2) := hC.2.2.1
  have cs : ∀ h, h < T 0 0 → S.1 42 h = nI (T 1 h) := hC.2.2.2.2.2.1
  have r0 : S.1 376 0 = nI (T 0 0) := hR.1
  have r8 : S.1 376 8 = nI (T 0 2) := hR.2.1
  generalize zb c = c
  rcases dat_c S a with z | ⟨d, hd, rfl, z⟩
  · have e1 : f_X8_thieves F S 0 a b c = some (-2) := by rw [u_X8_thieves, u_X8_isDate, z]; rfl
    have e2 : f_X9_thieves F S 375 a b c = some (S, -2) := by rw [u_X9_thieves, x9_isIn, z]; rfl
    exact stepR hI (c_X8_thieves k_0 e1) (c_X9_thieves k_375 e2) (by decide) (by decide)
  rcases win_c (S := S) b 1 7 (by omega) (by omega) with y | ⟨kk, h1, h2, rfl, y⟩
  · have e1 : f_X8_thieves F S 0 (nI d) b c = some (-2) := by rw [u_X8_thieves, u_X8_isDate, z, if_pos rfl, y]; rfl
    have e2 : f_X9_thieves F S 375 (nI d) b c = some (S, -2) := by rw [u_X9_thieves, x9_isIn, z, if_pos rfl, x9_isIn, y]; rfl
    exact stepR hI (c_X8_thieves k_0 e1) (c_X9_thieves k_375 e2) (by decide) (by decide)
  obtain ⟨S', a1, a2, a3, a4⟩ := x9_lay (F := F) (by omega) hW hd h2 h1 hR
  have ok := rb_ok (T := T) (d := d) (kk := kk) (T 0 0) 0 (-1) (by omega) (Or.inl rfl)
  by_cases q : c = nI 0
  · have e1 : f_X8_thieves F S 0 (nI d) (nI kk) c = some (nI (lo T d kk (rbL T d kk (T 0 0) 0 (-1)))) := by
      rw [u_X8_thieves, u_X8_isDate, z, if_pos rfl, y, if_pos rfl, x6_robF (by omega) hW hd h2 hC, bd_s, if_pos q, x6_loot (by omega) hC hW hd h2 ok, bd_s]
    have e2 : f_X9_thieves F S 375 (nI d) (nI kk) c = some (S', nI (lo T d kk (rbL T d kk (T 0 0) 0 (-1)))) := by
      rw [u_X9_thieves, x9_isIn, z, if_pos rfl, x9_isIn, y, if_pos rfl, a1, bd_s, if_pos q, a2]
    exact stepS (S1 := S) (S2 := S') (r := nI (lo T d kk (rbL T d kk (T 0 0) 0 (-1)))) hI (c_X8_thieves k_0 e1) (c_X9_thieves k_375 e2) (fun _ _ _ => rfl) (cor_3 a4) (by decide) (by decide)
  · have e1 : f_X8_thieves F S 0 (nI d) (nI kk) c = some (rbL T d kk (T 0 0) 0 (-1)) := by
      rw [u_X8_thieves, u_X8_isDate, z, if_pos rfl, y, if_pos rfl, x6_robF (by omega) hW hd h2 hC, bd_s, if_neg q]
    have e2 : f_X9_thieves F S 375 (nI d) (nI kk) c = some (S', rbL T d kk (T 0 0) 0 (-1)) := by
      rw [u_X9_thieves, x9_isIn, z, if_pos rfl, x9_isIn, y, if_pos rfl, a1, bd_s, if_neg q, a3]
    exact stepS (S1 := S) (S2 := S') (r := rbL T d kk (T 0 0) 0 (-1)) hI (c_X8_thieves k_0 e1) (c_X9_thieves k_375 e2) (fun _ _ _ => rfl) (cor_3 a4) (by decide) (by decide)
section
variable {F : Nat} {T : Tw} {kk : Nat}
theorem x8_ni (hF : 100 < F) (hW : Wf T) (hk7 : kk ≤ 7) {S : mS} (hC : CT S 41 T) (e : Nat → Nat) (he : ∀ d, e d = lo T d kk (rbL T d kk (T 0 0) 0 (-1))) (m : Nat) : ∀ (i k b : Nat), i + m = 20 → m < k → b < 20 → lX8_night_19 F 0 (nI kk) k S (nI b) (nI (e b)) (nI i) = some (nI (bsS e m i b)) := by
  have bd : ∀ d, e d ≤ 70000 := fun d => by rw [he]; exact lo_le hW (rb_ok (T 0 0) 0 (-1) (by omega) (Or.inl rfl))
  induction m with
  | zero =>
    intro i k b hi hk hb
    obtain ⟨k, rfl⟩ : ∃ k', k = k' + 1 := ⟨k - 1, by omega⟩
    rw [u_X8_night_19, if_pos (nI_le (by omega) (by omega))]; rfl
  | succ m ih =>
    intro i k b hi hk hb
    obtain ⟨k, rfl⟩ : ∃ k', k = k' + 1 := ⟨k - 1, by omega⟩
    have b1 := bd i
    have b2 := bd b
    rw [u_X8_night_19, if_neg (nI_ge (by omega) (by omega)), x6_robF hF hW (show i < 20 by omega) hk7 hC, bd_s, x6_loot hF hC hW (show i < 20 by omega) hk7 (rb_ok (T 0 0) 0 (-1) (by omega) (Or.inl rfl)), bd_s, ← he i, nI_add]
    show _ = some (nI (bsS e m (i + 1) (if e i ≤ e b then b else i)))
    by_cases q : e i ≤ e b
    · rw [if_pos (nI_le q (by omega)), if_pos q]; exact ih (i + 1) k b (by omega) (by omega) hb
    · rw [if_neg (nI_ge (by omega) (by omega)), if_neg q]; exact ih (i + 1) k i (by omega) (by omega) (by omega)
theorem x9_ni (hF : 100 < F) (hW : Wf T) (hk7 : kk ≤ 7) (hk1 : 1 ≤ kk) (e : Nat → Nat) (he : ∀ d, e d = lo T d kk (rbL T d kk (T 0 0) 0 (-1))) (m : Nat) : ∀ (i k b : Nat) {S : mS}, i + m = 20 → m < k → b < 20 → RT S 376 T → ∃ S', lX9_night_19 F 375 (nI kk) k S (nI b) (nI (e b)) (nI i) = some (S', nI (bsS e m i b)) ∧ F3 S S' := by
  have bd : ∀ d, e d ≤ 70000 := fun d => by rw [he]; exact lo_le hW (rb_ok (T 0 0) 0 (-1) (by omega) (Or.inl rfl))
  induction m with
  | zero =>
    intro i k b S hi hk hb hR
    obtain ⟨k, rfl⟩ : ∃ k', k = k' + 1 := ⟨k - 1, by omega⟩
    exact ⟨S, by rw [u_X9_night_19, if_pos (nI_le (by omega) (by omega))]; rfl, fun _ _ _ => rfl⟩
  | succ m ih =>
    intro i k b S hi hk hb hR
    obtain ⟨k, rfl⟩ : ∃ k', k = k' + 1 := ⟨k - 1, by omega⟩
    have b1 := bd i
    have b2 := bd b
    obtain ⟨S1, a1, a2, a3, a4⟩ := x9_lay (F := F) hF hW (show i < 20 by omega) hk7 hk1 hR
    have hR1 : RT S1 376 T := hR.fr (fun k => a4 _ _ (by omega))
    rw [← he i] at a2
    have u : lX9_night_19 F 375 (nI kk) (k + 1) S (nI b) (nI (e b)) (nI i) = if nI (e b) < nI (e i) then lX9_night_19 F 375 (nI kk) k S1 (nI i) (nI (e i)) (nI (i + 1)) else lX9_night_19 F 375 (nI kk) k S1 (nI b) (nI (e b)) (nI (i + 1)) := by
      rw [u_X9_night_19, if_neg (nI_ge (by omega) (by omega)), a1, bd_s, a2, nI_add]
    rw [u]
    show ∃ S', _ = some (S', nI (bsS e m (i + 1) (if e i ≤ e b then b else i))) ∧ _
    by_cases q : e i ≤ e b
    · rw [if_neg (nI_nlt q (by omega)), if_pos q]
      obtain ⟨S2, u2, f2⟩ := ih (i + 1) k b (S := S1) (by omega) (by omega) hb hR1
      exact ⟨S2, u2, a4.trans f2⟩
    · rw [if_pos (nI_lt (by omega) (by omega)), if_neg q]
      obtain ⟨S2, u2, f2⟩ := ih (i + 1) k i (S := S1) (by omega) (by omega) (by omega) hR1
      exact ⟨S2, u2, a4.trans f2⟩
end
theorem st_night : ∀ S, Inv S → ∀ a1, Step μX8_night μX9_night Inv S [.int a1] := by
  intro S hI b
  obtain ⟨T, P, N, hCW, hRW, hWV, hC, hR, hW⟩ := hI.t
  obtain ⟨F, hF⟩ := big_F
  have w0 := hW.1
  have w2 := hW.2.2.1
  have w4 := hW.2.2.2.2.1
  have c5 : S.1 41 5 = nI (T 0 0) := hC.1
  have c7 : S.1 41 7 = nI (T 0 2) := hC.2.2.1
  have cs : ∀ h, h < T 0 0 → S.1 42 h = nI (T 1 h) := hC.2.2.2.2.2.1
  have r0 : S.1 376 0 = nI (T 0 0) := hR.1
  have r8 : S.1 376 8 = nI (T 0 2) := hR.2.1
  rcases win_c (S := S) b 1 7 (by omega) (by omega) with y | ⟨kk, h1, h2, rfl, y⟩
  · have e1 : f_X8_night F S 0 b = some (-1) := by rw [u_X8_night, y]; rfl
    have e2 : f_X9_night F S 375 b = some (S, -1) := by rw [u_X9_night, x9_isIn, y]; rfl
    exact stepR hI (c_X8_night k_0 e1) (c_X9_night k_375 e2) (by decide) (by decide)
  obtain ⟨e, he⟩ : ∃ e : Nat → Nat, ∀ d, e d = lo T d kk (rbL T d kk (T 0 0) 0 (-1)) := ⟨_, fun _ => rfl⟩
  have ok := rb_ok (T := T) (d := 0) (kk := kk) (T 0 0) 0 (-1) (by omega) (Or.inl rfl)
  have bd : e 0 ≤ 70000 := by rw [he]; exact lo_le hW ok
  obtain ⟨F', rfl⟩ : ∃ F', F = F' + 1 := ⟨F - 1, by omega⟩
  obtain ⟨S1, a1, a2, a3, a4⟩ := x9_lay (F := F' + 1) (by omega) hW (show 0 < 20 by decide) h2 h1 hR
  rw [← he 0] at a2
  have hR1 : RT S1 376 T := hR.fr (fun k => a4 _ _ (by omega))
  obtain ⟨S2, u2, f2⟩ := x9_ni (F := F' + 1) (by omega) hW h2 h1 e he 19 1 F' 0 (S := S1) (by omega) (by omega) (by omega) hR1
  have e1 : f_X8_night (F' + 1) S 0 (nI kk) = some (nI (bsS e 19 1 0)) := by
    rw [u_X8_night, y, if_pos rfl, u_X8_night_19, if_neg (nI_ge (show 0 < 20 by decide) (by omega)), x6_robF (by omega) hW (show 0 < 20 by decide) h2 hC, bd_s, x6_loot (by omega) hC hW (show 0 < 20 by decide) h2 ok, bd_s, ← he 0, if_neg (by rw [n_le_m1 (by omega)]; exact fun h => h), nI_add]
    exact x8_ni (by omega) hW h2 hC e he 19 1 F' 0 (by omega) (by omega) (by omega)
  have e2 : f_X9_night (F' + 1) S 375 (nI kk) = some (S2, nI (bsS e 19 1 0)) := by
    rw [u_X9_night, x9_isIn, y, if_pos rfl, u_X9_night_19, if_neg (nI_ge (show 0 < 20 by decide) (by omega)), a1, bd_s, a2, nI_add]
    by_cases q : 0 < e 0
    · rw [if_pos (nI_lt q (by omega))]; exact u2
    · rw [if_neg (nI_nlt (by omega) (by omega))]
      have z : e 0 = 0 := by omega
      rw [z] at u2
      exact u2
  exact stepS (S1 := S) (S2 := S2) (r := nI (bsS e 19 1 0)) hI (c_X8_night k_0 e1) (c_X9_night k_375 e2) (fun _ _ _ => rfl) (cor_3 (a4.trans f2)) (by decide) (by decide)
