/-! ===== appointments: days in a row ===== -/
theorem fb_rot (p : Nat → Bool) (s : Nat) : fb_ct (fun d => p ((s + d) % 20)) 20 = fb_ct p 20 := by
  have hr := Nat.mod_lt s (show 20 > 0 by decide)
  obtain ⟨r, hr'⟩ : ∃ r, r = s % 20 := ⟨_, rfl⟩
  have a := fb_ct_split (fun d => p ((s + d) % 20)) (20 - r) r
  have b := fb_ct_split p r (20 - r)
  rw [show 20 - r + r = 20 by omega] at a
  rw [show r + (20 - r) = 20 by omega] at b
  rw [a, b]
  have e1 : fb_ct (fun d => p ((s + d) % 20)) (20 - r) = fb_ct (fun k => p (r + k)) (20 - r) := fb_ct_cong (fun k hk => by
    show p ((s + k) % 20) = p (r + k)
    rw [show (s + k) % 20 = r + k by omega])
  have e2 : fb_ct (fun k => p ((s + (20 - r + k)) % 20)) r = fb_ct p r := fb_ct_cong (fun k hk => by
    show p ((s + (20 - r + k)) % 20) = p k
    rw [show (s + (20 - r + k)) % 20 = k by omega])
  rw [e1, e2, Nat.add_comm]
/-- at least j - 3 of j days in a row are open -/
theorem opn_days {T : Tw} {mem : Nat → Nat} (hW : Wf T) {i j : Nat} (hm : mem i < T 0 0) (hj : j ≤ 20) : j ≤ fb_ct (fun d => opM T mem i (0 + d)) j + 3 := by
  have t3 := (hW.2.2.2.2.2.1 _ hm).2.1
  rw [pcf_ct, ← fb_rot _ (T 0 2)] at t3
  have a := fb_ct_mono (fun d => (T 1 (mem i)).testBit ((T 0 2 + d) % 20)) hj
  have b := fb_ct_not (fun d => (T 1 (mem i)).testBit ((T 0 2 + d) % 20)) j
  have c : fb_ct (fun d => opM T mem i (0 + d)) j = fb_ct (fun k => !(T 1 (mem i)).testBit ((T 0 2 + k) % 20)) j := fb_ct_cong (fun k _ => by
    show opM T mem i (0 + k) = _
    rw [Nat.zero_add]; rfl)
  rw [c]
  omega
theorem plan_ex {T : Tw} {n : Nat} {mem : Nat → Nat} (hW : Wf T) (hn : n ≤ 5) (hmem : ∀ i, i < n → mem i < T 0 0) : ∃ v, v < (n + 1) ^ (n + 3) ∧ okL n (opM T mem) 0 (n + 3) (2 ^ n - 1) v = true := by
  have hp : ∀ n, n < 6 → pcf 20 (2 ^ n - 1) = n ∧ 2 ^ n - 1 < 1048576 := by decide
  obtain ⟨p1, p2⟩ := hp n (by omega)
  refine okL_ex (by omega) (n + 3) _ p2 (fun i h => (US_0 n).2.1 i h) (fun i h => ?_)
  have := opn_days (j := n + 3) hW (hmem i ((US_0 n).2.1 i h)) (by omega)
  rw [p1]
  omega
