/-! WHAT STAYS SO OF A LAB -/
theorem gA_cong {h a a' : zN} (hH : gH h) (hA : gA h a) (e : ∀ j, 1 ≤ j → j < 40 → a' j = a j) : gA h a' := by
  obtain ⟨k0, k1, k2, k3, k4, k5, kh, kl, ka, kp⟩ := id hH
  refine ⟨by rw [e 1 (by omega) (by omega)]; exact hA.1, fun b hb => by rw [e (2 + b) (by omega) (by omega)]; exact hA.2.1 b hb, fun s hs => ?_⟩
  unfold gAs
  rw [e (8 + s) (by omega) (by omega), e (16 + s) (by omega) (by omega), e (24 + s) (by omega) (by omega), e (32 + s) (by omega) (by omega)]
  exact hA.2.2 s hs
theorem gGo_n {a : zN} {s how j : Nat} (h1 : j ≠ 8 + s) (h2 : j ≠ 16 + s) (h3 : j ≠ 24 + s) (h4 : j ≠ 32 + s) : gGo a s how j = a j := by
  unfold gGo
  rw [uN_n h4, uN_n h3, uN_n h2, uN_n h1]
theorem gGo_how {a : zN} {s how : Nat} : gGo a s how (8 + s) = how := by
  unfold gGo
  rw [uN_n (by omega), uN_n (by omega), uN_n (by omega), uN_s]
theorem gGo_i {a : zN} {s how : Nat} : gGo a s how (16 + s) = 0 := by
  unfold gGo
  rw [uN_n (by omega), uN_n (by omega), uN_s]
theorem gGo_left {a : zN} {s how : Nat} : gGo a s how (24 + s) = 0 := by
  unfold gGo
  rw [uN_n (by omega), uN_s]
theorem gGo_here {a : zN} {s how : Nat} : gGo a s how (32 + s) = 0 := by
  unfold gGo
  rw [uN_s]
theorem gA_go {h a : zN} {s how : Nat} (hH : gH h) (hA : gA h a) (hs : s < 8) (hw : how ≤ 3) (hw1 : how ≠ 1) : gA h (gGo a s how) := by
  obtain ⟨k0, k1, k2, k3, k4, k5, kh, kl, ka, kp⟩ := id hH
  refine ⟨?_, fun b hb => ?_, fun k hk => ?_⟩
  · rw [gGo_n (by omega) (by omega) (by omega) (by omega)]; exact hA.1
  · rw [gGo_n (by omega) (by omega) (by omega) (by omega)]; exact hA.2.1 b hb
  · by_cases e : k = s
    · subst e
      unfold gAs
      rw [gGo_how, gGo_i, gGo_left, gGo_here]
      refine ⟨hw, by omega, ⟨fun q => absurd q hw1, fun q => absurd rfl q⟩, by omega, by omega, fun _ => rfl⟩
    · unfold gAs
      rw [gGo_n (by omega) (by omega) (by omega) (by omega), gGo_n (by omega) (by omega) (by omega) (by omega), gGo_n (by omega) (by omega) (by omega) (by omega), gGo_n (by omega) (by omega) (by omega) (by omega)]
      exact hA.2.2 k hk
theorem gEnt_n {h a : zN} {s b j : Nat} (h1 : j ≠ 8 + s) (h2 : j ≠ 16 + s) (h3 : j ≠ 24 + s) (h4 : j ≠ 32 + s) (h5 : j ≠ 2 + b) : gEnt h a s b j = a j := by
  unfold gEnt
  rw [uN_n h5, uN_n h4, uN_n h3, uN_n h2, uN_n h1]
theorem gOpen_t {h a : zN} {b : Nat} (h1 : gOpen h a b = true) : gpc (gIn a b) < h (6 + b) ∧ a (2 + b) < h (12 + b) := by
  unfold gOpen at h1
  simpa using h1
theorem gA_ent {h a : zN} {s b : Nat} (hH : gH h) (hA : gA h a) (hs : s < h 2) (hb : b < h 0) (ho : a (2 + b) < h (12 + b)) : gA h (gEnt h a s b) := by
  obtain ⟨k0, k1, k2, k3, k4, k5, kh, kl, ka, kp⟩ := id hH
  have l1 := gask_le hH hs hb
  refine ⟨?_, fun b' hb' => ?_, fun k hk => ?_⟩
  · rw [gEnt_n (by omega) (by omega) (by omega) (by omega) (by omega)]; exact hA.1
  · by_cases e : b' = b
    · subst e
      unfold gEnt
      rw [uN_s]; omega
    · rw [gEnt_n (by omega) (by omega) (by omega) (by omega) (by omega)]; exact hA.2.1 b' hb'
  · by_cases e : k = s
    · subst e
      unfold gAs
      have e1 : gEnt h a k b (8 + k) = 1 := by
        unfold gEnt
        rw [uN_n (by omega), uN_n (by omega), uN_n (by omega), uN_n (by omega), uN_s]
      have e2 : gEnt h a k b (16 + k) = b + 1 := by
        unfold gEnt
        rw [uN_n (by omega), uN_n (by omega), uN_n (by omega), uN_s]
      have e3 : gEnt h a k b (24 + k) ≤ 39 := by
        unfold gEnt
        rw [uN_n (by omega), uN_n (by omega), uN_s]
        split <;> omega
      have e4 : gEnt h a k b (32 + k) = 0 := by
        unfold gEnt
        rw [uN_n (by omega), uN_s]
      rw [e1, e2, e4]
      refine ⟨by omega, by omega, ⟨fun _ => by omega, fun _ => rfl⟩, e3, by omega, fun q => by omega⟩
    · unfold gAs
      rw [gEnt_n (by omega) (by omega) (by omega) (by omega) (by omega), gEnt_n (by omega) (by omega) (by omega) (by omega) (by omega), gEnt_n (by omega) (by omega) (by omega) (by omega) (by omega), gEnt_n (by omega) (by omega) (by omega) (by omega) (by omega)]
      exact hA.2.2 k hk
theorem gOpen_cong {h a a' : zN} {b : Nat} (h1 : ∀ s, s < 8 → a' (16 + s) = a (16 + s)) (h2 : a' (2 + b) = a (2 + b)) : gOpen h a' b = gOpen h a b := by
  unfold gOpen
  rw [h2, show gIn a' b = gIn a b from gbN_cong (fun k hk => by rw [h1 k hk])]
theorem gA_st {h a : zN} {s : Nat} (hH : gH h) (hA : gA h a) (hs : s < h 2) (hw : gWhyS h a s = 0) : gA h (gSt h a s) ∧ gA h (uN (uN a (40 + s) 0) (48 + s) (a (48 + s) + 1)) := by
  obtain ⟨k0, k1, k2, k3, k4, k5, kh, kl, ka, kp⟩ := id hH
  have hA1 : gA h (uN (uN a (40 + s) 0) (48 + s) (a (48 + s) + 1)) := gA_cong hH hA (fun j h1 h2 => by rw [uN_n (by omega), uN_n (by omega)])
  refine ⟨?_, hA1⟩
  unfold gSt
  split
  · exact gA_go hH hA1 (by omega) (by omega) (by omega)
  · rename_i e
    have hb := gNx_lt (Nat.zero_le _) e
    refine gA_ent hH hA1 hs hb ?_
    rw [uN_n (by omega), uN_n (by omega)]
    unfold gWhyS at hw
    have ho : gOpen h a (gNx h s 0) = true := by
      cases ho : gOpen h a (gNx h s 0)
      · by_cases e0 : a (8 + s) = 0
        · rw [if_pos e0, if_neg e, if_pos ho] at hw; omega
        · rw [if_neg e0] at hw; omega
      · rfl
    exact (gOpen_t ho).2
theorem gA_ren {h a : zN} {b : Nat} (hH : gH h) (hA : gA h a) (hb : b < h 0) : gA h (gRen a b) := by
  obtain ⟨k0, k1, k2, k3, k4, k5, kh, kl, ka, kp⟩ := id hH
  have l1 := hA.1
  refine ⟨?_, fun b' hb' => ?_, fun k hk => ?_⟩
  · unfold gRen; rw [uN_s]; omega
  · unfold gRen
    rw [uN_n (by omega)]
    by_cases e : b' = b
    · subst e; rw [uN_s]; omega
    · rw [uN_n (by omega)]; exact hA.2.1 b' hb'
  · unfold gAs gRen
    rw [uN_n (by omega), uN_n (by omega), uN_n (by omega), uN_n (by omega), uN_n (by omega), uN_n (by omega), uN_n (by omega), uN_n (by omega)]
    exact hA.2.2 k hk
theorem gA_wk1 {h a : zN} {s b : Nat} (hH : gH h) (hA : gA h a) (hs : s < h 2) (hb : b < h 0) : gA h (gWk1 h a s b) := by
  obtain ⟨k0, k1, k2, k3, k4, k5, kh, kl, ka, kp⟩ := id hH
  have hs8 : s < 8 := by omega
  unfold gWk1
  split
  · split
    · exact gA_go hH hA hs8 (by omega) (by omega)
    · rename_i e
      have hn := gNx_lt (h := h) (s := s) (k := b + 1) (by omega) e
      split
      · split
        · exact gA_go hH hA hs8 (by omega) (by omega)
        · rename_i e3
          have l1 := hA.2.2 s hs8
          refine gA_cong (a := uN a (32 + s) (a (32 + s) + 1)) hH ?_ (fun j h1 h2 => by rw [uN_n (by omega)])
          refine ⟨?_, fun b hb => ?_, fun k hk => ?_⟩
          · rw [uN_n (by omega)]; exact hA.1
          · rw [uN_n (by omega)]; exact hA.2.1 b hb
          · unfold gAs
            rw [uN_n (by omega), uN_n (by omega), uN_n (by omega)]
            by_cases e : k = s
            · subst e
              rw [uN_s]
              obtain ⟨p1, p2, p3, p4, p5, p6⟩ := l1
              exact ⟨p1, p2, p3, p4, by omega, p6⟩
            · rw [uN_n (by omega)]
              exact hA.2.2 k hk
      · rename_i ho
        exact gA_ent hH hA hs hn (gOpen_t (by simpa using ho)).2
  · exact hA
theorem gA_dec {h a : zN} {s : Nat} (hH : gH h) (hA : gA h a) (hs : s < 8) : gA h (uN a (24 + s) (a (24 + s) - 1)) := by
  obtain ⟨k0, k1, k2, k3, k4, k5, kh, kl, ka, kp⟩ := id hH
  refine ⟨?_, fun b hb => ?_, fun k hk => ?_⟩
  · rw [uN_n (by omega)]; exact hA.1
  · rw [uN_n (by omega)]; exact hA.2.1 b hb
  · unfold gAs
    rw [uN_n (by omega), uN_n (by omega), uN_n (show 32 + k ≠ 24 + s by omega)]
    obtain ⟨p1, p2, p3, p4, p5, p6⟩ := hA.2.2 k hk
    refine ⟨p1, p2, p3, ?_, p5, p6⟩
    by_cases e : k = s
    · subst e; rw [uN_s]; omega
    · rw [uN_n (by omega)]; exact p4
theorem gA_wk {h a : zN} {s b : Nat} (hH : gH h) (hA : gA h a) (hs : s < h 2) (hb : b < h 0) : gA h (gWk h a s b) := by
  obtain ⟨k0, k1, k2, k3, k4, k5, kh, kl, ka, kp⟩ := id hH
  unfold gWk
  split
  · exact gA_wk1 hH hA hs hb
  · exact gA_wk1 hH (gA_dec hH hA (by omega)) hs hb
theorem gA_ms {h a : zN} {s b : Nat} (hH : gH h) (hA : gA h a) (hs : s < h 2) (hb : b < h 0) : gA h (gMs h b s a) := by
  unfold gMs
  split
  · exact gA_wk hH hA hs hb
  · exact hA
theorem gA_mb {h a : zN} {b n : Nat} (hH : gH h) (hA : gA h a) (hn : n ≤ h 2) (hb : b < h 0) : gA h (gFo (gMs h b) n a) := gFo_inv (P := gA h) (fun k hk y hy => gA_ms hH hy (by omega) hb) hA
theorem gA_min {h a : zN} (hH : gH h) (hA : gA h a) : gA h (gMin h a) := by
  have := gFd_inv (P := gA h) (f := gMb h) (n := h 0) (x := a) (fun k hk y hy => gA_mb hH hy (Nat.le_refl _) hk) hA
  exact gA_cong hH this (fun j h1 h2 => by unfold gMin; rw [uN_n (by omega)])
theorem gA_pass {h : zN} (hH : gH h) : ∀ {n : Nat} {a : zN}, gA h a → gA h (gPass h n a)
  | 0, _, hA => hA
  | n + 1, _, hA => gA_pass hH (n := n) (gA_min hH hA)
theorem gPass_s {h : zN} : ∀ {n : Nat} {a : zN}, gPass h (n + 1) a = gMin h (gPass h n a)
  | 0, _ => rfl
  | n + 1, a => by
    show gPass h (n + 1) (gMin h a) = _
    rw [gPass_s (n := n)]
    try rfl
theorem gPass_add {h : zN} : ∀ {m n : Nat} {a : zN}, gPass h (m + n) a = gPass h n (gPass h m a)
  | 0, n, a => by rw [Nat.zero_add]; rfl
  | m + 1, n, a => by
    rw [show m + 1 + n = m + n + 1 by omega]
    show gPass h (m + n) (gMin h a) = gPass h n (gPass h m (gMin h a))
    rw [gPass_add]
/-- of other sheets a step changes nothing -/
theorem gWk1_o {h a : zN} {s b k : Nat} (hs : s < 8) (hk : k < 8) (hks : k ≠ s) (hb : b < h 0) (h6 : h 0 ≤ 6) : gWk1 h a s b (16 + k) = a (16 + k) := by
  unfold gWk1
  split
  · split
    · exact gGo_n (by omega) (by omega) (by omega) (by omega)
    · rename_i e
      have hn := gNx_lt (h := h) (s := s) (k := b + 1) (by omega) e
      split
      · split
        · exact gGo_n (by omega) (by omega) (by omega) (by omega)
        · rw [uN_n (by omega), uN_n (by omega)]
      · exact gEnt_n (by omega) (by omega) (by omega) (by omega) (by omega)
  · rfl
theorem gWk_o {h a : zN} {s b k : Nat} (hs : s < 8) (hk : k < 8) (hks : k ≠ s) (hb : b < h 0) (h6 : h 0 ≤ 6) : gWk h a s b (16 + k) = a (16 + k) := by
  unfold gWk
  split
  · exact gWk1_o hs hk hks hb h6
  · rw [gWk1_o hs hk hks hb h6, uN_n (by omega)]
theorem gMb_o {h a : zN} {b k : Nat} (hb : b < h 0) (h6 : h 0 ≤ 6) (hk : k < 8) : ∀ {n : Nat}, n ≤ k → gFo (gMs h b) n a (16 + k) = a (16 + k)
  | 0, _ => rfl
  | n + 1, hn => by
    have ih := gMb_o (a := a) hb h6 hk (n := n) (by omega)
    show gMs h b n (gFo (gMs h b) n a) (16 + k) = _
    unfold gMs
    split
    · rw [gWk_o (by omega) hk (by omega) hb h6]; exact ih
    · exact ih
/-- nothing comes to pass where nobody is -/
theorem gMb_q {h a : zN} {b m : Nat} (hb : b < h 0) (h6 : h 0 ≤ 6) : ∀ {n : Nat}, m ≤ n → n ≤ 8 → (∀ k, m ≤ k → k < n → a (16 + k) ≠ b + 1) → gFo (gMs h b) n a = gFo (gMs h b) m a
  | 0, h1, _, _ => by rw [show m = 0 by omega]
  | n + 1, h1, h2, h3 => by
    by_cases e : m = n + 1
    · rw [e]
    · rw [← gMb_q (m := m) hb h6 (n := n) (by omega) (by omega) (fun k h4 h5 => h3 k h4 (by omega))]
      have hne : gFo (gMs h b) n a (16 + n) ≠ b + 1 := by
        rw [gMb_o hb h6 (by omega) (Nat.le_refl n)]
        exact h3 n (by omega) (by omega)
      show (if gFo (gMs h b) n a (16 + n) = b + 1 then gWk h (gFo (gMs h b) n a) n b else gFo (gMs h b) n a) = _
      exact if_neg hne
