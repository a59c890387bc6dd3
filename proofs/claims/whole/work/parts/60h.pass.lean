/-! MINUTES OF THE CLASS: quiet ones at once -/
theorem enI_leE {v l : Nat} (hv : v < 2 ^ 30) (hl : l < 2 ^ 30) : (enI v ≤ enI l) = (v ≤ l) := by
  unfold enI
  by_cases e1 : v = 0
  · rw [if_pos e1]
    by_cases e2 : l = 0
    · rw [if_pos e2]
      refine propext ⟨fun _ => by omega, fun _ => ?_⟩
      rw [Int32.le_iff_toInt_le]
      omega
    · rw [if_neg e2, zm1_le' (by omega)]
      exact propext ⟨fun _ => by omega, fun _ => trivial⟩
  · rw [if_neg e1]
    by_cases e2 : l = 0
    · rw [if_pos e2, zm1_nle' (by omega)]
      exact propext ⟨fun q => q.elim, fun q => by omega⟩
    · rw [if_neg e2, nI_leE (by omega) (by omega)]
      exact propext ⟨fun q => by omega, fun q => by omega⟩
theorem enI_le0 {v : Nat} (hv : v < 2 ^ 30) : (enI v ≤ nI 0) = (v ≤ 1) := by
  rw [← enI_s 0, enI_leE hv (by omega)]
def gQ (a : zN) (s w : Nat) : Nat := if a (8 + s) = 1 then (if w ≤ a (24 + s) then w else a (24 + s)) else w
theorem gQ_le {a : zN} {w : Nat} : ∀ n, gFo (gQ a) n w ≤ w ∧ ∀ s, s < n → a (8 + s) = 1 → gFo (gQ a) n w ≤ a (24 + s)
  | 0 => ⟨Nat.le_refl _, fun s h => by omega⟩
  | n + 1 => by
    obtain ⟨i1, i2⟩ := gQ_le (a := a) (w := w) n
    have key : gFo (gQ a) (n + 1) w ≤ gFo (gQ a) n w ∧ (a (8 + n) = 1 → gFo (gQ a) (n + 1) w ≤ a (24 + n)) := by
      show gQ a n (gFo (gQ a) n w) ≤ _ ∧ _
      show _ ∧ (_ → gQ a n (gFo (gQ a) n w) ≤ _)
      unfold gQ
      refine ⟨?_, fun e => ?_⟩
      · split
        · split <;> omega
        · omega
      · rw [if_pos e]; split <;> omega
    refine ⟨by omega, fun s hs e => ?_⟩
    by_cases q : s = n
    · subst q; exact key.2 e
    · have := i2 s (by omega) e; omega
theorem c_quiet {h a : zN} {z : Nat → Int32} {M : zMem} {a0 c n : Nat} (hR : gLab a0 c) (hr : gRC h M) (hc : M.1 c = eC a z) (hH : gH h) (hA : gA h a) (hn : n < 5000) : mf_X3_quietMinutes gR a0 (nI n) M = some (enI (gFo (gQ a) (h 2) (n + 1)), M) := by
  obtain ⟨q0, q1, q2, q3, q4, q5, qh, ql, qp, qa⟩ := id hr
  obtain ⟨k0, k1, k2, k3, k4, k5, kh, kl, ka, kp⟩ := id hH
  obtain ⟨ra, rc, hcl⟩ := id hR
  have hc' : M.1 c = encC a (gIn a) z := hc
  unfold mf_X3_quietMinutes
  rw [← enI_s n]
  refine gfor (G := fun f i => mf_X3_quietMinutes_l4 gR a0 f (enI (gFo (gQ a) i (n + 1))) (nI i) M) (n := h 2) (fun f i hi => ?_) (fun f => ?_) _ (by first | (show _ < 5000; omega) | omega)
  · obtain ⟨p1, p2, p3, p4, p5, p6⟩ := hA.2.2 i (by omega)
    have l1 := (gQ_le (a := a) (w := n + 1) i).1
    rw [show gFo (gQ a) (i + 1) (n + 1) = gQ a i (gFo (gQ a) i (n + 1)) from rfl]
    generalize gFo (gQ a) i (n + 1) = w at l1
    unfold gQ
    by_cases e : a (8 + i) = 1
    · by_cases e2 : w ≤ a (24 + i)
      · simp (disch := (first | assumption | omega | (refine gRC.row ?_ ?_ <;> first | assumption | omega | (refine gRC.row ?_ ?_ <;> first | assumption | omega)))) only [zlet_ok, zcl_ok, zl_lit, zl_m1, nI_add, zald_nI, nI_ltE, nI_leE, nI_eqE, zm1_lt', zm1_le', zm1_nlt', zm1_nle', zm1_ne, zm1_ne', zm1_add1, gwI, grI_rI, zrI_s, zrI_n, zrI_L, gwL, grL_rL, zrL_s, zrL_n, zrL_I, Nat.zero_add, ↓reduceIte, if_true, if_false, gB_0, gB_1, gB_01, zchk_t, gB_1e, eq_self, gcle, gcnle, gclt, gcnlt, gcne, not_true_eq_false, not_false_eq_true, true_or, or_true, false_or, or_false, true_and, and_true, false_and, and_false, r4_6, r4_7, r4_8, r4_9, r4_10, mf_X3_quietMinutes_l4, mf_X3_quietMinutes_b55, ra, rc, q2, hc', eC_how, e, eC_left, enI_sub, enI_leE, e2]
        try rw [if_neg (by omega)]
      · simp (disch := (first | assumption | omega | (refine gRC.row ?_ ?_ <;> first | assumption | omega | (refine gRC.row ?_ ?_ <;> first | assumption | omega)))) only [zlet_ok, zcl_ok, zl_lit, zl_m1, nI_add, zald_nI, nI_ltE, nI_leE, nI_eqE, zm1_lt', zm1_le', zm1_nlt', zm1_nle', zm1_ne, zm1_ne', zm1_add1, gwI, grI_rI, zrI_s, zrI_n, zrI_L, gwL, grL_rL, zrL_s, zrL_n, zrL_I, Nat.zero_add, ↓reduceIte, if_true, if_false, gB_0, gB_1, gB_01, zchk_t, gB_1e, eq_self, gcle, gcnle, gclt, gcnlt, gcne, not_true_eq_false, not_false_eq_true, true_or, or_true, false_or, or_false, true_and, and_true, false_and, and_false, r4_6, r4_7, r4_8, r4_9, r4_10, mf_X3_quietMinutes_l4, mf_X3_quietMinutes_b55, ra, rc, q2, hc', eC_how, e, eC_left, enI_sub, enI_leE, e2]
        try rw [if_neg (by omega)]
    · simp (disch := (first | assumption | omega | (refine gRC.row ?_ ?_ <;> first | assumption | omega | (refine gRC.row ?_ ?_ <;> first | assumption | omega)))) only [zlet_ok, zcl_ok, zl_lit, zl_m1, nI_add, zald_nI, nI_ltE, nI_leE, nI_eqE, zm1_lt', zm1_le', zm1_nlt', zm1_nle', zm1_ne, zm1_ne', zm1_add1, gwI, grI_rI, zrI_s, zrI_n, zrI_L, gwL, grL_rL, zrL_s, zrL_n, zrL_I, Nat.zero_add, ↓reduceIte, if_true, if_false, gB_0, gB_1, gB_01, zchk_t, gB_1e, eq_self, gcle, gcnle, gclt, gcnlt, gcne, not_true_eq_false, not_false_eq_true, true_or, or_true, false_or, or_false, true_and, and_true, false_and, and_false, r4_6, r4_7, r4_8, r4_9, r4_10, mf_X3_quietMinutes_l4, mf_X3_quietMinutes_b55, ra, rc, q2, hc', eC_how, e]
      try rw [if_neg (by omega)]
  · simp (disch := (first | assumption | omega | (refine gRC.row ?_ ?_ <;> first | assumption | omega | (refine gRC.row ?_ ?_ <;> first | assumption | omega)))) only [zlet_ok, zcl_ok, zl_lit, zl_m1, nI_add, zald_nI, nI_ltE, nI_leE, nI_eqE, zm1_lt', zm1_le', zm1_nlt', zm1_nle', zm1_ne, zm1_ne', zm1_add1, gwI, grI_rI, zrI_s, zrI_n, zrI_L, gwL, grL_rL, zrL_s, zrL_n, zrL_I, Nat.zero_add, ↓reduceIte, if_true, if_false, gB_0, gB_1, gB_01, zchk_t, gB_1e, eq_self, gcle, gcnle, gclt, gcnlt, gcne, not_true_eq_false, not_false_eq_true, true_or, or_true, false_or, or_false, true_and, and_true, false_and, and_false, r4_6, r4_7, r4_8, r4_9, r4_10, mf_X3_quietMinutes_l4, ra, q2, Nat.le_refl]
def gDc (P : Nat → Bool) (q : Nat) (a : zN) : zN := fun j => if 24 ≤ j ∧ j < 32 ∧ P (j - 24) = true then a j - q else a j
theorem gDc_n {P : Nat → Bool} {q j : Nat} {a : zN} (h : j < 24 ∨ 32 ≤ j) : gDc P q a j = a j := by
  unfold gDc; rw [if_neg (by omega)]
theorem gDc_s {P : Nat → Bool} {q s : Nat} {a : zN} (hs : s < 8) : gDc P q a (24 + s) = if P s = true then a (24 + s) - q else a (24 + s) := by
  unfold gDc
  rw [show 24 + s - 24 = s by omega]
  by_cases e : P s = true
  · rw [if_pos ⟨by omega, by omega, e⟩, if_pos e]
  · rw [if_neg (fun q => e q.2.2), if_neg e]
theorem gDc_ext {P : Nat → Bool} {q : Nat} {a b : zN} (h1 : ∀ j, j < 24 ∨ 32 ≤ j → b j = a j) (h2 : ∀ s, s < 8 → b (24 + s) = if P s = true then a (24 + s) - q else a (24 + s)) : b = gDc P q a := by
  funext j
  by_cases e : j < 24 ∨ 32 ≤ j
  · rw [gDc_n e]; exact h1 j e
  · obtain ⟨s, hs⟩ : ∃ s, j = 24 + s := ⟨j - 24, by omega⟩
    subst hs
    rw [gDc_s (by omega)]; exact h2 s (by omega)
def gSk (q s : Nat) (a : zN) : zN := if a (8 + s) = 1 then uN a (24 + s) (a (24 + s) - q) else a
theorem gSk_all {q : Nat} {a : zN} : ∀ {n : Nat}, n ≤ 8 → gFo (gSk q) n a = gDc (fun s => decide (s < n) && decide (a (8 + s) = 1)) q a
  | 0, _ => gDc_ext (fun j _ => rfl) (fun s hs => by simp [gFo])
  | n + 1, hn => by
    show gSk q n (gFo (gSk q) n a) = _
    rw [gSk_all (by omega)]
    unfold gSk
    rw [gDc_n (by omega)]
    by_cases e : a (8 + n) = 1
    · rw [if_pos e]
      refine gDc_ext (fun j hj => ?_) (fun s hs => ?_)
      · rw [uN_n (by omega), gDc_n hj]
      · by_cases q2 : s = n
        · subst q2
          rw [uN_s, gDc_s hs]
          simp [e]
        · rw [uN_n (by omega), gDc_s hs]
          by_cases q3 : s < n
          · simp [q3, show s < n + 1 by omega]
          · simp [q3, show ¬ s < n + 1 by omega]
    · rw [if_neg e]
      refine gDc_ext (fun j hj => gDc_n hj) (fun s hs => ?_)
      rw [gDc_s hs]
      by_cases q2 : s = n
      · subst q2; simp [e]
      · by_cases q3 : s < n
        · simp [q3, show s < n + 1 by omega]
        · simp [q3, show ¬ s < n + 1 by omega]
theorem c_skip {h a : zN} {z : Nat → Int32} {M : zMem} {a0 c q : Nat} (hR : gLab a0 c) (hr : gRC h M) (hH : gH h) (hA : gA h a) (hq : ∀ s, s < h 2 → a (8 + s) = 1 → q ≤ a (24 + s)) : mf_X3_skip gR a0 (nI q) (zrowI M c (eC a z)) = some ((), zrowI M c (eC (uN (gFo (gSk q) (h 2) a) 0 (a 0 + q)) z)) := by
  obtain ⟨q0, q1, q2, q3, q4, q5, qh, ql, qp, qa⟩ := id hr
  obtain ⟨k0, k1, k2, k3, k4, k5, kh, kl, ka, kp⟩ := id hH
  obtain ⟨ra, rc, hcl⟩ := id hR
  have hin : ∀ n, n ≤ 8 → gIn (gFo (gSk q) n a) = gIn a := fun n hn => by
    rw [gSk_all hn]
    funext b
    exact gbN_cong (fun k hk => by rw [gDc_n (by omega)])
  unfold mf_X3_skip
  have e0 : eC a z = encC a (gIn a) z := rfl
  rw [e0]
  refine gfor (G := fun f i => mf_X3_skip_l2 gR a0 f (nI q) (nI i) (zrowI M c (encC (gFo (gSk q) i a) (gIn a) z))) (n := h 2) (fun f i hi => ?_) (fun f => ?_) _ (by first | (show _ < 5000; omega) | omega)
  · obtain ⟨p1, p2, p3, p4, p5, p6⟩ := hA.2.2 i (by omega)
    rw [show gFo (gSk q) (i + 1) a = gSk q i (gFo (gSk q) i a) from rfl]
    have e1 : gFo (gSk q) i a (8 + i) = a (8 + i) := by rw [gSk_all (by omega), gDc_n (by omega)]
    have e2 : gFo (gSk q) i a (24 + i) = a (24 + i) := by rw [gSk_all (by omega), gDc_s (by omega)]; simp
    generalize gFo (gSk q) i a = y at e1 e2
    unfold gSk
    by_cases e : a (8 + i) = 1
    · have := hq i hi e
      simp (disch := (first | assumption | omega | (refine gRC.row ?_ ?_ <;> first | assumption | omega | (refine gRC.row ?_ ?_ <;> first | assumption | omega)))) only [zlet_ok, zcl_ok, zl_lit, zl_m1, nI_add, zald_nI, nI_ltE, nI_leE, nI_eqE, zm1_lt', zm1_le', zm1_nlt', zm1_nle', zm1_ne, zm1_ne', zm1_add1, gwI, grI_rI, zrI_s, zrI_n, zrI_L, gwL, grL_rL, zrL_s, zrL_n, zrL_I, Nat.zero_add, ↓reduceIte, if_true, if_false, gB_0, gB_1, gB_01, zchk_t, gB_1e, eq_self, gcle, gcnle, gclt, gcnlt, gcne, not_true_eq_false, not_false_eq_true, true_or, or_true, false_or, or_false, true_and, and_true, false_and, and_false, r4_6, r4_7, r4_8, r4_9, r4_10, mf_X3_skip_l2, mf_X3_skip_b39, ra, rc, q2, eC_how, e1, e, eC_left, e2, nI_subE, wC_left]
      try rw [if_neg (by omega)]
    · simp (disch := (first | assumption | omega | (refine gRC.row ?_ ?_ <;> first | assumption | omega | (refine gRC.row ?_ ?_ <;> first | assumption | omega)))) only [zlet_ok, zcl_ok, zl_lit, zl_m1, nI_add, zald_nI, nI_ltE, nI_leE, nI_eqE, zm1_lt', zm1_le', zm1_nlt', zm1_nle', zm1_ne, zm1_ne', zm1_add1, gwI, grI_rI, zrI_s, zrI_n, zrI_L, gwL, grL_rL, zrL_s, zrL_n, zrL_I, Nat.zero_add, ↓reduceIte, if_true, if_false, gB_0, gB_1, gB_01, zchk_t, gB_1e, eq_self, gcle, gcnle, gclt, gcnlt, gcne, not_true_eq_false, not_false_eq_true, true_or, or_true, false_or, or_false, true_and, and_true, false_and, and_false, r4_6, r4_7, r4_8, r4_9, r4_10, mf_X3_skip_l2, mf_X3_skip_b39, ra, rc, q2, eC_how, e1, e]
      try rw [if_neg (by omega)]
  · have e1 : gFo (gSk q) (h 2) a 0 = a 0 := by rw [gSk_all (by omega), gDc_n (by omega)]
    simp (disch := (first | assumption | omega | (refine gRC.row ?_ ?_ <;> first | assumption | omega | (refine gRC.row ?_ ?_ <;> first | assumption | omega)))) only [zlet_ok, zcl_ok, zl_lit, zl_m1, nI_add, zald_nI, nI_ltE, nI_leE, nI_eqE, zm1_lt', zm1_le', zm1_nlt', zm1_nle', zm1_ne, zm1_ne', zm1_add1, gwI, grI_rI, zrI_s, zrI_n, zrI_L, gwL, grL_rL, zrL_s, zrL_n, zrL_I, Nat.zero_add, ↓reduceIte, if_true, if_false, gB_0, gB_1, gB_01, zchk_t, gB_1e, eq_self, gcle, gcnle, gclt, gcnlt, gcne, not_true_eq_false, not_false_eq_true, true_or, or_true, false_or, or_false, true_and, and_true, false_and, and_false, r4_6, r4_7, r4_8, r4_9, r4_10, mf_X3_skip_l2, ra, rc, q2, Nat.le_refl, eC_min, e1, wC_min]
    unfold eC
    have e3 : gIn (uN (gFo (gSk q) (h 2) a) 0 (a 0 + q)) = gIn a := by
      rw [← hin (h 2) k2]
      funext b
      exact gbN_cong (fun k hk => by rw [uN_n (by omega)])
    rw [e3]
theorem gMb_dc {h a : zN} {b : Nat} : ∀ {n : Nat}, n ≤ 8 → (∀ s, s < n → a (16 + s) = b + 1 → 2 ≤ a (24 + s)) → gFo (gMs h b) n a = gDc (fun s => decide (s < n) && decide (a (16 + s) = b + 1)) 1 a
  | 0, _, _ => gDc_ext (fun j _ => rfl) (fun s hs => by simp [gFo])
  | n + 1, hn, hl => by
    show gMs h b n (gFo (gMs h b) n a) = _
    rw [gMb_dc (by omega) (fun s hs => hl s (by omega))]
    unfold gMs
    rw [gDc_n (by omega)]
    have e0 : gDc (fun s => decide (s < n) && decide (a (16 + s) = b + 1)) 1 a (24 + n) = a (24 + n) := by rw [gDc_s (by omega)]; simp
    by_cases e : a (16 + n) = b + 1
    · have l1 := hl n (by omega) e
      rw [if_pos e]
      unfold gWk gWk1
      rw [e0, if_neg (by omega), uN_s, if_neg (by omega)]
      refine gDc_ext (fun j hj => ?_) (fun s hs => ?_)
      · rw [uN_n (by omega), gDc_n hj]
      · by_cases q2 : s = n
        · subst q2
          rw [uN_s]
          simp [e]
        · rw [uN_n (by omega), gDc_s hs]
          by_cases q3 : s < n
          · simp [q3, show s < n + 1 by omega]
          · simp [q3, show ¬ s < n + 1 by omega]
    · rw [if_neg e]
      refine gDc_ext (fun j hj => gDc_n hj) (fun s hs => ?_)
      rw [gDc_s hs]
      by_cases q2 : s = n
      · subst q2; simp [e]
      · by_cases q3 : s < n
        · simp [q3, show s < n + 1 by omega]
        · simp [q3, show ¬ s < n + 1 by omega]
theorem gFd_dc {h : zN} (h2 : h 2 ≤ 8) : ∀ {n : Nat} {a : zN}, (∀ s, s < h 2 → 1 ≤ a (16 + s) → a (16 + s) ≤ n → 2 ≤ a (24 + s)) → gFd (gMb h) n a = gDc (fun s => decide (s < h 2) && (decide (1 ≤ a (16 + s)) && decide (a (16 + s) ≤ n))) 1 a
  | 0, a, _ => gDc_ext (fun j _ => rfl) (fun s hs => by
      have : (decide (1 ≤ a (16 + s)) && decide (a (16 + s) ≤ 0)) = false := by simp; omega
      simp only [this, Bool.and_false, Bool.false_eq_true, if_false]; rfl)
  | n + 1, a, hl => by
    show gFd (gMb h) n (gFo (gMs h n) (h 2) a) = _
    rw [gMb_dc h2 (fun s hs e => hl s hs (by omega) (by omega)), gFd_dc h2]
    · refine gDc_ext (fun j hj => by rw [gDc_n hj, gDc_n hj]) (fun s hs => ?_)
      rw [gDc_s hs, gDc_s hs, gDc_n (by omega)]
      by_cases e1 : s < h 2
      · by_cases e2 : a (16 + s) = n + 1
        · have e4 : ¬ n + 1 ≤ n := by omega
          simp [e1, e2, e4]
        · by_cases e3 : a (16 + s) ≤ n
          · simp [e1, e2, e3, show a (16 + s) ≤ n + 1 by omega]
          · simp [e1, e2, e3, show ¬ a (16 + s) ≤ n + 1 by omega]
      · simp [e1]
    · intro s hs e1 e2
      rw [gDc_n (by omega)] at e1 e2
      rw [gDc_s (by omega)]
      have := hl s hs e1 (by omega)
      simp [show ¬ a (16 + s) = n + 1 by omega]
      exact this
theorem gPass_q {h : zN} (hH : gH h) : ∀ {q : Nat} {a : zN}, gA h a → (∀ s, s < h 2 → a (8 + s) = 1 → q < a (24 + s)) → gPass h q a = uN (gFo (gSk q) (h 2) a) 0 (a 0 + q)
  | 0, a, hA, _ => by
    obtain ⟨k0, k1, k2, k3, k4, k5, kh, kl, ka, kp⟩ := id hH
    rw [gSk_all k2]
    funext j
    show a j = _
    unfold uN gDc
    split
    · rename_i e; rw [e]; omega
    · split <;> omega
  | q + 1, a, hA, hl => by
    obtain ⟨k0, k1, k2, k3, k4, k5, kh, kl, ka, kp⟩ := id hH
    have e1 : gFd (gMb h) (h 0) a = gDc (fun s => decide (s < h 2) && decide (a (8 + s) = 1)) 1 a := by
      rw [gFd_dc k2 (fun s hs p1 p2 => by
        have := hl s hs ((hA.2.2 s (by omega)).2.2.1.mpr (by omega)); omega)]
      congr 1
      funext s
      by_cases e : s < h 2
      · obtain ⟨p1, p2, p3, p4, p5, p6⟩ := hA.2.2 s (by omega)
        by_cases e2 : a (8 + s) = 1
        · have := p3.mp e2
          simp [e, e2, show 1 ≤ a (16 + s) by omega, p2]
        · have : ¬ a (16 + s) ≠ 0 := fun z => e2 (p3.mpr z)
          simp [e, e2, show ¬ 1 ≤ a (16 + s) by omega]
      · simp [e]
    have hA1 := gA_min hH hA
    show gPass h q (gMin h a) = _
    have e2 : ∀ j, j < 24 ∨ 32 ≤ j → j ≠ 0 → gMin h a j = a j := fun j hj h0 => by
      unfold gMin
      rw [uN_n h0, e1, gDc_n hj]
    have e3 : ∀ s, s < 8 → gMin h a (24 + s) = if (decide (s < h 2) && decide (a (8 + s) = 1)) = true then a (24 + s) - 1 else a (24 + s) := fun s hs => by
      unfold gMin
      rw [uN_n (by omega), e1, gDc_s hs]
    have e4 : gMin h a 0 = a 0 + 1 := by
      unfold gMin
      rw [uN_s, e1, gDc_n (by omega)]
    rw [gPass_q hH hA1 (fun s hs e => by
      rw [e2 _ (by omega) (by omega)] at e
      have := hl s hs e
      rw [e3 s (by omega)]
      simp [hs, e]
      omega)]
    rw [gSk_all k2, gSk_all k2]
    funext j
    by_cases j0 : j = 0
    · subst j0
      rw [uN_s, uN_s, e4]; omega
    · rw [uN_n j0, uN_n j0]
      by_cases hj : j < 24 ∨ 32 ≤ j
      · rw [gDc_n hj, gDc_n hj, e2 j hj j0]
      · obtain ⟨s, rfl⟩ : ∃ s, j = 24 + s := ⟨j - 24, by omega⟩
        rw [gDc_s (by omega), gDc_s (by omega), e3 s (by omega), e2 (8 + s) (by omega) (by omega)]
        split <;> omega
theorem c_pass {h : zN} {z : Nat → Int32} {M : zMem} {a0 c : Nat} (hR : gLab a0 c) (hr : gRC h M) (hH : gH h) : ∀ (f n : Nat) (a : zN), n < f → n < 4000 → gA h a → mf_X3_pass_l2 gR a0 f (nI n) (zrowI M c (eC a z)) = some ((), zrowI M c (eC (gPass h n a) z))
  | 0, n, a, hf, _, _ => by omega
  | f + 1, n, a, hf, hn, hA => by
    obtain ⟨q0, q1, q2, q3, q4, q5, qh, ql, qp, qa⟩ := id hr
    obtain ⟨k0, k1, k2, k3, k4, k5, kh, kl, ka, kp⟩ := id hH
    obtain ⟨ra, rc, hcl⟩ := id hR
    by_cases e0 : n = 0
    · subst e0
      simp (disch := omega) only [zlet_ok, zcl_ok, zl_lit, zl_m1, nI_add, zald_nI, nI_ltE, nI_leE, nI_eqE, zm1_lt', zm1_le', zm1_nlt', zm1_nle', zm1_ne, zm1_ne', zm1_add1, gwI, grI_rI, zrI_s, zrI_n, zrI_L, gwL, grL_rL, zrL_s, zrL_n, zrL_I, Nat.zero_add, ↓reduceIte, if_true, if_false, gB_0, gB_1, gB_01, zchk_t, gB_1e, eq_self, gcle, gcnle, gclt, gcnlt, gcne, not_true_eq_false, not_false_eq_true, true_or, or_true, false_or, or_false, true_and, and_true, false_and, and_false, mf_X3_pass_l2, Nat.le_refl]
      try rfl
    · have l1 := gQ_le (a := a) (w := n + 1) (h 2)
      have hr1 : gRC h (zrowI M c (eC a z)) := gRC.row hcl hr
      simp (disch := (first | assumption | omega | (refine gRC.row ?_ ?_ <;> first | assumption | omega | (refine gRC.row ?_ ?_ <;> first | assumption | omega)))) only [zlet_ok, zcl_ok, zl_lit, zl_m1, nI_add, zald_nI, nI_ltE, nI_leE, nI_eqE, zm1_lt', zm1_le', zm1_nlt', zm1_nle', zm1_ne, zm1_ne', zm1_add1, gwI, grI_rI, zrI_s, zrI_n, zrI_L, gwL, grL_rL, zrL_s, zrL_n, zrL_I, Nat.zero_add, ↓reduceIte, if_true, if_false, gB_0, gB_1, gB_01, zchk_t, gB_1e, eq_self, gcle, gcnle, gclt, gcnlt, gcne, not_true_eq_false, not_false_eq_true, true_or, or_true, false_or, or_false, true_and, and_true, false_and, and_false, r4_6, r4_7, r4_8, r4_9, r4_10, mf_X3_pass_l2, c_quiet hR hr1 zrI_s hH hA (show n < 5000 by omega), enI_le0, ra, q0, enI_sub]
      try rw [if_neg (by omega)]
      generalize gFo (gQ a) (h 2) (n + 1) = w at l1
      by_cases e1 : w ≤ 1
      · rw [if_pos e1, c_pass39 hR hr hH (h 0) a zF (Nat.le_refl _) hA (by show _ < 5000; omega), enI_dec]
        obtain ⟨m, rfl⟩ : ∃ m, n = m + 1 := ⟨n - 1, by omega⟩
        rw [enI_s]
        exact c_pass hR hr hH f m (gMin h a) (by omega) (by omega) (gA_min hH hA)
      · rw [if_neg e1]
        obtain ⟨q, rfl⟩ : ∃ q, w = q + 1 := ⟨w - 1, by omega⟩
        rw [enI_s]
        have hl : ∀ s, s < h 2 → a (8 + s) = 1 → q < a (24 + s) := fun s hs e => by have := l1.2 s hs e; omega
        simp (disch := omega) only [zlet_ok, zcl_ok, zl_lit, zl_m1, nI_add, zald_nI, nI_ltE, nI_leE, nI_eqE, zm1_lt', zm1_le', zm1_nlt', zm1_nle', zm1_ne, zm1_ne', zm1_add1, gwI, grI_rI, zrI_s, zrI_n, zrI_L, gwL, grL_rL, zrL_s, zrL_n, zrL_I, Nat.zero_add, ↓reduceIte, if_true, if_false, gB_0, gB_1, gB_01, zchk_t, gB_1e, eq_self, gcle, gcnle, gclt, gcnlt, gcne, not_true_eq_false, not_false_eq_true, true_or, or_true, false_or, or_false, true_and, and_true, false_and, and_false, c_skip (z := z) hR hr hH hA (fun s hs e => Nat.le_of_lt (hl s hs e)), nI_subE]
        rw [← gPass_q hH hA hl, c_pass hR hr hH f (n - q) (gPass h q a) (by omega) (by omega) (gA_pass hH hA), ← gPass_add, show q + (n - q) = n by omega]
theorem c_passes {h a : zN} {z : Nat → Int32} {M : zMem} {a0 c n : Nat} (hR : gLab a0 c) (hr : gRC h M) (hH : gH h) (hA : gA h a) (hn : n < 4000) : mf_X3_pass gR a0 (nI n) (zrowI M c (eC a z)) = some ((), zrowI M c (eC (gPass h n a) z)) := c_pass hR hr hH zF n a (by show _ < 5000; omega) hn hA
