/-! MINUTES -/
theorem enI_dec : ∀ {k : Nat}, nI k + zm1 = enI k
  | 0 => by decide +kernel
  | k + 1 => by
    rw [enI_s]
    have : nI (k + 1) + zm1 = nI k + (nI 1 + zm1) := by rw [← nI_add, Int32.add_assoc]
    rw [this, show nI 1 + zm1 = nI 0 by decide +kernel, nI_add, Nat.add_zero]
theorem enI_sub : ∀ {k : Nat}, nI k - nI 1 = enI k
  | 0 => by decide +kernel
  | k + 1 => by rw [enI_s, nI_subE (by omega), Nat.add_sub_cancel]
def gTick (a : zN) : zN := uN a 0 (a 0 + 1)
theorem m_bathes1 {h a : zN} {t : Nat → Int32} {M : zMem} {s b : Nat} (hH : gH h) (hA : gA h a) (hs : s < h 2) (hb : b < h 0) : mf_X12_bathes_b25 gR 89 (nI s) (nI b) (zrowI M 91 (encM h a t)) = some ((), zrowI M 91 (encM h (gWk1 h a s b) t)) := by
  obtain ⟨k0, k1, k2, k3, k4, k5, kh, kl, ka, kp⟩ := id hH
  have hs8 : s < 8 := by omega
  obtain ⟨p1, p2, p3, p4, p5, p6⟩ := hA.2.2 s hs8
  have l1 := gnx_le (h := h) (s := s) (k := b + 1) (by omega)
  unfold mf_X12_bathes_b25 gWk1
  simp (disch := omega) only [zlet_ok, zcl_ok, zl_lit, zl_m1, nI_add, zald_nI, nI_ltE, nI_leE, nI_eqE, zm1_lt', zm1_le', zm1_nlt', zm1_nle', zm1_ne, zm1_ne', zm1_add1, gwI, grI_rI, zrI_s, zrI_n, zrI_L, gwL, grL_rL, zrL_s, zrL_n, zrL_I, Nat.zero_add, ↓reduceIte, if_true, if_false, gB_0, gB_1, gB_01, zchk_t, gB_1e, eq_self, gcle, gcnle, gclt, gcnlt, gcne, not_true_eq_false, not_false_eq_true, true_or, or_true, false_or, or_false, true_and, and_true, false_and, and_false, r89_14, eM_left, Nat.le_zero_eq, m_nextS hH hs hb, enX_m1]
  by_cases e0 : a (24 + s) = 0
  · by_cases e : gNx h s (b + 1) = h 0
    · simp (disch := omega) only [zlet_ok, zcl_ok, zl_lit, zl_m1, nI_add, zald_nI, nI_ltE, nI_leE, nI_eqE, zm1_lt', zm1_le', zm1_nlt', zm1_nle', zm1_ne, zm1_ne', zm1_add1, gwI, grI_rI, zrI_s, zrI_n, zrI_L, gwL, grL_rL, zrL_s, zrL_n, zrL_I, Nat.zero_add, ↓reduceIte, if_true, if_false, gB_0, gB_1, gB_01, zchk_t, gB_1e, eq_self, gcle, gcnle, gclt, gcnlt, gcne, not_true_eq_false, not_false_eq_true, true_or, or_true, false_or, or_false, true_and, and_true, false_and, and_false, e0, e, m_goesOut]
    · have hn := gNx_lt (h := h) (s := s) (k := b + 1) (by omega) e
      cases ho : gOpen h a (gNx h s (b + 1))
      · by_cases e3 : a (32 + s) = h 3
        · simp (disch := omega) only [zlet_ok, zcl_ok, zl_lit, zl_m1, nI_add, zald_nI, nI_ltE, nI_leE, nI_eqE, zm1_lt', zm1_le', zm1_nlt', zm1_nle', zm1_ne, zm1_ne', zm1_add1, gwI, grI_rI, zrI_s, zrI_n, zrI_L, gwL, grL_rL, zrL_s, zrL_n, zrL_I, Nat.zero_add, ↓reduceIte, if_true, if_false, gB_0, gB_1, gB_01, zchk_t, gB_1e, eq_self, gcle, gcnle, gclt, gcnlt, gcne, not_true_eq_false, not_false_eq_true, true_or, or_true, false_or, or_false, true_and, and_true, false_and, and_false, e0, e, enX_ne e, m_isOpen hH hA hn, ho, r89_14, eM_here, eM_h, e3, m_goesOut]
        · simp (disch := omega) only [zlet_ok, zcl_ok, zl_lit, zl_m1, nI_add, zald_nI, nI_ltE, nI_leE, nI_eqE, zm1_lt', zm1_le', zm1_nlt', zm1_nle', zm1_ne, zm1_ne', zm1_add1, gwI, grI_rI, zrI_s, zrI_n, zrI_L, gwL, grL_rL, zrL_s, zrL_n, zrL_I, Nat.zero_add, ↓reduceIte, if_true, if_false, gB_0, gB_1, gB_01, zchk_t, gB_1e, eq_self, gcle, gcnle, gclt, gcnlt, gcne, not_true_eq_false, not_false_eq_true, true_or, or_true, false_or, or_false, true_and, and_true, false_and, and_false, e0, e, enX_ne e, m_isOpen hH hA hn, ho, r89_14, eM_here, eM_h, e3, wM_here, eM_over, uN_n, wM_over]
      · simp (disch := omega) only [zlet_ok, zcl_ok, zl_lit, zl_m1, nI_add, zald_nI, nI_ltE, nI_leE, nI_eqE, zm1_lt', zm1_le', zm1_nlt', zm1_nle', zm1_ne, zm1_ne', zm1_add1, gwI, grI_rI, zrI_s, zrI_n, zrI_L, gwL, grL_rL, zrL_s, zrL_n, zrL_I, Nat.zero_add, ↓reduceIte, if_true, if_false, gB_0, gB_1, gB_01, zchk_t, gB_1e, eq_self, gcle, gcnle, gclt, gcnlt, gcne, not_true_eq_false, not_false_eq_true, true_or, or_true, false_or, or_false, true_and, and_true, false_and, and_false, e0, e, enX_ne e, m_isOpen hH hA hn, ho, Bool.true_eq_false, m_comesInto hH hA hs hn]
  · simp (disch := omega) only [zlet_ok, zcl_ok, zl_lit, zl_m1, nI_add, zald_nI, nI_ltE, nI_leE, nI_eqE, zm1_lt', zm1_le', zm1_nlt', zm1_nle', zm1_ne, zm1_ne', zm1_add1, gwI, grI_rI, zrI_s, zrI_n, zrI_L, gwL, grL_rL, zrL_s, zrL_n, zrL_I, Nat.zero_add, ↓reduceIte, if_true, if_false, gB_0, gB_1, gB_01, zchk_t, gB_1e, eq_self, gcle, gcnle, gclt, gcnlt, gcne, not_true_eq_false, not_false_eq_true, true_or, or_true, false_or, or_false, true_and, and_true, false_and, and_false, e0]
theorem m_bathes {h a : zN} {t : Nat → Int32} {M : zMem} {s b : Nat} (hH : gH h) (hA : gA h a) (hs : s < h 2) (hb : b < h 0) : mf_X12_bathes gR 89 (nI s) (nI b) (zrowI M 91 (encM h a t)) = some ((), zrowI M 91 (encM h (gWk h a s b) t)) := by
  obtain ⟨k0, k1, k2, k3, k4, k5, kh, kl, ka, kp⟩ := id hH
  have hs8 : s < 8 := by omega
  obtain ⟨p1, p2, p3, p4, p5, p6⟩ := hA.2.2 s hs8
  unfold mf_X12_bathes gWk
  simp (disch := omega) only [zlet_ok, zcl_ok, zl_lit, zl_m1, nI_add, zald_nI, nI_ltE, nI_leE, nI_eqE, zm1_lt', zm1_le', zm1_nlt', zm1_nle', zm1_ne, zm1_ne', zm1_add1, gwI, grI_rI, zrI_s, zrI_n, zrI_L, gwL, grL_rL, zrL_s, zrL_n, zrL_I, Nat.zero_add, ↓reduceIte, if_true, if_false, gB_0, gB_1, gB_01, zchk_t, gB_1e, eq_self, gcle, gcnle, gclt, gcnlt, gcne, not_true_eq_false, not_false_eq_true, true_or, or_true, false_or, or_false, true_and, and_true, false_and, and_false, r89_14, eM_left, Nat.le_zero_eq]
  by_cases e0 : a (24 + s) = 0
  · simp (disch := omega) only [zlet_ok, zcl_ok, zl_lit, zl_m1, nI_add, zald_nI, nI_ltE, nI_leE, nI_eqE, zm1_lt', zm1_le', zm1_nlt', zm1_nle', zm1_ne, zm1_ne', zm1_add1, gwI, grI_rI, zrI_s, zrI_n, zrI_L, gwL, grL_rL, zrL_s, zrL_n, zrL_I, Nat.zero_add, ↓reduceIte, if_true, if_false, gB_0, gB_1, gB_01, zchk_t, gB_1e, eq_self, gcle, gcnle, gclt, gcnlt, gcne, not_true_eq_false, not_false_eq_true, true_or, or_true, false_or, or_false, true_and, and_true, false_and, and_false, e0, m_bathes1 hH hA hs hb]
  · simp (disch := omega) only [zlet_ok, zcl_ok, zl_lit, zl_m1, nI_add, zald_nI, nI_ltE, nI_leE, nI_eqE, zm1_lt', zm1_le', zm1_nlt', zm1_nle', zm1_ne, zm1_ne', zm1_add1, gwI, grI_rI, zrI_s, zrI_n, zrI_L, gwL, grL_rL, zrL_s, zrL_n, zrL_I, Nat.zero_add, ↓reduceIte, if_true, if_false, gB_0, gB_1, gB_01, zchk_t, gB_1e, eq_self, gcle, gcnle, gclt, gcnlt, gcne, not_true_eq_false, not_false_eq_true, true_or, or_true, false_or, or_false, true_and, and_true, false_and, and_false, e0, nI_subE, wM_left, m_bathes1 hH (gA_dec hH hA hs8) hs hb]
theorem m_min15 {h a : zN} {t : Nat → Int32} {M : zMem} {b : Nat} {H9 : Int32 → zMem → Option (Unit × zMem)} (hH : gH h) (hA : gA h a) (hb : b < h 0) : mf_X12_oneMinute_l15 gR 89 H9 zF (nI b) (nI 0) (zrowI M 91 (encM h a t)) = H9 (enI b) (zrowI M 91 (encM h (gMb h b a) t)) := by
  obtain ⟨k0, k1, k2, k3, k4, k5, kh, kl, ka, kp⟩ := id hH
  refine gfor (G := fun f i => mf_X12_oneMinute_l15 gR 89 H9 f (nI b) (nI i) (zrowI M 91 (encM h (gFo (gMs h b) i a) t))) (n := h 2) (fun f i hi => ?_) (fun f => ?_) _ (by first | (show _ < 5000; omega) | omega)
  · have hA1 := gA_mb (n := i) hH hA (by omega) hb
    have l1 := (hA1.2.2 i (by omega)).2.1
    rw [show gFo (gMs h b) (i + 1) a = gMs h b i (gFo (gMs h b) i a) from rfl]
    generalize gFo (gMs h b) i a = y at hA1 l1
    unfold gMs
    by_cases e : y (16 + i) = b + 1
    · simp (disch := omega) only [zlet_ok, zcl_ok, zl_lit, zl_m1, nI_add, zald_nI, nI_ltE, nI_leE, nI_eqE, zm1_lt', zm1_le', zm1_nlt', zm1_nle', zm1_ne, zm1_ne', zm1_add1, gwI, grI_rI, zrI_s, zrI_n, zrI_L, gwL, grL_rL, zrL_s, zrL_n, zrL_I, Nat.zero_add, ↓reduceIte, if_true, if_false, gB_0, gB_1, gB_01, zchk_t, gB_1e, eq_self, gcle, gcnle, gclt, gcnlt, gcne, not_true_eq_false, not_false_eq_true, true_or, or_true, false_or, or_false, true_and, and_true, false_and, and_false, mf_X12_oneMinute_l15, mf_X12_oneMinute_b44, r89_14, eM_h, eM_in, enI_eq, e, m_bathes hH hA1 hi hb]
    · simp (disch := omega) only [zlet_ok, zcl_ok, zl_lit, zl_m1, nI_add, zald_nI, nI_ltE, nI_leE, nI_eqE, zm1_lt', zm1_le', zm1_nlt', zm1_nle', zm1_ne, zm1_ne', zm1_add1, gwI, grI_rI, zrI_s, zrI_n, zrI_L, gwL, grL_rL, zrL_s, zrL_n, zrL_I, Nat.zero_add, ↓reduceIte, if_true, if_false, gB_0, gB_1, gB_01, zchk_t, gB_1e, eq_self, gcle, gcnle, gclt, gcnlt, gcne, not_true_eq_false, not_false_eq_true, true_or, or_true, false_or, or_false, true_and, and_true, false_and, and_false, mf_X12_oneMinute_l15, mf_X12_oneMinute_b44, r89_14, eM_h, eM_in, enI_eq, e]
  · simp (disch := omega) only [zlet_ok, zcl_ok, zl_lit, zl_m1, nI_add, zald_nI, nI_ltE, nI_leE, nI_eqE, zm1_lt', zm1_le', zm1_nlt', zm1_nle', zm1_ne, zm1_ne', zm1_add1, gwI, grI_rI, zrI_s, zrI_n, zrI_L, gwL, grL_rL, zrL_s, zrL_n, zrL_I, Nat.zero_add, ↓reduceIte, if_true, if_false, gB_0, gB_1, gB_01, zchk_t, gB_1e, eq_self, gcle, gcnle, gclt, gcnlt, gcne, not_true_eq_false, not_false_eq_true, true_or, or_true, false_or, or_false, true_and, and_true, false_and, and_false, mf_X12_oneMinute_l15, r89_14, eM_h, Nat.le_refl, enI_dec]
    try rfl
theorem m_min9 {h : zN} {t : Nat → Int32} {M : zMem} (hH : gH h) : ∀ (n : Nat) (a : zN) (f : Nat), n ≤ h 0 → gA h a → n < f → mf_X12_oneMinute_l9 gR 89 f (enI n) (zrowI M 91 (encM h a t)) = some ((), zrowI M 91 (encM h (gTick (gFd (gMb h) n a)) t))
  | 0, a, f, hn, hA, hf => by
    match f, hf with
    | f + 1, _ =>
      rw [enI_0]
      simp (disch := omega) only [zlet_ok, zcl_ok, zl_lit, zl_m1, nI_add, zald_nI, nI_ltE, nI_leE, nI_eqE, zm1_lt', zm1_le', zm1_nlt', zm1_nle', zm1_ne, zm1_ne', zm1_add1, gwI, grI_rI, zrI_s, zrI_n, zrI_L, gwL, grL_rL, zrL_s, zrL_n, zrL_I, Nat.zero_add, ↓reduceIte, if_true, if_false, gB_0, gB_1, gB_01, zchk_t, gB_1e, eq_self, gcle, gcnle, gclt, gcnlt, gcne, not_true_eq_false, not_false_eq_true, true_or, or_true, false_or, or_false, true_and, and_true, false_and, and_false, mf_X12_oneMinute_l9, r89_14, eM_min, wM_min]
      try rfl
  | n + 1, a, f, hn, hA, hf => by
    obtain ⟨k0, k1, k2, k3, k4, k5, kh, kl, ka, kp⟩ := id hH
    match f, hf with
    | f + 1, hf =>
      rw [enI_s]
      simp (disch := omega) only [zlet_ok, zcl_ok, zl_lit, zl_m1, nI_add, zald_nI, nI_ltE, nI_leE, nI_eqE, zm1_lt', zm1_le', zm1_nlt', zm1_nle', zm1_ne, zm1_ne', zm1_add1, gwI, grI_rI, zrI_s, zrI_n, zrI_L, gwL, grL_rL, zrL_s, zrL_n, zrL_I, Nat.zero_add, ↓reduceIte, if_true, if_false, gB_0, gB_1, gB_01, zchk_t, gB_1e, eq_self, gcle, gcnle, gclt, gcnlt, gcne, not_true_eq_false, not_false_eq_true, true_or, or_true, false_or, or_false, true_and, and_true, false_and, and_false, mf_X12_oneMinute_l9]
      rw [m_min15 hH hA (by omega), m_min9 hH n (gMb h n a) f (by omega) (gA_mb hH hA (Nat.le_refl _) (by omega)) (by omega)]
      try rfl
theorem m_oneMinute {h a : zN} {t : Nat → Int32} {M : zMem} (hH : gH h) (hA : gA h a) : mf_X12_oneMinute gR 89 (zrowI M 91 (encM h a t)) = some ((), zrowI M 91 (encM h (gMin h a) t)) := by
  obtain ⟨k0, k1, k2, k3, k4, k5, kh, kl, ka, kp⟩ := id hH
  unfold mf_X12_oneMinute
  simp (disch := omega) only [zlet_ok, zcl_ok, zl_lit, zl_m1, nI_add, zald_nI, nI_ltE, nI_leE, nI_eqE, zm1_lt', zm1_le', zm1_nlt', zm1_nle', zm1_ne, zm1_ne', zm1_add1, gwI, grI_rI, zrI_s, zrI_n, zrI_L, gwL, grL_rL, zrL_s, zrL_n, zrL_I, Nat.zero_add, ↓reduceIte, if_true, if_false, gB_0, gB_1, gB_01, zchk_t, gB_1e, eq_self, gcle, gcnle, gclt, gcnlt, gcne, not_true_eq_false, not_false_eq_true, true_or, or_true, false_or, or_false, true_and, and_true, false_and, and_false, r89_14, eM_h, enI_sub]
  exact m_min9 hH (h 0) a zF (Nat.le_refl _) hA (by show _ < 5000; omega)
theorem m_goOn {h a : zN} {t : Nat → Int32} {M : zMem} {n : Nat} (hH : gH h) (hA : gA h a) (hn : n < 4000) : mf_X12_goOn gR 89 (nI n) (zrowI M 91 (encM h a t)) = some ((), zrowI M 91 (encM h (gPass h n a) t)) := by
  unfold mf_X12_goOn
  refine gfor (G := fun f i => mf_X12_goOn_l2 gR 89 f (nI n) (nI i) (zrowI M 91 (encM h (gPass h i a) t))) (n := n) (fun f i hi => ?_) (fun f => ?_) _ (by first | (show _ < 5000; omega) | omega)
  · rw [gPass_s]
    have hA1 := gA_pass hH (n := i) hA
    simp (disch := omega) only [zlet_ok, zcl_ok, zl_lit, zl_m1, nI_add, zald_nI, nI_ltE, nI_leE, nI_eqE, zm1_lt', zm1_le', zm1_nlt', zm1_nle', zm1_ne, zm1_ne', zm1_add1, gwI, grI_rI, zrI_s, zrI_n, zrI_L, gwL, grL_rL, zrL_s, zrL_n, zrL_I, Nat.zero_add, ↓reduceIte, if_true, if_false, gB_0, gB_1, gB_01, zchk_t, gB_1e, eq_self, gcle, gcnle, gclt, gcnlt, gcne, not_true_eq_false, not_false_eq_true, true_or, or_true, false_or, or_false, true_and, and_true, false_and, and_false, mf_X12_goOn_l2, m_oneMinute hH hA1]
    try rw [if_neg (by omega)]
  · simp (disch := omega) only [zlet_ok, zcl_ok, zl_lit, zl_m1, nI_add, zald_nI, nI_ltE, nI_leE, nI_eqE, zm1_lt', zm1_le', zm1_nlt', zm1_nle', zm1_ne, zm1_ne', zm1_add1, gwI, grI_rI, zrI_s, zrI_n, zrI_L, gwL, grL_rL, zrL_s, zrL_n, zrL_I, Nat.zero_add, ↓reduceIte, if_true, if_false, gB_0, gB_1, gB_01, zchk_t, gB_1e, eq_self, gcle, gcnle, gclt, gcnlt, gcne, not_true_eq_false, not_false_eq_true, true_or, or_true, false_or, or_false, true_and, and_true, false_and, and_false, mf_X12_goOn_l2, Nat.le_refl]
/-! the class -/
theorem c_work1 {h a : zN} {z : Nat → Int32} {M : zMem} {a0 c s b : Nat} (hR : gLab a0 c) (hr : gRC h M) (hc : M.1 c = eC a z) (hH : gH h) (hA : gA h a) (hs : s < h 2) (hb : b < h 0) : mf_X3_work_b25 gR a0 (nI s) (nI b) M = some ((), zrowI M c (eC (gWk1 h a s b) z)) := by
  obtain ⟨q0, q1, q2, q3, q4, q5, qh, ql, qp, qa⟩ := id hr
  obtain ⟨k0, k1, k2, k3, k4, k5, kh, kl, ka, kp⟩ := id hH
  obtain ⟨ra, rc, hcl⟩ := id hR
  have hs8 : s < 8 := by omega
  obtain ⟨p1, p2, p3, p4, p5, p6⟩ := hA.2.2 s hs8
  have l1 := gnx_le (h := h) (s := s) (k := b + 1) (by omega)
  have hi : a (16 + s) ≤ 6 := by omega
  have hc' : M.1 c = encC a (gIn a) z := hc
  unfold mf_X3_work_b25 gWk1
  simp (disch := (first | assumption | omega | (refine gRC.row ?_ ?_ <;> first | assumption | omega | (refine gRC.row ?_ ?_ <;> first | assumption | omega)))) only [zlet_ok, zcl_ok, zl_lit, zl_m1, nI_add, zald_nI, nI_ltE, nI_leE, nI_eqE, zm1_lt', zm1_le', zm1_nlt', zm1_nle', zm1_ne, zm1_ne', zm1_add1, gwI, grI_rI, zrI_s, zrI_n, zrI_L, gwL, grL_rL, zrL_s, zrL_n, zrL_I, Nat.zero_add, ↓reduceIte, if_true, if_false, gB_0, gB_1, gB_01, zchk_t, gB_1e, eq_self, gcle, gcnle, gclt, gcnlt, gcne, not_true_eq_false, not_false_eq_true, true_or, or_true, false_or, or_false, true_and, and_true, false_and, and_false, r4_6, r4_7, r4_8, r4_9, r4_10, ra, rc, hc', eC_left, Nat.le_zero_eq, c_afterS hr hH hs hb, enX_m1]
  by_cases e0 : a (24 + s) = 0
  · by_cases e : gNx h s (b + 1) = h 0
    · simp (disch := (first | assumption | omega | (refine gRC.row ?_ ?_ <;> first | assumption | omega | (refine gRC.row ?_ ?_ <;> first | assumption | omega)))) only [zlet_ok, zcl_ok, zl_lit, zl_m1, nI_add, zald_nI, nI_ltE, nI_leE, nI_eqE, zm1_lt', zm1_le', zm1_nlt', zm1_nle', zm1_ne, zm1_ne', zm1_add1, gwI, grI_rI, zrI_s, zrI_n, zrI_L, gwL, grL_rL, zrL_s, zrL_n, zrL_I, Nat.zero_add, ↓reduceIte, if_true, if_false, gB_0, gB_1, gB_01, zchk_t, gB_1e, eq_self, gcle, gcnle, gclt, gcnlt, gcne, not_true_eq_false, not_false_eq_true, true_or, or_true, false_or, or_false, true_and, and_true, false_and, and_false, r4_6, r4_7, r4_8, r4_9, r4_10, e0, e, c_settle hR hc hs8 hi]
    · have hn := gNx_lt (h := h) (s := s) (k := b + 1) (by omega) e
      cases ho : gOpen h a (gNx h s (b + 1))
      · by_cases e3 : a (32 + s) = h 3
        · simp (disch := (first | assumption | omega | (refine gRC.row ?_ ?_ <;> first | assumption | omega | (refine gRC.row ?_ ?_ <;> first | assumption | omega)))) only [zlet_ok, zcl_ok, zl_lit, zl_m1, nI_add, zald_nI, nI_ltE, nI_leE, nI_eqE, zm1_lt', zm1_le', zm1_nlt', zm1_nle', zm1_ne, zm1_ne', zm1_add1, gwI, grI_rI, zrI_s, zrI_n, zrI_L, gwL, grL_rL, zrL_s, zrL_n, zrL_I, Nat.zero_add, ↓reduceIte, if_true, if_false, gB_0, gB_1, gB_01, zchk_t, gB_1e, eq_self, gcle, gcnle, gclt, gcnlt, gcne, not_true_eq_false, not_false_eq_true, true_or, or_true, false_or, or_false, true_and, and_true, false_and, and_false, r4_6, r4_7, r4_8, r4_9, r4_10, e0, e, enX_ne e, c_isOpen hR hr hc hH hA hn, ho, ra, rc, hc', eC_here, q3, e3, c_settle hR hc hs8 hi]
          try rw [if_neg (by omega)]
        · have e4 : gIn (uN (uN a (32 + s) (a (32 + s) + 1)) (40 + s) (a (40 + s) + 1)) = gIn a := by
            funext b
            exact gbN_cong (fun k hk => by rw [uN_n (by omega), uN_n (by omega)])
          simp (disch := (first | assumption | omega | (refine gRC.row ?_ ?_ <;> first | assumption | omega | (refine gRC.row ?_ ?_ <;> first | assumption | omega)))) only [zlet_ok, zcl_ok, zl_lit, zl_m1, nI_add, zald_nI, nI_ltE, nI_leE, nI_eqE, zm1_lt', zm1_le', zm1_nlt', zm1_nle', zm1_ne, zm1_ne', zm1_add1, gwI, grI_rI, zrI_s, zrI_n, zrI_L, gwL, grL_rL, zrL_s, zrL_n, zrL_I, Nat.zero_add, ↓reduceIte, if_true, if_false, gB_0, gB_1, gB_01, zchk_t, gB_1e, eq_self, gcle, gcnle, gclt, gcnlt, gcne, not_true_eq_false, not_false_eq_true, true_or, or_true, false_or, or_false, true_and, and_true, false_and, and_false, r4_6, r4_7, r4_8, r4_9, r4_10, e0, e, enX_ne e, c_isOpen hR hr hc hH hA hn, ho, ra, rc, hc', eC_here, q3, e3, wC_here, eC_over, uN_n, wC_over]
          try rw [if_pos (by omega)]
          unfold eC
          rw [e4]
      · simp (disch := (first | assumption | omega | (refine gRC.row ?_ ?_ <;> first | assumption | omega | (refine gRC.row ?_ ?_ <;> first | assumption | omega)))) only [zlet_ok, zcl_ok, zl_lit, zl_m1, nI_add, zald_nI, nI_ltE, nI_leE, nI_eqE, zm1_lt', zm1_le', zm1_nlt', zm1_nle', zm1_ne, zm1_ne', zm1_add1, gwI, grI_rI, zrI_s, zrI_n, zrI_L, gwL, grL_rL, zrL_s, zrL_n, zrL_I, Nat.zero_add, ↓reduceIte, if_true, if_false, gB_0, gB_1, gB_01, zchk_t, gB_1e, eq_self, gcle, gcnle, gclt, gcnlt, gcne, not_true_eq_false, not_false_eq_true, true_or, or_true, false_or, or_false, true_and, and_true, false_and, and_false, r4_6, r4_7, r4_8, r4_9, r4_10, e0, e, enX_ne e, c_isOpen hR hr hc hH hA hn, ho, Bool.true_eq_false, c_enter hR hr hc hH hA hs hn]
  · simp (disch := (first | assumption | omega | (refine gRC.row ?_ ?_ <;> first | assumption | omega | (refine gRC.row ?_ ?_ <;> first | assumption | omega)))) only [zlet_ok, zcl_ok, zl_lit, zl_m1, nI_add, zald_nI, nI_ltE, nI_leE, nI_eqE, zm1_lt', zm1_le', zm1_nlt', zm1_nle', zm1_ne, zm1_ne', zm1_add1, gwI, grI_rI, zrI_s, zrI_n, zrI_L, gwL, grL_rL, zrL_s, zrL_n, zrL_I, Nat.zero_add, ↓reduceIte, if_true, if_false, gB_0, gB_1, gB_01, zchk_t, gB_1e, eq_self, gcle, gcnle, gclt, gcnlt, gcne, not_true_eq_false, not_false_eq_true, true_or, or_true, false_or, or_false, true_and, and_true, false_and, and_false, r4_6, r4_7, r4_8, r4_9, r4_10, e0]
    rw [grI_id hc]
theorem gIn_dec {a : zN} {s v : Nat} (hs : s < 8) : gIn (uN a (24 + s) v) = gIn a := by
  funext b
  exact gbN_cong (fun k hk => by rw [uN_n (by omega)])
theorem c_work {h a : zN} {z : Nat → Int32} {M : zMem} {a0 c s b : Nat} (hR : gLab a0 c) (hr : gRC h M) (hc : M.1 c = eC a z) (hH : gH h) (hA : gA h a) (hs : s < h 2) (hb : b < h 0) : mf_X3_work gR a0 (nI s) (nI b) M = some ((), zrowI M c (eC (gWk h a s b) z)) := by
  obtain ⟨q0, q1, q2, q3, q4, q5, qh, ql, qp, qa⟩ := id hr
  obtain ⟨k0, k1, k2, k3, k4, k5, kh, kl, ka, kp⟩ := id hH
  obtain ⟨ra, rc, hcl⟩ := id hR
  have hs8 : s < 8 := by omega
  obtain ⟨p1, p2, p3, p4, p5, p6⟩ := hA.2.2 s hs8
  have hc' : M.1 c = encC a (gIn a) z := hc
  unfold mf_X3_work gWk
  simp (disch := (first | assumption | omega | (refine gRC.row ?_ ?_ <;> first | assumption | omega | (refine gRC.row ?_ ?_ <;> first | assumption | omega)))) only [zlet_ok, zcl_ok, zl_lit, zl_m1, nI_add, zald_nI, nI_ltE, nI_leE, nI_eqE, zm1_lt', zm1_le', zm1_nlt', zm1_nle', zm1_ne, zm1_ne', zm1_add1, gwI, grI_rI, zrI_s, zrI_n, zrI_L, gwL, grL_rL, zrL_s, zrL_n, zrL_I, Nat.zero_add, ↓reduceIte, if_true, if_false, gB_0, gB_1, gB_01, zchk_t, gB_1e, eq_self, gcle, gcnle, gclt, gcnlt, gcne, not_true_eq_false, not_false_eq_true, true_or, or_true, false_or, or_false, true_and, and_true, false_and, and_false, r4_6, r4_7, r4_8, r4_9, r4_10, ra, rc, hc', eC_left, Nat.le_zero_eq]
  by_cases e0 : a (24 + s) = 0
  · simp (disch := (first | assumption | omega | (refine gRC.row ?_ ?_ <;> first | assumption | omega | (refine gRC.row ?_ ?_ <;> first | assumption | omega)))) only [zlet_ok, zcl_ok, zl_lit, zl_m1, nI_add, zald_nI, nI_ltE, nI_leE, nI_eqE, zm1_lt', zm1_le', zm1_nlt', zm1_nle', zm1_ne, zm1_ne', zm1_add1, gwI, grI_rI, zrI_s, zrI_n, zrI_L, gwL, grL_rL, zrL_s, zrL_n, zrL_I, Nat.zero_add, ↓reduceIte, if_true, if_false, gB_0, gB_1, gB_01, zchk_t, gB_1e, eq_self, gcle, gcnle, gclt, gcnlt, gcne, not_true_eq_false, not_false_eq_true, true_or, or_true, false_or, or_false, true_and, and_true, false_and, and_false, r4_6, r4_7, r4_8, r4_9, r4_10, e0, c_work1 hR hr hc hH hA hs hb]
  · rw [if_neg e0, if_neg e0]
    simp (disch := (first | assumption | omega | (refine gRC.row ?_ ?_ <;> first | assumption | omega | (refine gRC.row ?_ ?_ <;> first | assumption | omega)))) only [zlet_ok, zcl_ok, zl_lit, zl_m1, nI_add, zald_nI, nI_ltE, nI_leE, nI_eqE, zm1_lt', zm1_le', zm1_nlt', zm1_nle', zm1_ne, zm1_ne', zm1_add1, gwI, grI_rI, zrI_s, zrI_n, zrI_L, gwL, grL_rL, zrL_s, zrL_n, zrL_I, Nat.zero_add, ↓reduceIte, if_true, if_false, gB_0, gB_1, gB_01, zchk_t, gB_1e, eq_self, gcle, gcnle, gclt, gcnlt, gcne, not_true_eq_false, not_false_eq_true, true_or, or_true, false_or, or_false, true_and, and_true, false_and, and_false, r4_6, r4_7, r4_8, r4_9, r4_10, nI_subE, wC_left]
    have e1 : encC (uN a (24 + s) (a (24 + s) - 1)) (gIn a) z = eC (uN a (24 + s) (a (24 + s) - 1)) z := by
      unfold eC
      rw [gIn_dec hs8]
    rw [e1, c_work1 hR (gRC.row hcl hr) zrI_s hH (gA_dec hH hA hs8) hs hb, grI_rI]
theorem c_pass59 {h a : zN} {z : Nat → Int32} {M : zMem} {a0 c b : Nat} {x : Int32} {H2 : Int32 → zMem → Option (Unit × zMem)} {H39 : Int32 → Int32 → zMem → Option (Unit × zMem)} (hR : gLab a0 c) (hr : gRC h M) (hH : gH h) (hA : gA h a) (hb : b < h 0) : mf_X3_pass_l59 gR a0 H2 H39 zF x (nI b) (nI (gIn a b)) (nI 0) (zrowI M c (eC a z)) = H39 x (enI b) (zrowI M c (eC (gMb h b a) z)) := by
  obtain ⟨q0, q1, q2, q3, q4, q5, qh, ql, qp, qa⟩ := id hr
  obtain ⟨k0, k1, k2, k3, k4, k5, kh, kl, ka, kp⟩ := id hH
  obtain ⟨ra, rc, hcl⟩ := id hR
  have l1 := gIn_256 a b
  have lm := gff_le (fun s => decide (gIn a b / 2 ^ s = 0)) (h 2) 0
  have hq : gMb h b a = gFo (gMs h b) (gff (fun s => decide (gIn a b / 2 ^ s = 0)) (h 2) 0) a := by
    refine gMb_q hb k0 (by omega) k2 (fun k h1 h2 hk => ?_)
    have e1 := gff_p (p := fun s => decide (gIn a b / 2 ^ s = 0)) (n := h 2) (k := 0) (by omega)
    have e2 : gIn a b / 2 ^ (gff (fun s => decide (gIn a b / 2 ^ s = 0)) (h 2) 0) = 0 := by simpa using e1
    generalize gff (fun s => decide (gIn a b / 2 ^ s = 0)) (h 2) 0 = m at h1 e2
    have e3 : (gIn a b).testBit k = true := by
      unfold gIn
      rw [gbN_bit]
      simp [hk]
      omega
    have e4 : gIn a b < 2 ^ m := by
      rcases Nat.lt_or_ge (gIn a b) (2 ^ m) with q | q
      · exact q
      · have := Nat.div_pos q (Nat.two_pow_pos m); omega
    have e5 : 2 ^ m ≤ 2 ^ k := Nat.pow_le_pow_right (by decide) h1
    rw [Nat.testBit_lt_two_pow (by omega)] at e3
    cases e3
  rw [hq]
  refine gfor (G := fun f i => mf_X3_pass_l59 gR a0 H2 H39 f x (nI b) (nI (gIn a b)) (nI i) (zrowI M c (eC (gFo (gMs h b) i a) z))) (n := gff (fun s => decide (gIn a b / 2 ^ s = 0)) (h 2) 0) (fun f i hi => ?_) (fun f => ?_) _ (by first | (show _ < 5000; omega) | omega)
  · have e1 := gff_n (p := fun s => decide (gIn a b / 2 ^ s = 0)) (n := h 2) (k := 0) i (by omega) hi
    have e2 : gIn a b / 2 ^ i ≠ 0 := by simpa using e1
    have hA1 := gA_mb (n := i) hH hA (by omega) hb
    have l2 : gIn a b / 2 ^ i ≤ gIn a b := Nat.div_le_self _ _
    have e3 : gFo (gMs h b) i a (16 + i) = a (16 + i) := gMb_o hb k0 (by omega) (Nat.le_refl i)
    have e4 : gIn a b / 2 ^ i % 2 = if decide (a (16 + i) = b + 1) then 1 else 0 := gbN_div (p := fun s => decide (a (16 + s) = b + 1)) (n := 8) (s := i) (by omega)
    rw [show gFo (gMs h b) (i + 1) a = gMs h b i (gFo (gMs h b) i a) from rfl]
    generalize hy : gFo (gMs h b) i a = y at hA1 e3
    unfold gMs
    by_cases e : a (16 + i) = b + 1
    · rw [if_pos (by omega)]
      simp only [e, decide_true, if_true] at e4
      simp (disch := (first | assumption | omega | (refine gRC.row ?_ ?_ <;> first | assumption | omega | (refine gRC.row ?_ ?_ <;> first | assumption | omega)))) only [zlet_ok, zcl_ok, zl_lit, zl_m1, nI_add, zald_nI, nI_ltE, nI_leE, nI_eqE, zm1_lt', zm1_le', zm1_nlt', zm1_nle', zm1_ne, zm1_ne', zm1_add1, gwI, grI_rI, zrI_s, zrI_n, zrI_L, gwL, grL_rL, zrL_s, zrL_n, zrL_I, Nat.zero_add, ↓reduceIte, if_true, if_false, gB_0, gB_1, gB_01, zchk_t, gB_1e, eq_self, gcle, gcnle, gclt, gcnlt, gcne, not_true_eq_false, not_false_eq_true, true_or, or_true, false_or, or_false, true_and, and_true, false_and, and_false, r4_6, r4_7, r4_8, r4_9, r4_10, mf_X3_pass_l59, mf_X3_pass_b97, ra, rc, q2, nI_shr8b i (by omega) _ l1, nI_and, Nat.and_one_is_mod, e2, e4, c_work hR (gRC.row hcl hr) zrI_s hH hA1 (show i < h 2 by omega) hb]
    · rw [if_neg (by omega)]
      simp only [e, decide_false, Bool.false_eq_true, if_false] at e4
      simp (disch := (first | assumption | omega | (refine gRC.row ?_ ?_ <;> first | assumption | omega | (refine gRC.row ?_ ?_ <;> first | assumption | omega)))) only [zlet_ok, zcl_ok, zl_lit, zl_m1, nI_add, zald_nI, nI_ltE, nI_leE, nI_eqE, zm1_lt', zm1_le', zm1_nlt', zm1_nle', zm1_ne, zm1_ne', zm1_add1, gwI, grI_rI, zrI_s, zrI_n, zrI_L, gwL, grL_rL, zrL_s, zrL_n, zrL_I, Nat.zero_add, ↓reduceIte, if_true, if_false, gB_0, gB_1, gB_01, zchk_t, gB_1e, eq_self, gcle, gcnle, gclt, gcnlt, gcne, not_true_eq_false, not_false_eq_true, true_or, or_true, false_or, or_false, true_and, and_true, false_and, and_false, r4_6, r4_7, r4_8, r4_9, r4_10, mf_X3_pass_l59, mf_X3_pass_b97, ra, rc, q2, nI_shr8b i (by omega) _ l1, nI_and, Nat.and_one_is_mod, e2, e4]
      try rw [if_neg (by omega)]
  · by_cases e : gff (fun s => decide (gIn a b / 2 ^ s = 0)) (h 2) 0 = h 2
    · rw [e]
      simp (disch := (first | assumption | omega | (refine gRC.row ?_ ?_ <;> first | assumption | omega | (refine gRC.row ?_ ?_ <;> first | assumption | omega)))) only [zlet_ok, zcl_ok, zl_lit, zl_m1, nI_add, zald_nI, nI_ltE, nI_leE, nI_eqE, zm1_lt', zm1_le', zm1_nlt', zm1_nle', zm1_ne, zm1_ne', zm1_add1, gwI, grI_rI, zrI_s, zrI_n, zrI_L, gwL, grL_rL, zrL_s, zrL_n, zrL_I, Nat.zero_add, ↓reduceIte, if_true, if_false, gB_0, gB_1, gB_01, zchk_t, gB_1e, eq_self, gcle, gcnle, gclt, gcnlt, gcne, not_true_eq_false, not_false_eq_true, true_or, or_true, false_or, or_false, true_and, and_true, false_and, and_false, r4_6, r4_7, r4_8, r4_9, r4_10, mf_X3_pass_l59, mf_X3_pass_b103, ra, q2, Nat.le_refl, enI_dec]
    · have e1 := gff_p (p := fun s => decide (gIn a b / 2 ^ s = 0)) (n := h 2) (k := 0) (by omega)
      have e2 : gIn a b / 2 ^ (gff (fun s => decide (gIn a b / 2 ^ s = 0)) (h 2) 0) = 0 := by simpa using e1
      generalize gff (fun s => decide (gIn a b / 2 ^ s = 0)) (h 2) 0 = m at e e2 lm
      simp (disch := (first | assumption | omega | (refine gRC.row ?_ ?_ <;> first | assumption | omega | (refine gRC.row ?_ ?_ <;> first | assumption | omega)))) only [zlet_ok, zcl_ok, zl_lit, zl_m1, nI_add, zald_nI, nI_ltE, nI_leE, nI_eqE, zm1_lt', zm1_le', zm1_nlt', zm1_nle', zm1_ne, zm1_ne', zm1_add1, gwI, grI_rI, zrI_s, zrI_n, zrI_L, gwL, grL_rL, zrL_s, zrL_n, zrL_I, Nat.zero_add, ↓reduceIte, if_true, if_false, gB_0, gB_1, gB_01, zchk_t, gB_1e, eq_self, gcle, gcnle, gclt, gcnlt, gcne, not_true_eq_false, not_false_eq_true, true_or, or_true, false_or, or_false, true_and, and_true, false_and, and_false, r4_6, r4_7, r4_8, r4_9, r4_10, mf_X3_pass_l59, mf_X3_pass_b103, ra, q2, nI_shr8 m (by omega) _ l1, e2, enI_dec]
      try rw [if_neg (by omega)]
theorem gIn_tick {a : zN} : gIn (gTick a) = gIn a := by
  funext b
  exact gbN_cong (fun k hk => by unfold gTick; rw [uN_n (by omega)])
theorem c_pass39 {h : zN} {z : Nat → Int32} {M : zMem} {a0 c : Nat} {x : Int32} {H2 : Int32 → zMem → Option (Unit × zMem)} (hR : gLab a0 c) (hr : gRC h M) (hH : gH h) : ∀ (n : Nat) (a : zN) (f : Nat), n ≤ h 0 → gA h a → n < f → mf_X3_pass_l39 gR a0 H2 f x (enI n) (zrowI M c (eC a z)) = H2 (x + zm1) (zrowI M c (eC (gTick (gFd (gMb h) n a)) z))
  | 0, a, f, hn, hA, hf => by
    obtain ⟨ra, rc, hcl⟩ := id hR
    match f, hf with
    | f + 1, _ =>
      rw [enI_0]
      simp (disch := (first | assumption | omega | (refine gRC.row ?_ ?_ <;> first | assumption | omega | (refine gRC.row ?_ ?_ <;> first | assumption | omega)))) only [zlet_ok, zcl_ok, zl_lit, zl_m1, nI_add, zald_nI, nI_ltE, nI_leE, nI_eqE, zm1_lt', zm1_le', zm1_nlt', zm1_nle', zm1_ne, zm1_ne', zm1_add1, gwI, grI_rI, zrI_s, zrI_n, zrI_L, gwL, grL_rL, zrL_s, zrL_n, zrL_I, Nat.zero_add, ↓reduceIte, if_true, if_false, gB_0, gB_1, gB_01, zchk_t, gB_1e, eq_self, gcle, gcnle, gclt, gcnlt, gcne, not_true_eq_false, not_false_eq_true, true_or, or_true, false_or, or_false, true_and, and_true, false_and, and_false, r4_6, r4_7, r4_8, r4_9, r4_10, mf_X3_pass_l39, ra, rc, eC, eC_min, wC_min]
      show H2 _ (zrowI M c (encC (gTick a) (gIn a) z)) = H2 _ (zrowI M c (encC (gTick a) (gIn (gTick a)) z))
      rw [gIn_tick]
  | n + 1, a, f, hn, hA, hf => by
    obtain ⟨k0, k1, k2, k3, k4, k5, kh, kl, ka, kp⟩ := id hH
    obtain ⟨ra, rc, hcl⟩ := id hR
    match f, hf with
    | f + 1, hf =>
      rw [enI_s]
      simp (disch := (first | assumption | omega | (refine gRC.row ?_ ?_ <;> first | assumption | omega | (refine gRC.row ?_ ?_ <;> first | assumption | omega)))) only [zlet_ok, zcl_ok, zl_lit, zl_m1, nI_add, zald_nI, nI_ltE, nI_leE, nI_eqE, zm1_lt', zm1_le', zm1_nlt', zm1_nle', zm1_ne, zm1_ne', zm1_add1, gwI, grI_rI, zrI_s, zrI_n, zrI_L, gwL, grL_rL, zrL_s, zrL_n, zrL_I, Nat.zero_add, ↓reduceIte, if_true, if_false, gB_0, gB_1, gB_01, zchk_t, gB_1e, eq_self, gcle, gcnle, gclt, gcnlt, gcne, not_true_eq_false, not_false_eq_true, true_or, or_true, false_or, or_false, true_and, and_true, false_and, and_false, r4_6, r4_7, r4_8, r4_9, r4_10, mf_X3_pass_l39, ra, rc, eC, eC_ins]
      try rw [if_neg (by omega)]
      have := c_pass59 (z := z) (x := x) (H2 := H2) (H39 := mf_X3_pass_l39 gR a0 H2 f) hR hr hH hA (show n < h 0 by omega)
      unfold eC at this
      rw [this]
      exact c_pass39 hR hr hH n (gMb h n a) f (by omega) (gA_mb hH hA (Nat.le_refl _) (by omega)) (by omega)
