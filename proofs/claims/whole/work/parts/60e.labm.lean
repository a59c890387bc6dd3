/-! THE REFERENCE'S ROOM AND LAB: now stands at 91 -/
theorem m_isIn {n s : Nat} {M : zMem} (hs : s < n) (hn : n < 2 ^ 30) : mf_X12_isIn gR (nI s) (nI 0) (nI n - nI 1) M = some (nI 1, M) := by
  unfold mf_X12_isIn
  simp (disch := omega) only [zlet_ok, zcl_ok, zl_lit, zl_m1, nI_add, zald_nI, nI_ltE, nI_leE, nI_eqE, zm1_lt', zm1_le', zm1_nlt', zm1_nle', zm1_ne, zm1_ne', zm1_add1, gwI, grI_rI, zrI_s, zrI_n, zrI_L, gwL, grL_rL, zrL_s, zrL_n, zrL_I, Nat.zero_add, ↓reduceIte, if_true, if_false, gB_0, gB_1, gB_01, zchk_t, gB_1e, eq_self, gcle, gcnle, gclt, gcnlt, gcne, not_true_eq_false, not_false_eq_true, true_or, or_true, false_or, or_false, true_and, and_true, false_and, and_false, nI_subE]
theorem m_isIn_n {n : Nat} {x : Int32} {M : zMem} (hn : n < 2 ^ 30) (hx : gOut n x) : mf_X12_isIn gR x (nI 0) (nI n - nI 1) M = some (nI 0, M) := by
  unfold mf_X12_isIn
  rcases gcase (n := 2 ^ 30 - 1) (by omega) x with ⟨j, hj, rfl⟩ | e
  · have h2 : n ≤ j := by
      rcases hx with e | e
      · rw [nI_ltI (by omega) (by omega)] at e; omega
      · rw [nI_leI (by omega) (by omega)] at e; omega
    by_cases e : n = 0
    · subst e
      have : nI 0 - nI 1 = zm1 := by decide +kernel
      simp (disch := omega) only [zlet_ok, zcl_ok, zl_lit, zl_m1, nI_add, zald_nI, nI_ltE, nI_leE, nI_eqE, zm1_lt', zm1_le', zm1_nlt', zm1_nle', zm1_ne, zm1_ne', zm1_add1, gwI, grI_rI, zrI_s, zrI_n, zrI_L, gwL, grL_rL, zrL_s, zrL_n, zrL_I, Nat.zero_add, ↓reduceIte, if_true, if_false, gB_0, gB_1, gB_01, zchk_t, gB_1e, eq_self, gcle, gcnle, gclt, gcnlt, gcne, not_true_eq_false, not_false_eq_true, true_or, or_true, false_or, or_false, true_and, and_true, false_and, and_false, this]
    · simp (disch := omega) only [zlet_ok, zcl_ok, zl_lit, zl_m1, nI_add, zald_nI, nI_ltE, nI_leE, nI_eqE, zm1_lt', zm1_le', zm1_nlt', zm1_nle', zm1_ne, zm1_ne', zm1_add1, gwI, grI_rI, zrI_s, zrI_n, zrI_L, gwL, grL_rL, zrL_s, zrL_n, zrL_I, Nat.zero_add, ↓reduceIte, if_true, if_false, gB_0, gB_1, gB_01, zchk_t, gB_1e, eq_self, gcle, gcnle, gclt, gcnlt, gcne, not_true_eq_false, not_false_eq_true, true_or, or_true, false_or, or_false, true_and, and_true, false_and, and_false, nI_subE]
  · rcases e with e | e
    · rw [if_pos (show x < nI 0 from e)]
      simp (disch := omega) only [zlet_ok, zcl_ok, zl_lit, zl_m1, nI_add, zald_nI, nI_ltE, nI_leE, nI_eqE, zm1_lt', zm1_le', zm1_nlt', zm1_nle', zm1_ne, zm1_ne', zm1_add1, gwI, grI_rI, zrI_s, zrI_n, zrI_L, gwL, grL_rL, zrL_s, zrL_n, zrL_I, Nat.zero_add, ↓reduceIte, if_true, if_false, gB_0, gB_1, gB_01, zchk_t, gB_1e, eq_self, gcle, gcnle, gclt, gcnlt, gcne, not_true_eq_false, not_false_eq_true, true_or, or_true, false_or, or_false, true_and, and_true, false_and, and_false]
    · by_cases e0 : x < nI 0
      · rw [if_pos (show x < nI 0 from e0)]
        simp (disch := omega) only [zlet_ok, zcl_ok, zl_lit, zl_m1, nI_add, zald_nI, nI_ltE, nI_leE, nI_eqE, zm1_lt', zm1_le', zm1_nlt', zm1_nle', zm1_ne, zm1_ne', zm1_add1, gwI, grI_rI, zrI_s, zrI_n, zrI_L, gwL, grL_rL, zrL_s, zrL_n, zrL_I, Nat.zero_add, ↓reduceIte, if_true, if_false, gB_0, gB_1, gB_01, zchk_t, gB_1e, eq_self, gcle, gcnle, gclt, gcnlt, gcne, not_true_eq_false, not_false_eq_true, true_or, or_true, false_or, or_false, true_and, and_true, false_and, and_false]
      · rw [if_neg (show ¬ x < nI 0 from e0)]
        have h3 : nI n - nI 1 < x := by
          rw [Int32.le_iff_toInt_le, nI_toInt (by omega)] at e
          by_cases e2 : n = 0
          · subst e2
            rw [show nI 0 - nI 1 = zm1 by decide +kernel, Int32.lt_iff_toInt_lt, zm1_toInt]; omega
          · rw [nI_subE (by omega), Int32.lt_iff_toInt_lt, nI_toInt (by omega)]; omega
        rw [if_pos h3]
        simp (disch := omega) only [zlet_ok, zcl_ok, zl_lit, zl_m1, nI_add, zald_nI, nI_ltE, nI_leE, nI_eqE, zm1_lt', zm1_le', zm1_nlt', zm1_nle', zm1_ne, zm1_ne', zm1_add1, gwI, grI_rI, zrI_s, zrI_n, zrI_L, gwL, grL_rL, zrL_s, zrL_n, zrL_I, Nat.zero_add, ↓reduceIte, if_true, if_false, gB_0, gB_1, gB_01, zchk_t, gB_1e, eq_self, gcle, gcnle, gclt, gcnlt, gcne, not_true_eq_false, not_false_eq_true, true_or, or_true, false_or, or_false, true_and, and_true, false_and, and_false]
theorem m_isSheet {h a : zN} {t : Nat → Int32} {M : zMem} {s : Nat} (hH : gH h) (hs : s < h 2) : mf_X12_isSheet gR 89 (nI s) (zrowI M 91 (encM h a t)) = some (nI 1, zrowI M 91 (encM h a t)) := by
  obtain ⟨k0, k1, k2, k3, k4, k5, kh, kl, ka, kp⟩ := id hH
  unfold mf_X12_isSheet
  simp (disch := omega) only [zlet_ok, zcl_ok, zl_lit, zl_m1, nI_add, zald_nI, nI_ltE, nI_leE, nI_eqE, zm1_lt', zm1_le', zm1_nlt', zm1_nle', zm1_ne, zm1_ne', zm1_add1, gwI, grI_rI, zrI_s, zrI_n, zrI_L, gwL, grL_rL, zrL_s, zrL_n, zrL_I, Nat.zero_add, ↓reduceIte, if_true, if_false, gB_0, gB_1, gB_01, zchk_t, gB_1e, eq_self, gcle, gcnle, gclt, gcnlt, gcne, not_true_eq_false, not_false_eq_true, true_or, or_true, false_or, or_false, true_and, and_true, false_and, and_false, r89_14, eM_h, m_isIn, nI01]
theorem m_isSheet_n {h a : zN} {t : Nat → Int32} {M : zMem} {x : Int32} (hH : gH h) (hx : gOut (h 2) x) : mf_X12_isSheet gR 89 x (zrowI M 91 (encM h a t)) = some (nI 0, zrowI M 91 (encM h a t)) := by
  obtain ⟨k0, k1, k2, k3, k4, k5, kh, kl, ka, kp⟩ := id hH
  unfold mf_X12_isSheet
  simp (disch := omega) only [zlet_ok, zcl_ok, zl_lit, zl_m1, nI_add, zald_nI, nI_ltE, nI_leE, nI_eqE, zm1_lt', zm1_le', zm1_nlt', zm1_nle', zm1_ne, zm1_ne', zm1_add1, gwI, grI_rI, zrI_s, zrI_n, zrI_L, gwL, grL_rL, zrL_s, zrL_n, zrL_I, Nat.zero_add, ↓reduceIte, if_true, if_false, gB_0, gB_1, gB_01, zchk_t, gB_1e, eq_self, gcle, gcnle, gclt, gcnlt, gcne, not_true_eq_false, not_false_eq_true, true_or, or_true, false_or, or_false, true_and, and_true, false_and, and_false, r89_14, eM_h, m_isIn_n (n := h 2) (by omega) hx, nI01]
theorem m_isBath {h a : zN} {t : Nat → Int32} {M : zMem} {b : Nat} (hH : gH h) (hb : b < h 0) : mf_X12_isBath gR 89 (nI b) (zrowI M 91 (encM h a t)) = some (nI 1, zrowI M 91 (encM h a t)) := by
  obtain ⟨k0, k1, k2, k3, k4, k5, kh, kl, ka, kp⟩ := id hH
  unfold mf_X12_isBath
  simp (disch := omega) only [zlet_ok, zcl_ok, zl_lit, zl_m1, nI_add, zald_nI, nI_ltE, nI_leE, nI_eqE, zm1_lt', zm1_le', zm1_nlt', zm1_nle', zm1_ne, zm1_ne', zm1_add1, gwI, grI_rI, zrI_s, zrI_n, zrI_L, gwL, grL_rL, zrL_s, zrL_n, zrL_I, Nat.zero_add, ↓reduceIte, if_true, if_false, gB_0, gB_1, gB_01, zchk_t, gB_1e, eq_self, gcle, gcnle, gclt, gcnlt, gcne, not_true_eq_false, not_false_eq_true, true_or, or_true, false_or, or_false, true_and, and_true, false_and, and_false, r89_14, eM_h, m_isIn, nI01]
theorem m_isBath_n {h a : zN} {t : Nat → Int32} {M : zMem} {x : Int32} (hH : gH h) (hx : gOut (h 0) x) : mf_X12_isBath gR 89 x (zrowI M 91 (encM h a t)) = some (nI 0, zrowI M 91 (encM h a t)) := by
  obtain ⟨k0, k1, k2, k3, k4, k5, kh, kl, ka, kp⟩ := id hH
  unfold mf_X12_isBath
  simp (disch := omega) only [zlet_ok, zcl_ok, zl_lit, zl_m1, nI_add, zald_nI, nI_ltE, nI_leE, nI_eqE, zm1_lt', zm1_le', zm1_nlt', zm1_nle', zm1_ne, zm1_ne', zm1_add1, gwI, grI_rI, zrI_s, zrI_n, zrI_L, gwL, grL_rL, zrL_s, zrL_n, zrL_I, Nat.zero_add, ↓reduceIte, if_true, if_false, gB_0, gB_1, gB_01, zchk_t, gB_1e, eq_self, gcle, gcnle, gclt, gcnlt, gcne, not_true_eq_false, not_false_eq_true, true_or, or_true, false_or, or_false, true_and, and_true, false_and, and_false, r89_14, eM_h, m_isIn_n (n := h 0) (by omega) hx, nI01]
theorem m_isPaper {h a : zN} {t : Nat → Int32} {M : zMem} {p : Nat} (hH : gH h) (hp : p < h 1) : mf_X12_isPaper gR 89 (nI p) (zrowI M 91 (encM h a t)) = some (nI 1, zrowI M 91 (encM h a t)) := by
  obtain ⟨k0, k1, k2, k3, k4, k5, kh, kl, ka, kp⟩ := id hH
  unfold mf_X12_isPaper
  simp (disch := omega) only [zlet_ok, zcl_ok, zl_lit, zl_m1, nI_add, zald_nI, nI_ltE, nI_leE, nI_eqE, zm1_lt', zm1_le', zm1_nlt', zm1_nle', zm1_ne, zm1_ne', zm1_add1, gwI, grI_rI, zrI_s, zrI_n, zrI_L, gwL, grL_rL, zrL_s, zrL_n, zrL_I, Nat.zero_add, ↓reduceIte, if_true, if_false, gB_0, gB_1, gB_01, zchk_t, gB_1e, eq_self, gcle, gcnle, gclt, gcnlt, gcne, not_true_eq_false, not_false_eq_true, true_or, or_true, false_or, or_false, true_and, and_true, false_and, and_false, r89_14, eM_h, m_isIn, nI01]
theorem m_isPaper_n {h a : zN} {t : Nat → Int32} {M : zMem} {x : Int32} (hH : gH h) (hx : gOut (h 1) x) : mf_X12_isPaper gR 89 x (zrowI M 91 (encM h a t)) = some (nI 0, zrowI M 91 (encM h a t)) := by
  obtain ⟨k0, k1, k2, k3, k4, k5, kh, kl, ka, kp⟩ := id hH
  unfold mf_X12_isPaper
  simp (disch := omega) only [zlet_ok, zcl_ok, zl_lit, zl_m1, nI_add, zald_nI, nI_ltE, nI_leE, nI_eqE, zm1_lt', zm1_le', zm1_nlt', zm1_nle', zm1_ne, zm1_ne', zm1_add1, gwI, grI_rI, zrI_s, zrI_n, zrI_L, gwL, grL_rL, zrL_s, zrL_n, zrL_I, Nat.zero_add, ↓reduceIte, if_true, if_false, gB_0, gB_1, gB_01, zchk_t, gB_1e, eq_self, gcle, gcnle, gclt, gcnlt, gcne, not_true_eq_false, not_false_eq_true, true_or, or_true, false_or, or_false, true_and, and_true, false_and, and_false, r89_14, eM_h, m_isIn_n (n := h 1) (by omega) hx, nI01]
theorem m_isWaiting {h a : zN} {t : Nat → Int32} {M : zMem} {s : Nat} (hs : s < 8) (hA : gAs h a s) : mf_X12_isWaiting gR 89 (nI s) (zrowI M 91 (encM h a t)) = some (gB (decide (a (8 + s) = 0)), zrowI M 91 (encM h a t)) := by
  have l1 := hA.1
  unfold mf_X12_isWaiting
  simp (disch := omega) only [zlet_ok, zcl_ok, zl_lit, zl_m1, nI_add, zald_nI, nI_ltE, nI_leE, nI_eqE, zm1_lt', zm1_le', zm1_nlt', zm1_nle', zm1_ne, zm1_ne', zm1_add1, gwI, grI_rI, zrI_s, zrI_n, zrI_L, gwL, grL_rL, zrL_s, zrL_n, zrL_I, Nat.zero_add, ↓reduceIte, if_true, if_false, gB_0, gB_1, gB_01, zchk_t, gB_1e, eq_self, gcle, gcnle, gclt, gcnlt, gcne, not_true_eq_false, not_false_eq_true, true_or, or_true, false_or, or_false, true_and, and_true, false_and, and_false, r89_14, eM_how]
  by_cases e : a (8 + s) = 0
  · rw [if_pos e]; simp [gB, e]
  · rw [if_neg e]; simp [gB, e]
theorem m_isBathed {h a : zN} {t : Nat → Int32} {M : zMem} {s : Nat} (hs : s < 8) (hA : gAs h a s) : mf_X12_isBathed gR 89 (nI s) (zrowI M 91 (encM h a t)) = some (gB (decide (a (8 + s) = 1)), zrowI M 91 (encM h a t)) := by
  have l1 := hA.1
  unfold mf_X12_isBathed
  simp (disch := omega) only [zlet_ok, zcl_ok, zl_lit, zl_m1, nI_add, zald_nI, nI_ltE, nI_leE, nI_eqE, zm1_lt', zm1_le', zm1_nlt', zm1_nle', zm1_ne, zm1_ne', zm1_add1, gwI, grI_rI, zrI_s, zrI_n, zrI_L, gwL, grL_rL, zrL_s, zrL_n, zrL_I, Nat.zero_add, ↓reduceIte, if_true, if_false, gB_0, gB_1, gB_01, zchk_t, gB_1e, eq_self, gcle, gcnle, gclt, gcnlt, gcne, not_true_eq_false, not_false_eq_true, true_or, or_true, false_or, or_false, true_and, and_true, false_and, and_false, r89_14, eM_how]
  by_cases e : a (8 + s) = 1
  · rw [if_pos e]; simp [gB, e]
  · rw [if_neg e]; simp [gB, e]
def gHeld (a : zN) (s : Nat) : Bool := decide (a (8 + s) = 1) && decide (a (24 + s) = 0)
theorem m_isHeld {h a : zN} {t : Nat → Int32} {M : zMem} {s : Nat} (hs : s < 8) (hA : gAs h a s) : mf_X12_isHeld gR 89 (nI s) (zrowI M 91 (encM h a t)) = some (gB (gHeld a s), zrowI M 91 (encM h a t)) := by
  have l1 := hA.2.2.2.1
  unfold mf_X12_isHeld gHeld
  simp (disch := omega) only [zlet_ok, zcl_ok, zl_lit, zl_m1, nI_add, zald_nI, nI_ltE, nI_leE, nI_eqE, zm1_lt', zm1_le', zm1_nlt', zm1_nle', zm1_ne, zm1_ne', zm1_add1, gwI, grI_rI, zrI_s, zrI_n, zrI_L, gwL, grL_rL, zrL_s, zrL_n, zrL_I, Nat.zero_add, ↓reduceIte, if_true, if_false, gB_0, gB_1, gB_01, zchk_t, gB_1e, eq_self, gcle, gcnle, gclt, gcnlt, gcne, not_true_eq_false, not_false_eq_true, true_or, or_true, false_or, or_false, true_and, and_true, false_and, and_false, r89_14, m_isBathed hs hA, eM_left]
  by_cases e : a (8 + s) = 1
  · by_cases e2 : a (24 + s) = 0
    · simp [gB, e, e2]
    · simp [gB, e, e2]
  · simp [gB, e]
theorem m_asked {h a : zN} {t : Nat → Int32} {M : zMem} {p b : Nat} (hp : p < 5) (hb : b < 6) : mf_X12_asked gR 89 (nI p) (nI b) (zrowI M 91 (encM h a t)) = some (nI (h (18 + 6 * p + b)), zrowI M 91 (encM h a t)) := by
  unfold mf_X12_asked
  simp (disch := omega) only [zlet_ok, zcl_ok, zl_lit, zl_m1, nI_add, zald_nI, nI_ltE, nI_leE, nI_eqE, zm1_lt', zm1_le', zm1_nlt', zm1_nle', zm1_ne, zm1_ne', zm1_add1, gwI, grI_rI, zrI_s, zrI_n, zrI_L, gwL, grL_rL, zrL_s, zrL_n, zrL_I, Nat.zero_add, ↓reduceIte, if_true, if_false, gB_0, gB_1, gB_01, zchk_t, gB_1e, eq_self, gcle, gcnle, gclt, gcnlt, gcne, not_true_eq_false, not_false_eq_true, true_or, or_true, false_or, or_false, true_and, and_true, false_and, and_false, r89_14, nI_mulE, eM_h]
theorem m_askedBy {h a : zN} {t : Nat → Int32} {M : zMem} {s b : Nat} (hH : gH h) (hs : s < h 2) (hb : b < h 0) : mf_X12_askedBy gR 89 (nI s) (nI b) (zrowI M 91 (encM h a t)) = some (nI (gAsk h s b), zrowI M 91 (encM h a t)) := by
  obtain ⟨k0, k1, k2, k3, k4, k5, kh, kl, ka, kp⟩ := id hH
  have l1 := kp s hs
  unfold mf_X12_askedBy
  simp (disch := omega) only [zlet_ok, zcl_ok, zl_lit, zl_m1, nI_add, zald_nI, nI_ltE, nI_leE, nI_eqE, zm1_lt', zm1_le', zm1_nlt', zm1_nle', zm1_ne, zm1_ne', zm1_add1, gwI, grI_rI, zrI_s, zrI_n, zrI_L, gwL, grL_rL, zrL_s, zrL_n, zrL_I, Nat.zero_add, ↓reduceIte, if_true, if_false, gB_0, gB_1, gB_01, zchk_t, gB_1e, eq_self, gcle, gcnle, gclt, gcnlt, gcne, not_true_eq_false, not_false_eq_true, true_or, or_true, false_or, or_false, true_and, and_true, false_and, and_false, r89_14, eM_h, m_asked]
  try rfl
theorem m_sheetsIn {h a : zN} {t : Nat → Int32} {M : zMem} {b : Nat} (hH : gH h) (hA : gA h a) (hb : b < 6) : mf_X12_sheetsIn gR 89 (nI b) (zrowI M 91 (encM h a t)) = some (nI (gIn a b), zrowI M 91 (encM h a t)) := by
  obtain ⟨k0, k1, k2, k3, k4, k5, kh, kl, ka, kp⟩ := id hH
  have e0 : gIn a b = gbN (fun s => decide (a (16 + s) = b + 1)) (h 2) := gbN_set k2 (fun k h1 h2 => by
    have := (hA.2.2 k h2).2.2.2.2.2 h1
    simp [this])
  rw [e0]
  unfold mf_X12_sheetsIn
  refine gfor (G := fun f i => mf_X12_sheetsIn_l4 gR 89 f (nI b) (nI (gbN (fun s => decide (a (16 + s) = b + 1)) i)) (nI i) (zrowI M 91 (encM h a t))) (n := h 2) (fun f i hi => ?_) (fun f => ?_) _ (by first | (show _ < 5000; omega) | omega)
  · have l1 := (hA.2.2 i (by omega)).2.1
    by_cases e : a (16 + i) = b + 1
    · simp (disch := omega) only [zlet_ok, zcl_ok, zl_lit, zl_m1, nI_add, zald_nI, nI_ltE, nI_leE, nI_eqE, zm1_lt', zm1_le', zm1_nlt', zm1_nle', zm1_ne, zm1_ne', zm1_add1, gwI, grI_rI, zrI_s, zrI_n, zrI_L, gwL, grL_rL, zrL_s, zrL_n, zrL_I, Nat.zero_add, ↓reduceIte, if_true, if_false, gB_0, gB_1, gB_01, zchk_t, gB_1e, eq_self, gcle, gcnle, gclt, gcnlt, gcne, not_true_eq_false, not_false_eq_true, true_or, or_true, false_or, or_false, true_and, and_true, false_and, and_false, mf_X12_sheetsIn_l4, mf_X12_sheetsIn_b33, r89_14, eM_h, eM_in, enI_eq, gbN, decide_eq_true_eq, e, gbN_or, Nat.add_zero]
    · simp (disch := omega) only [zlet_ok, zcl_ok, zl_lit, zl_m1, nI_add, zald_nI, nI_ltE, nI_leE, nI_eqE, zm1_lt', zm1_le', zm1_nlt', zm1_nle', zm1_ne, zm1_ne', zm1_add1, gwI, grI_rI, zrI_s, zrI_n, zrI_L, gwL, grL_rL, zrL_s, zrL_n, zrL_I, Nat.zero_add, ↓reduceIte, if_true, if_false, gB_0, gB_1, gB_01, zchk_t, gB_1e, eq_self, gcle, gcnle, gclt, gcnlt, gcne, not_true_eq_false, not_false_eq_true, true_or, or_true, false_or, or_false, true_and, and_true, false_and, and_false, mf_X12_sheetsIn_l4, mf_X12_sheetsIn_b33, r89_14, eM_h, eM_in, enI_eq, gbN, decide_eq_true_eq, e, gbN_or, Nat.add_zero]
  · simp (disch := omega) only [zlet_ok, zcl_ok, zl_lit, zl_m1, nI_add, zald_nI, nI_ltE, nI_leE, nI_eqE, zm1_lt', zm1_le', zm1_nlt', zm1_nle', zm1_ne, zm1_ne', zm1_add1, gwI, grI_rI, zrI_s, zrI_n, zrI_L, gwL, grL_rL, zrL_s, zrL_n, zrL_I, Nat.zero_add, ↓reduceIte, if_true, if_false, gB_0, gB_1, gB_01, zchk_t, gB_1e, eq_self, gcle, gcnle, gclt, gcnlt, gcne, not_true_eq_false, not_false_eq_true, true_or, or_true, false_or, or_false, true_and, and_true, false_and, and_false, mf_X12_sheetsIn_l4, r89_14, eM_h, Nat.le_refl]
theorem gpc_step : ∀ x, x < 256 → x ≠ 0 → gpc (x &&& (x - 1)) + 1 = gpc x ∧ (x &&& (x - 1)) < x := by decide +kernel
theorem m_bits {x : Nat} {M : zMem} (hx : x < 256) : mf_X12_bits gR (nI x) M = some (nI (gpc x), M) := by
  have key : ∀ f c x, x < 256 → x < f → c + x < 1000 → mf_X12_bits_l4 gR f (nI c) (nI x) M = some (nI (c + gpc x), M) := by
    intro f
    induction f with
    | zero => intro c x _ h; omega
    | succ f ih =>
      intro c x h1 h2 h3
      by_cases e : x = 0
      · subst e
        simp (disch := omega) only [zlet_ok, zcl_ok, zl_lit, zl_m1, nI_add, zald_nI, nI_ltE, nI_leE, nI_eqE, zm1_lt', zm1_le', zm1_nlt', zm1_nle', zm1_ne, zm1_ne', zm1_add1, gwI, grI_rI, zrI_s, zrI_n, zrI_L, gwL, grL_rL, zrL_s, zrL_n, zrL_I, Nat.zero_add, ↓reduceIte, if_true, if_false, gB_0, gB_1, gB_01, zchk_t, gB_1e, eq_self, gcle, gcnle, gclt, gcnlt, gcne, not_true_eq_false, not_false_eq_true, true_or, or_true, false_or, or_false, true_and, and_true, false_and, and_false, mf_X12_bits_l4]
        try rfl
      · obtain ⟨g1, g2⟩ := gpc_step x h1 e
        simp (disch := omega) only [zlet_ok, zcl_ok, zl_lit, zl_m1, nI_add, zald_nI, nI_ltE, nI_leE, nI_eqE, zm1_lt', zm1_le', zm1_nlt', zm1_nle', zm1_ne, zm1_ne', zm1_add1, gwI, grI_rI, zrI_s, zrI_n, zrI_L, gwL, grL_rL, zrL_s, zrL_n, zrL_I, Nat.zero_add, ↓reduceIte, if_true, if_false, gB_0, gB_1, gB_01, zchk_t, gB_1e, eq_self, gcle, gcnle, gclt, gcnlt, gcne, not_true_eq_false, not_false_eq_true, true_or, or_true, false_or, or_false, true_and, and_true, false_and, and_false, mf_X12_bits_l4, e, nI_subE, nI_and]
        rw [ih (c + 1) _ (by omega) (by omega) (by omega), ← g1]
        congr 3
        omega
  unfold mf_X12_bits
  have := key zF 0 x hx (by show x < 5000; omega) (by omega)
  rw [Nat.zero_add] at this
  exact this
theorem m_isOpen {h a : zN} {t : Nat → Int32} {M : zMem} {b : Nat} (hH : gH h) (hA : gA h a) (hb : b < h 0) : mf_X12_isOpen gR 89 (nI b) (zrowI M 91 (encM h a t)) = some (gB (gOpen h a b), zrowI M 91 (encM h a t)) := by
  obtain ⟨k0, k1, k2, k3, k4, k5, kh, kl, ka, kp⟩ := id hH
  have l1 := gIn_256 a b
  have l2 := gpc_le (gIn a b)
  have l3 := hA.2.1 b hb
  have l4 := kl b hb
  have l5 := kh b hb
  unfold mf_X12_isOpen
  simp (disch := omega) only [zlet_ok, zcl_ok, zl_lit, zl_m1, nI_add, zald_nI, nI_ltE, nI_leE, nI_eqE, zm1_lt', zm1_le', zm1_nlt', zm1_nle', zm1_ne, zm1_ne', zm1_add1, gwI, grI_rI, zrI_s, zrI_n, zrI_L, gwL, grL_rL, zrL_s, zrL_n, zrL_I, Nat.zero_add, ↓reduceIte, if_true, if_false, gB_0, gB_1, gB_01, zchk_t, gB_1e, eq_self, gcle, gcnle, gclt, gcnlt, gcne, not_true_eq_false, not_false_eq_true, true_or, or_true, false_or, or_false, true_and, and_true, false_and, and_false, r89_14, m_sheetsIn hH hA, m_bits, eM_h, eM_had]
  unfold gOpen
  by_cases e1 : gpc (gIn a b) < h (6 + b)
  · by_cases e2 : a (2 + b) < h (12 + b)
    · rw [decide_eq_true e1, decide_eq_true e2, if_neg (Nat.not_le.mpr e1), if_neg (Nat.not_le.mpr e2), Bool.and_self, gB_t]
    · rw [decide_eq_true e1, decide_eq_false e2, if_neg (Nat.not_le.mpr e1), if_pos (Nat.not_lt.mp e2), Bool.and_false, gB_f]
  · rw [decide_eq_false e1, if_pos (Nat.not_lt.mp e1), Bool.false_and, gB_f]
theorem m_nextOf {h a : zN} {t : Nat → Int32} {M : zMem} {s k : Nat} {x : Int32} (hH : gH h) (hs : s < h 2) (hk : k ≤ h 0) (hx : x + nI 1 = nI k) : mf_X12_nextOf gR 89 (nI s) x (zrowI M 91 (encM h a t)) = some (enX (h 0) (gNx h s k), zrowI M 91 (encM h a t)) := by
  obtain ⟨k0, k1, k2, k3, k4, k5, kh, kl, ka, kp⟩ := id hH
  have l1 := gnx_le (s := s) hk
  unfold mf_X12_nextOf
  simp (disch := omega) only [zlet_ok, zcl_ok, zl_lit, zl_m1, nI_add, zald_nI, nI_ltE, nI_leE, nI_eqE, zm1_lt', zm1_le', zm1_nlt', zm1_nle', zm1_ne, zm1_ne', zm1_add1, gwI, grI_rI, zrI_s, zrI_n, zrI_L, gwL, grL_rL, zrL_s, zrL_n, zrL_I, Nat.zero_add, ↓reduceIte, if_true, if_false, gB_0, gB_1, gB_01, zchk_t, gB_1e, eq_self, gcle, gcnle, gclt, gcnlt, gcne, not_true_eq_false, not_false_eq_true, true_or, or_true, false_or, or_false, true_and, and_true, false_and, and_false, hx]
  refine gfor (G := fun f i => mf_X12_nextOf_l4 gR 89 f (nI s) (nI (k + i)) (zrowI M 91 (encM h a t))) (n := gNx h s k - k) (fun f i hi => ?_) (fun f => ?_) _ (by first | (show _ < 5000; omega) | omega)
  · have e1 : gAsk h s (k + i) = 0 := by
      have := gff_n (p := fun b => decide (0 < gAsk h s b)) (n := h 0 - k) (k := k) (k + i) (by omega) (by unfold gNx at hi; omega)
      simp only [decide_eq_false_iff_not] at this
      omega
    simp (disch := omega) only [zlet_ok, zcl_ok, zl_lit, zl_m1, nI_add, zald_nI, nI_ltE, nI_leE, nI_eqE, zm1_lt', zm1_le', zm1_nlt', zm1_nle', zm1_ne, zm1_ne', zm1_add1, gwI, grI_rI, zrI_s, zrI_n, zrI_L, gwL, grL_rL, zrL_s, zrL_n, zrL_I, Nat.zero_add, ↓reduceIte, if_true, if_false, gB_0, gB_1, gB_01, zchk_t, gB_1e, eq_self, gcle, gcnle, gclt, gcnlt, gcne, not_true_eq_false, not_false_eq_true, true_or, or_true, false_or, or_false, true_and, and_true, false_and, and_false, mf_X12_nextOf_l4, r89_14, eM_h, m_askedBy hH hs (show k + i < h 0 by omega), e1, Nat.le_refl, Nat.add_assoc]
  · have e2 : k + (gNx h s k - k) = gNx h s k := by omega
    rw [e2]
    by_cases e : gNx h s k = h 0
    · simp (disch := omega) only [zlet_ok, zcl_ok, zl_lit, zl_m1, nI_add, zald_nI, nI_ltE, nI_leE, nI_eqE, zm1_lt', zm1_le', zm1_nlt', zm1_nle', zm1_ne, zm1_ne', zm1_add1, gwI, grI_rI, zrI_s, zrI_n, zrI_L, gwL, grL_rL, zrL_s, zrL_n, zrL_I, Nat.zero_add, ↓reduceIte, if_true, if_false, gB_0, gB_1, gB_01, zchk_t, gB_1e, eq_self, gcle, gcnle, gclt, gcnlt, gcne, not_true_eq_false, not_false_eq_true, true_or, or_true, false_or, or_false, true_and, and_true, false_and, and_false, mf_X12_nextOf_l4, r89_14, eM_h, e, Nat.le_refl]
      unfold enX; rw [if_pos rfl]
    · have e1 : 0 < gAsk h s (gNx h s k) := gNx_ask hk e
      have e3 : gAsk h s (gNx h s k) ≤ 30 := gask_le hH hs (by omega)
      simp (disch := omega) only [zlet_ok, zcl_ok, zl_lit, zl_m1, nI_add, zald_nI, nI_ltE, nI_leE, nI_eqE, zm1_lt', zm1_le', zm1_nlt', zm1_nle', zm1_ne, zm1_ne', zm1_add1, gwI, grI_rI, zrI_s, zrI_n, zrI_L, gwL, grL_rL, zrL_s, zrL_n, zrL_I, Nat.zero_add, ↓reduceIte, if_true, if_false, gB_0, gB_1, gB_01, zchk_t, gB_1e, eq_self, gcle, gcnle, gclt, gcnlt, gcne, not_true_eq_false, not_false_eq_true, true_or, or_true, false_or, or_false, true_and, and_true, false_and, and_false, mf_X12_nextOf_l4, r89_14, eM_h, m_askedBy hH hs (show gNx h s k < h 0 by omega)]
      rw [enX_ne e]
theorem m_next0 {h a : zN} {t : Nat → Int32} {M : zMem} {s : Nat} (hH : gH h) (hs : s < h 2) : mf_X12_nextOf gR 89 (nI s) zm1 (zrowI M 91 (encM h a t)) = some (enX (h 0) (gNx h s 0), zrowI M 91 (encM h a t)) := m_nextOf hH hs (Nat.zero_le _) zm1_add1
theorem m_nextS {h a : zN} {t : Nat → Int32} {M : zMem} {s b : Nat} (hH : gH h) (hs : s < h 2) (hb : b < h 0) : mf_X12_nextOf gR 89 (nI s) (nI b) (zrowI M 91 (encM h a t)) = some (enX (h 0) (gNx h s (b + 1)), zrowI M 91 (encM h a t)) := m_nextOf hH hs hb (nI_add b 1)
theorem m_goesOut {h a : zN} {t : Nat → Int32} {M : zMem} {s how : Nat} (hs : s < 8) : mf_X12_goesOut gR 89 (nI s) (nI how) (zrowI M 91 (encM h a t)) = some ((), zrowI M 91 (encM h (gGo a s how) t)) := by
  unfold mf_X12_goesOut
  simp (disch := omega) only [zlet_ok, zcl_ok, zl_lit, zl_m1, nI_add, zald_nI, nI_ltE, nI_leE, nI_eqE, zm1_lt', zm1_le', zm1_nlt', zm1_nle', zm1_ne, zm1_ne', zm1_add1, gwI, grI_rI, zrI_s, zrI_n, zrI_L, gwL, grL_rL, zrL_s, zrL_n, zrL_I, Nat.zero_add, ↓reduceIte, if_true, if_false, gB_0, gB_1, gB_01, zchk_t, gB_1e, eq_self, gcle, gcnle, gclt, gcnlt, gcne, not_true_eq_false, not_false_eq_true, true_or, or_true, false_or, or_false, true_and, and_true, false_and, and_false, r89_14, wM_how, wM_out, wM_left, wM_here]
  try rfl
theorem m_comesInto {h a : zN} {t : Nat → Int32} {M : zMem} {s b : Nat} (hH : gH h) (hA : gA h a) (hs : s < h 2) (hb : b < h 0) : mf_X12_comesInto gR 89 (nI s) (nI b) (zrowI M 91 (encM h a t)) = some ((), zrowI M 91 (encM h (gEnt h a s b) t)) := by
  obtain ⟨k0, k1, k2, k3, k4, k5, kh, kl, ka, kp⟩ := id hH
  have hs8 : s < 8 := by omega
  have l2 := hA.2.1 b hb
  have l3 := kl b hb
  unfold mf_X12_comesInto gEnt
  simp (disch := omega) only [zlet_ok, zcl_ok, zl_lit, zl_m1, nI_add, zald_nI, nI_ltE, nI_leE, nI_eqE, zm1_lt', zm1_le', zm1_nlt', zm1_nle', zm1_ne, zm1_ne', zm1_add1, gwI, grI_rI, zrI_s, zrI_n, zrI_L, gwL, grL_rL, zrL_s, zrL_n, zrL_I, Nat.zero_add, ↓reduceIte, if_true, if_false, gB_0, gB_1, gB_01, zchk_t, gB_1e, eq_self, gcle, gcnle, gclt, gcnlt, gcne, not_true_eq_false, not_false_eq_true, true_or, or_true, false_or, or_false, true_and, and_true, false_and, and_false, r89_14, wM_how, wM_into, m_askedBy hH hs hb, eM_had, eM_h, uN_n, nI_mulE]
  by_cases e : 2 * a (2 + b) < h (12 + b)
  · rw [if_pos e, if_pos e]
    simp (disch := omega) only [zlet_ok, zcl_ok, zl_lit, zl_m1, nI_add, zald_nI, nI_ltE, nI_leE, nI_eqE, zm1_lt', zm1_le', zm1_nlt', zm1_nle', zm1_ne, zm1_ne', zm1_add1, gwI, grI_rI, zrI_s, zrI_n, zrI_L, gwL, grL_rL, zrL_s, zrL_n, zrL_I, Nat.zero_add, ↓reduceIte, if_true, if_false, gB_0, gB_1, gB_01, zchk_t, gB_1e, eq_self, gcle, gcnle, gclt, gcnlt, gcne, not_true_eq_false, not_false_eq_true, true_or, or_true, false_or, or_false, true_and, and_true, false_and, and_false, mf_X12_comesInto_b67, r89_14, wM_left, wM_here, eM_had, uN_n, wM_had, Nat.add_zero]
  · rw [if_neg e, if_neg e]
    simp (disch := omega) only [zlet_ok, zcl_ok, zl_lit, zl_m1, nI_add, zald_nI, nI_ltE, nI_leE, nI_eqE, zm1_lt', zm1_le', zm1_nlt', zm1_nle', zm1_ne, zm1_ne', zm1_add1, gwI, grI_rI, zrI_s, zrI_n, zrI_L, gwL, grL_rL, zrL_s, zrL_n, zrL_I, Nat.zero_add, ↓reduceIte, if_true, if_false, gB_0, gB_1, gB_01, zchk_t, gB_1e, eq_self, gcle, gcnle, gclt, gcnlt, gcne, not_true_eq_false, not_false_eq_true, true_or, or_true, false_or, or_false, true_and, and_true, false_and, and_false, mf_X12_comesInto_b67, r89_14, wM_left, wM_here, eM_had, uN_n, wM_had, eM_h]
theorem gNx_lt {h : zN} {s k : Nat} (hk : k ≤ h 0) (e : gNx h s k ≠ h 0) : gNx h s k < h 0 := by
  have := gnx_le (s := s) hk
  omega
theorem m_starts {h a : zN} {t : Nat → Int32} {M : zMem} {s : Nat} (hH : gH h) (hA : gA h (uN (uN a (40 + s) 0) (48 + s) (a (48 + s) + 1))) (hs : s < h 2) : mf_X12_starts gR 89 (nI s) (zrowI M 91 (encM h a t)) = some ((), zrowI M 91 (encM h (gSt h a s) t)) := by
  obtain ⟨k0, k1, k2, k3, k4, k5, kh, kl, ka, kp⟩ := id hH
  have hs8 : s < 8 := by omega
  have l1 := gnx_le (h := h) (s := s) (Nat.zero_le _)
  unfold mf_X12_starts gSt
  simp (disch := omega) only [zlet_ok, zcl_ok, zl_lit, zl_m1, nI_add, zald_nI, nI_ltE, nI_leE, nI_eqE, zm1_lt', zm1_le', zm1_nlt', zm1_nle', zm1_ne, zm1_ne', zm1_add1, gwI, grI_rI, zrI_s, zrI_n, zrI_L, gwL, grL_rL, zrL_s, zrL_n, zrL_I, Nat.zero_add, ↓reduceIte, if_true, if_false, gB_0, gB_1, gB_01, zchk_t, gB_1e, eq_self, gcle, gcnle, gclt, gcnlt, gcne, not_true_eq_false, not_false_eq_true, true_or, or_true, false_or, or_false, true_and, and_true, false_and, and_false, r89_14, wM_over, eM_tries, uN_n, wM_tries, m_next0 hH hs, enX_m1]
  by_cases e : gNx h s 0 = h 0
  · simp (disch := omega) only [zlet_ok, zcl_ok, zl_lit, zl_m1, nI_add, zald_nI, nI_ltE, nI_leE, nI_eqE, zm1_lt', zm1_le', zm1_nlt', zm1_nle', zm1_ne, zm1_ne', zm1_add1, gwI, grI_rI, zrI_s, zrI_n, zrI_L, gwL, grL_rL, zrL_s, zrL_n, zrL_I, Nat.zero_add, ↓reduceIte, if_true, if_false, gB_0, gB_1, gB_01, zchk_t, gB_1e, eq_self, gcle, gcnle, gclt, gcnlt, gcne, not_true_eq_false, not_false_eq_true, true_or, or_true, false_or, or_false, true_and, and_true, false_and, and_false, e, m_goesOut]
  · simp (disch := omega) only [zlet_ok, zcl_ok, zl_lit, zl_m1, nI_add, zald_nI, nI_ltE, nI_leE, nI_eqE, zm1_lt', zm1_le', zm1_nlt', zm1_nle', zm1_ne, zm1_ne', zm1_add1, gwI, grI_rI, zrI_s, zrI_n, zrI_L, gwL, grL_rL, zrL_s, zrL_n, zrL_I, Nat.zero_add, ↓reduceIte, if_true, if_false, gB_0, gB_1, gB_01, zchk_t, gB_1e, eq_self, gcle, gcnle, gclt, gcnlt, gcne, not_true_eq_false, not_false_eq_true, true_or, or_true, false_or, or_false, true_and, and_true, false_and, and_false, e, enX_ne e, m_comesInto hH hA hs (gNx_lt (Nat.zero_le _) e)]
theorem m_whyStart {h a : zN} {t : Nat → Int32} {M : zMem} {s : Nat} (hH : gH h) (hA : gA h a) (hs : s < h 2) : mf_X12_whyStart gR 89 (nI s) (zrowI M 91 (encM h a t)) = some (nI (gWhyS h a s), zrowI M 91 (encM h a t)) := by
  obtain ⟨k0, k1, k2, k3, k4, k5, kh, kl, ka, kp⟩ := id hH
  have hs8 : s < 8 := by omega
  have l1 := gnx_le (h := h) (s := s) (Nat.zero_le _)
  unfold mf_X12_whyStart gWhyS
  by_cases e0 : a (8 + s) = 0
  · simp (disch := omega) only [zlet_ok, zcl_ok, zl_lit, zl_m1, nI_add, zald_nI, nI_ltE, nI_leE, nI_eqE, zm1_lt', zm1_le', zm1_nlt', zm1_nle', zm1_ne, zm1_ne', zm1_add1, gwI, grI_rI, zrI_s, zrI_n, zrI_L, gwL, grL_rL, zrL_s, zrL_n, zrL_I, Nat.zero_add, ↓reduceIte, if_true, if_false, gB_0, gB_1, gB_01, zchk_t, gB_1e, eq_self, gcle, gcnle, gclt, gcnlt, gcne, not_true_eq_false, not_false_eq_true, true_or, or_true, false_or, or_false, true_and, and_true, false_and, and_false, m_isWaiting hs8 (hA.2.2 s hs8), e0, decide_true, Bool.true_eq_false, m_next0 hH hs, enX_m1]
    by_cases e : gNx h s 0 = h 0
    · simp (disch := omega) only [zlet_ok, zcl_ok, zl_lit, zl_m1, nI_add, zald_nI, nI_ltE, nI_leE, nI_eqE, zm1_lt', zm1_le', zm1_nlt', zm1_nle', zm1_ne, zm1_ne', zm1_add1, gwI, grI_rI, zrI_s, zrI_n, zrI_L, gwL, grL_rL, zrL_s, zrL_n, zrL_I, Nat.zero_add, ↓reduceIte, if_true, if_false, gB_0, gB_1, gB_01, zchk_t, gB_1e, eq_self, gcle, gcnle, gclt, gcnlt, gcne, not_true_eq_false, not_false_eq_true, true_or, or_true, false_or, or_false, true_and, and_true, false_and, and_false, e]
    · simp (disch := omega) only [zlet_ok, zcl_ok, zl_lit, zl_m1, nI_add, zald_nI, nI_ltE, nI_leE, nI_eqE, zm1_lt', zm1_le', zm1_nlt', zm1_nle', zm1_ne, zm1_ne', zm1_add1, gwI, grI_rI, zrI_s, zrI_n, zrI_L, gwL, grL_rL, zrL_s, zrL_n, zrL_I, Nat.zero_add, ↓reduceIte, if_true, if_false, gB_0, gB_1, gB_01, zchk_t, gB_1e, eq_self, gcle, gcnle, gclt, gcnlt, gcne, not_true_eq_false, not_false_eq_true, true_or, or_true, false_or, or_false, true_and, and_true, false_and, and_false, e, enX_ne e, m_isOpen hH hA (gNx_lt (Nat.zero_le _) e)]
      cases gOpen h a (gNx h s 0) <;> rfl
  · simp (disch := omega) only [zlet_ok, zcl_ok, zl_lit, zl_m1, nI_add, zald_nI, nI_ltE, nI_leE, nI_eqE, zm1_lt', zm1_le', zm1_nlt', zm1_nle', zm1_ne, zm1_ne', zm1_add1, gwI, grI_rI, zrI_s, zrI_n, zrI_L, gwL, grL_rL, zrL_s, zrL_n, zrL_I, Nat.zero_add, ↓reduceIte, if_true, if_false, gB_0, gB_1, gB_01, zchk_t, gB_1e, eq_self, gcle, gcnle, gclt, gcnlt, gcne, not_true_eq_false, not_false_eq_true, true_or, or_true, false_or, or_false, true_and, and_true, false_and, and_false, m_isWaiting hs8 (hA.2.2 s hs8), e0, decide_false]
theorem m_whyRenew {h a : zN} {t : Nat → Int32} {M : zMem} {b : Nat} (hH : gH h) (hA : gA h a) (hb : b < h 0) : mf_X12_whyRenew gR 89 (nI b) (zrowI M 91 (encM h a t)) = some (nI (gWhyR a b), zrowI M 91 (encM h a t)) := by
  obtain ⟨k0, k1, k2, k3, k4, k5, kh, kl, ka, kp⟩ := id hH
  have l3 := hA.2.1 b hb
  have l4 := kl b hb
  have l5 := hA.1
  have l6 := gIn_256 a b
  unfold mf_X12_whyRenew gWhyR
  simp (disch := omega) only [zlet_ok, zcl_ok, zl_lit, zl_m1, nI_add, zald_nI, nI_ltE, nI_leE, nI_eqE, zm1_lt', zm1_le', zm1_nlt', zm1_nle', zm1_ne, zm1_ne', zm1_add1, gwI, grI_rI, zrI_s, zrI_n, zrI_L, gwL, grL_rL, zrL_s, zrL_n, zrL_I, Nat.zero_add, ↓reduceIte, if_true, if_false, gB_0, gB_1, gB_01, zchk_t, gB_1e, eq_self, gcle, gcnle, gclt, gcnlt, gcne, not_true_eq_false, not_false_eq_true, true_or, or_true, false_or, or_false, true_and, and_true, false_and, and_false, r89_14, eM_had, eM_can, m_sheetsIn hH hA]
  by_cases e0 : a (2 + b) = 0
  · simp only [e0, if_true]
  · by_cases e1 : a 1 = 0
    · simp only [e0, e1, if_true, if_false]
    · by_cases e2 : gIn a b = 0
      · simp only [e0, e1, e2, if_true, if_false]
      · simp only [e0, e1, e2, if_true, if_false]
