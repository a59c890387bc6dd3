/-! ANSWERS OUT OF A ROOM AND ITS LAB -/
theorem m_nowHeld {h a : zN} {t : Nat → Int32} {M : zMem} (hH : gH h) (hA : gA h a) : mf_X12_now_l74 gR 89 zF (nI 0) (nI 0) (zrowI M 91 (encM h a t)) = some (nI (gHd h a), zrowI M 91 (encM h a t)) := by
  obtain ⟨k0, k1, k2, k3, k4, k5, kh, kl, ka, kp⟩ := id hH
  unfold gHd
  refine gfor (G := fun f i => mf_X12_now_l74 gR 89 f (nI (gbN (gHeld a) i)) (nI i) (zrowI M 91 (encM h a t))) (n := h 2) (fun f i hi => ?_) (fun f => ?_) _ (by first | (show _ < 5000; omega) | omega)
  · have hA1 := hA.2.2 i (by omega)
    cases e : gHeld a i
    · simp (disch := omega) only [zlet_ok, zcl_ok, zl_lit, zl_m1, nI_add, zald_nI, nI_ltE, nI_leE, nI_eqE, zm1_lt', zm1_le', zm1_nlt', zm1_nle', zm1_ne, zm1_ne', zm1_add1, gwI, grI_rI, zrI_s, zrI_n, zrI_L, gwL, grL_rL, zrL_s, zrL_n, zrL_I, Nat.zero_add, ↓reduceIte, if_true, if_false, gB_0, gB_1, gB_01, zchk_t, gB_1e, eq_self, gcle, gcnle, gclt, gcnlt, gcne, not_true_eq_false, not_false_eq_true, true_or, or_true, false_or, or_false, true_and, and_true, false_and, and_false, mf_X12_now_l74, mf_X12_now_b98, r89_14, eM_h, m_isHeld (show i < 8 by omega) hA1, gbN, e, Bool.false_eq_true, Nat.add_zero]
      try rw [if_neg (by omega)]
    · simp (disch := omega) only [zlet_ok, zcl_ok, zl_lit, zl_m1, nI_add, zald_nI, nI_ltE, nI_leE, nI_eqE, zm1_lt', zm1_le', zm1_nlt', zm1_nle', zm1_ne, zm1_ne', zm1_add1, gwI, grI_rI, zrI_s, zrI_n, zrI_L, gwL, grL_rL, zrL_s, zrL_n, zrL_I, Nat.zero_add, ↓reduceIte, if_true, if_false, gB_0, gB_1, gB_01, zchk_t, gB_1e, eq_self, gcle, gcnle, gclt, gcnlt, gcne, not_true_eq_false, not_false_eq_true, true_or, or_true, false_or, or_false, true_and, and_true, false_and, and_false, mf_X12_now_l74, mf_X12_now_b98, r89_14, eM_h, m_isHeld (show i < 8 by omega) hA1, gbN, e, Bool.true_eq_false, gbN_or]
      try rw [if_neg (by omega)]
  · simp (disch := omega) only [zlet_ok, zcl_ok, zl_lit, zl_m1, nI_add, zald_nI, nI_ltE, nI_leE, nI_eqE, zm1_lt', zm1_le', zm1_nlt', zm1_nle', zm1_ne, zm1_ne', zm1_add1, gwI, grI_rI, zrI_s, zrI_n, zrI_L, gwL, grL_rL, zrL_s, zrL_n, zrL_I, Nat.zero_add, ↓reduceIte, if_true, if_false, gB_0, gB_1, gB_01, zchk_t, gB_1e, eq_self, gcle, gcnle, gclt, gcnlt, gcne, not_true_eq_false, not_false_eq_true, true_or, or_true, false_or, or_false, true_and, and_true, false_and, and_false, mf_X12_now_l74, r89_14, eM_h, Nat.le_refl]
theorem m_nowOpen {h a : zN} {t : Nat → Int32} {M : zMem} (hH : gH h) (hA : gA h a) : mf_X12_now_l108 gR 89 zF (nI 0) (nI 0) (zrowI M 91 (encM h a t)) = some (nI (gOp h a), zrowI M 91 (encM h a t)) := by
  obtain ⟨k0, k1, k2, k3, k4, k5, kh, kl, ka, kp⟩ := id hH
  unfold gOp
  refine gfor (G := fun f i => mf_X12_now_l108 gR 89 f (nI (gbN (gOpen h a) i)) (nI i) (zrowI M 91 (encM h a t))) (n := h 0) (fun f i hi => ?_) (fun f => ?_) _ (by first | (show _ < 5000; omega) | omega)
  · cases e : gOpen h a i
    · simp (disch := omega) only [zlet_ok, zcl_ok, zl_lit, zl_m1, nI_add, zald_nI, nI_ltE, nI_leE, nI_eqE, zm1_lt', zm1_le', zm1_nlt', zm1_nle', zm1_ne, zm1_ne', zm1_add1, gwI, grI_rI, zrI_s, zrI_n, zrI_L, gwL, grL_rL, zrL_s, zrL_n, zrL_I, Nat.zero_add, ↓reduceIte, if_true, if_false, gB_0, gB_1, gB_01, zchk_t, gB_1e, eq_self, gcle, gcnle, gclt, gcnlt, gcne, not_true_eq_false, not_false_eq_true, true_or, or_true, false_or, or_false, true_and, and_true, false_and, and_false, mf_X12_now_l108, mf_X12_now_b132, r89_14, eM_h, m_isOpen hH hA hi, gbN, e, Bool.false_eq_true, Nat.add_zero]
      try rw [if_neg (by omega)]
    · simp (disch := omega) only [zlet_ok, zcl_ok, zl_lit, zl_m1, nI_add, zald_nI, nI_ltE, nI_leE, nI_eqE, zm1_lt', zm1_le', zm1_nlt', zm1_nle', zm1_ne, zm1_ne', zm1_add1, gwI, grI_rI, zrI_s, zrI_n, zrI_L, gwL, grL_rL, zrL_s, zrL_n, zrL_I, Nat.zero_add, ↓reduceIte, if_true, if_false, gB_0, gB_1, gB_01, zchk_t, gB_1e, eq_self, gcle, gcnle, gclt, gcnlt, gcne, not_true_eq_false, not_false_eq_true, true_or, or_true, false_or, or_false, true_and, and_true, false_and, and_false, mf_X12_now_l108, mf_X12_now_b132, r89_14, eM_h, m_isOpen hH hA hi, gbN, e, Bool.true_eq_false, gbN_or]
      try rw [if_neg (by omega)]
  · simp (disch := omega) only [zlet_ok, zcl_ok, zl_lit, zl_m1, nI_add, zald_nI, nI_ltE, nI_leE, nI_eqE, zm1_lt', zm1_le', zm1_nlt', zm1_nle', zm1_ne, zm1_ne', zm1_add1, gwI, grI_rI, zrI_s, zrI_n, zrI_L, gwL, grL_rL, zrL_s, zrL_n, zrL_I, Nat.zero_add, ↓reduceIte, if_true, if_false, gB_0, gB_1, gB_01, zchk_t, gB_1e, eq_self, gcle, gcnle, gclt, gcnlt, gcne, not_true_eq_false, not_false_eq_true, true_or, or_true, false_or, or_false, true_and, and_true, false_and, and_false, mf_X12_now_l108, r89_14, eM_h, Nat.le_refl]
/-- who is yet to come into a bath -/
def gCm (h a : zN) (b s : Nat) : Nat := if (a (8 + s) = 0 ∨ a (8 + s) = 1 ∧ a (16 + s) ≤ b) ∧ 0 < gAsk h s b then 1 else 0
def gNeed (h a : zN) (b : Nat) : Nat := if a (2 + b) + gsm (gCm h a b) (h 2) ≤ h (12 + b) then 0 else (a (2 + b) + gsm (gCm h a b) (h 2) - h (12 + b) + h (12 + b) - 1) / h (12 + b)
theorem c_need {h a : zN} {z : Nat → Int32} {M : zMem} {a0 c b : Nat} (hR : gLab a0 c) (hr : gRC h M) (hc : M.1 c = eC a z) (hH : gH h) (hA : gA h a) (hb : b < h 0) : mf_X3_needOf gR a0 (nI b) M = some (nI (gNeed h a b), M) := by
  obtain ⟨q0, q1, q2, q3, q4, q5, qh, ql, qp, qa⟩ := id hr
  obtain ⟨k0, k1, k2, k3, k4, k5, kh, kl, ka, kp⟩ := id hH
  obtain ⟨ra, rc, hcl⟩ := id hR
  have hc' : M.1 c = encC a (gIn a) z := hc
  have l3 := hA.2.1 b hb
  have l4 := kl b hb
  have lc : ∀ n, gsm (gCm h a b) n ≤ n * 1 := fun n => gsm_le (fun k _ => by unfold gCm; split <;> omega)
  unfold mf_X3_needOf
  simp (disch := (first | assumption | omega | (refine gRC.row ?_ ?_ <;> first | assumption | omega | (refine gRC.row ?_ ?_ <;> first | assumption | omega)))) only [zlet_ok, zcl_ok, zl_lit, zl_m1, nI_add, zald_nI, nI_ltE, nI_leE, nI_eqE, zm1_lt', zm1_le', zm1_nlt', zm1_nle', zm1_ne, zm1_ne', zm1_add1, gwI, grI_rI, zrI_s, zrI_n, zrI_L, gwL, grL_rL, zrL_s, zrL_n, zrL_I, Nat.zero_add, ↓reduceIte, if_true, if_false, gB_0, gB_1, gB_01, zchk_t, gB_1e, eq_self, gcle, gcnle, gclt, gcnlt, gcne, not_true_eq_false, not_false_eq_true, true_or, or_true, false_or, or_false, true_and, and_true, false_and, and_false, r4_6, r4_7, r4_8, r4_9, r4_10, ra, rc, c_hasBath hr hH hb, ql b hb]
  try rw [if_pos (by omega)]
  refine gfor (G := fun f i => mf_X3_needOf_l30 gR a0 f (nI b) (nI (gsm (gCm h a b) i)) (nI i) M) (n := h 2) (fun f i hi => ?_) (fun f => ?_) _ (by first | (show _ < 5000; omega) | omega)
  · obtain ⟨p1, p2, p3, p4, p5, p6⟩ := hA.2.2 i (by omega)
    have l5 := gask_le hH hi hb
    have l6 := lc i
    rw [show gsm (gCm h a b) (i + 1) = gsm (gCm h a b) i + gCm h a b i from rfl]
    generalize gsm (gCm h a b) i = w at l6
    unfold gCm
    by_cases e0 : a (8 + i) = 0
    · by_cases e3 : gAsk h i b = 0
      · simp (disch := (first | assumption | omega | (refine gRC.row ?_ ?_ <;> first | assumption | omega | (refine gRC.row ?_ ?_ <;> first | assumption | omega)))) only [zlet_ok, zcl_ok, zl_lit, zl_m1, nI_add, zald_nI, nI_ltE, nI_leE, nI_eqE, zm1_lt', zm1_le', zm1_nlt', zm1_nle', zm1_ne, zm1_ne', zm1_add1, gwI, grI_rI, zrI_s, zrI_n, zrI_L, gwL, grL_rL, zrL_s, zrL_n, zrL_I, Nat.zero_add, ↓reduceIte, if_true, if_false, gB_0, gB_1, gB_01, zchk_t, gB_1e, eq_self, gcle, gcnle, gclt, gcnlt, gcne, not_true_eq_false, not_false_eq_true, true_or, or_true, false_or, or_false, true_and, and_true, false_and, and_false, r4_6, r4_7, r4_8, r4_9, r4_10, mf_X3_needOf_l30, mf_X3_needOf_b79, mf_X3_needOf_b84, mf_X3_needOf_b114, ra, rc, q2, hc', eC_how, e0, qp i hi, c_askedS hr hH hi hb, e3, Nat.le_refl, Nat.lt_irrefl, and_false, true_or, Nat.add_zero]
        try rw [if_neg (by omega)]
      · simp (disch := (first | assumption | omega | (refine gRC.row ?_ ?_ <;> first | assumption | omega | (refine gRC.row ?_ ?_ <;> first | assumption | omega)))) only [zlet_ok, zcl_ok, zl_lit, zl_m1, nI_add, zald_nI, nI_ltE, nI_leE, nI_eqE, zm1_lt', zm1_le', zm1_nlt', zm1_nle', zm1_ne, zm1_ne', zm1_add1, gwI, grI_rI, zrI_s, zrI_n, zrI_L, gwL, grL_rL, zrL_s, zrL_n, zrL_I, Nat.zero_add, ↓reduceIte, if_true, if_false, gB_0, gB_1, gB_01, zchk_t, gB_1e, eq_self, gcle, gcnle, gclt, gcnlt, gcne, not_true_eq_false, not_false_eq_true, true_or, or_true, false_or, or_false, true_and, and_true, false_and, and_false, r4_6, r4_7, r4_8, r4_9, r4_10, mf_X3_needOf_l30, mf_X3_needOf_b79, mf_X3_needOf_b84, mf_X3_needOf_b114, ra, rc, q2, hc', eC_how, e0, qp i hi, c_askedS hr hH hi hb, Nat.le_zero_eq, e3, Nat.pos_of_ne_zero e3, true_or, true_and]
        try rw [if_neg (by omega)]
    · by_cases e1 : a (8 + i) = 1
      · by_cases e2 : a (16 + i) ≤ b
        · by_cases e3 : gAsk h i b = 0
          · simp (disch := (first | assumption | omega | (refine gRC.row ?_ ?_ <;> first | assumption | omega | (refine gRC.row ?_ ?_ <;> first | assumption | omega)))) only [zlet_ok, zcl_ok, zl_lit, zl_m1, nI_add, zald_nI, nI_ltE, nI_leE, nI_eqE, zm1_lt', zm1_le', zm1_nlt', zm1_nle', zm1_ne, zm1_ne', zm1_add1, gwI, grI_rI, zrI_s, zrI_n, zrI_L, gwL, grL_rL, zrL_s, zrL_n, zrL_I, Nat.zero_add, ↓reduceIte, if_true, if_false, gB_0, gB_1, gB_01, zchk_t, gB_1e, eq_self, gcle, gcnle, gclt, gcnlt, gcne, not_true_eq_false, not_false_eq_true, true_or, or_true, false_or, or_false, true_and, and_true, false_and, and_false, r4_6, r4_7, r4_8, r4_9, r4_10, mf_X3_needOf_l30, mf_X3_needOf_b79, mf_X3_needOf_b83, mf_X3_needOf_b84, mf_X3_needOf_b114, ra, rc, q2, hc', eC_how, e1, eC_whe, enI_ge, e2, qp i hi, c_askedS hr hH hi hb, e3, Nat.le_refl, Nat.lt_irrefl, and_false, Nat.add_zero]
            try rw [if_neg (by omega)]
            try rw [if_neg (by omega)]
          · simp (disch := (first | assumption | omega | (refine gRC.row ?_ ?_ <;> first | assumption | omega | (refine gRC.row ?_ ?_ <;> first | assumption | omega)))) only [zlet_ok, zcl_ok, zl_lit, zl_m1, nI_add, zald_nI, nI_ltE, nI_leE, nI_eqE, zm1_lt', zm1_le', zm1_nlt', zm1_nle', zm1_ne, zm1_ne', zm1_add1, gwI, grI_rI, zrI_s, zrI_n, zrI_L, gwL, grL_rL, zrL_s, zrL_n, zrL_I, Nat.zero_add, ↓reduceIte, if_true, if_false, gB_0, gB_1, gB_01, zchk_t, gB_1e, eq_self, gcle, gcnle, gclt, gcnlt, gcne, not_true_eq_false, not_false_eq_true, true_or, or_true, false_or, or_false, true_and, and_true, false_and, and_false, r4_6, r4_7, r4_8, r4_9, r4_10, mf_X3_needOf_l30, mf_X3_needOf_b79, mf_X3_needOf_b83, mf_X3_needOf_b84, mf_X3_needOf_b114, ra, rc, q2, hc', eC_how, e1, eC_whe, enI_ge, e2, qp i hi, c_askedS hr hH hi hb, Nat.le_zero_eq, e3, Nat.pos_of_ne_zero e3, or_true, true_and, and_true]
            try rw [if_neg (by omega)]
            try rw [if_neg (by omega)]
        · simp (disch := (first | assumption | omega | (refine gRC.row ?_ ?_ <;> first | assumption | omega | (refine gRC.row ?_ ?_ <;> first | assumption | omega)))) only [zlet_ok, zcl_ok, zl_lit, zl_m1, nI_add, zald_nI, nI_ltE, nI_leE, nI_eqE, zm1_lt', zm1_le', zm1_nlt', zm1_nle', zm1_ne, zm1_ne', zm1_add1, gwI, grI_rI, zrI_s, zrI_n, zrI_L, gwL, grL_rL, zrL_s, zrL_n, zrL_I, Nat.zero_add, ↓reduceIte, if_true, if_false, gB_0, gB_1, gB_01, zchk_t, gB_1e, eq_self, gcle, gcnle, gclt, gcnlt, gcne, not_true_eq_false, not_false_eq_true, true_or, or_true, false_or, or_false, true_and, and_true, false_and, and_false, r4_6, r4_7, r4_8, r4_9, r4_10, mf_X3_needOf_l30, mf_X3_needOf_b79, mf_X3_needOf_b83, mf_X3_needOf_b84, mf_X3_needOf_b114, ra, rc, q2, hc', eC_how, e1, eC_whe, enI_ge, e2, and_false, false_and, or_false, Nat.add_zero]
          try rw [if_neg (by omega)]
          try rw [if_pos (by omega)]
      · simp (disch := (first | assumption | omega | (refine gRC.row ?_ ?_ <;> first | assumption | omega | (refine gRC.row ?_ ?_ <;> first | assumption | omega)))) only [zlet_ok, zcl_ok, zl_lit, zl_m1, nI_add, zald_nI, nI_ltE, nI_leE, nI_eqE, zm1_lt', zm1_le', zm1_nlt', zm1_nle', zm1_ne, zm1_ne', zm1_add1, gwI, grI_rI, zrI_s, zrI_n, zrI_L, gwL, grL_rL, zrL_s, zrL_n, zrL_I, Nat.zero_add, ↓reduceIte, if_true, if_false, gB_0, gB_1, gB_01, zchk_t, gB_1e, eq_self, gcle, gcnle, gclt, gcnlt, gcne, not_true_eq_false, not_false_eq_true, true_or, or_true, false_or, or_false, true_and, and_true, false_and, and_false, r4_6, r4_7, r4_8, r4_9, r4_10, mf_X3_needOf_l30, mf_X3_needOf_b83, mf_X3_needOf_b84, mf_X3_needOf_b114, ra, rc, q2, hc', eC_how, e0, e1, false_and, or_false, Nat.add_zero]
        try rw [if_neg (by omega)]
  · have l6 := lc (h 2)
    unfold gNeed
    generalize gsm (gCm h a b) (h 2) = w at l6
    by_cases e : a (2 + b) + w ≤ h (12 + b)
    · rw [if_pos e]
      have e2 : ¬ nI 0 < nI (a (2 + b)) + nI w - nI (h (12 + b)) := by
        rw [nI_add]
        by_cases e3 : a (2 + b) + w = h (12 + b)
        · rw [e3, nI_subE (Nat.le_refl _), Nat.sub_self, nI_ltI (by omega) (by omega)]; omega
        · have e4 : nI (a (2 + b) + w) - nI (h (12 + b)) = -nI (h (12 + b) - (a (2 + b) + w)) := by
            rw [← nI_subE (by omega), Int32.neg_sub]
          rw [e4, Int32.lt_iff_toInt_lt, Int32.toInt_neg, nI_toInt (by omega), nI_toInt (by omega)]
          have : (Int.bmod (-((h (12 + b) - (a (2 + b) + w) : Nat) : Int)) (2 ^ 32)) = -((h (12 + b) - (a (2 + b) + w) : Nat) : Int) := by
            rw [Int.bmod_eq_of_le] <;> omega
          omega
      rw [nI_add] at e2
      simp (disch := (first | assumption | omega | (refine gRC.row ?_ ?_ <;> first | assumption | omega | (refine gRC.row ?_ ?_ <;> first | assumption | omega)))) only [zlet_ok, zcl_ok, zl_lit, zl_m1, nI_add, zald_nI, nI_ltE, nI_leE, nI_eqE, zm1_lt', zm1_le', zm1_nlt', zm1_nle', zm1_ne, zm1_ne', zm1_add1, gwI, grI_rI, zrI_s, zrI_n, zrI_L, gwL, grL_rL, zrL_s, zrL_n, zrL_I, Nat.zero_add, ↓reduceIte, if_true, if_false, gB_0, gB_1, gB_01, zchk_t, gB_1e, eq_self, gcle, gcnle, gclt, gcnlt, gcne, not_true_eq_false, not_false_eq_true, true_or, or_true, false_or, or_false, true_and, and_true, false_and, and_false, r4_6, r4_7, r4_8, r4_9, r4_10, mf_X3_needOf_l30, ra, rc, q2, Nat.le_refl, hc', eC_had, ql b hb, e2]
    · rw [if_neg e]
      simp (disch := (first | assumption | omega | (refine gRC.row ?_ ?_ <;> first | assumption | omega | (refine gRC.row ?_ ?_ <;> first | assumption | omega)))) only [zlet_ok, zcl_ok, zl_lit, zl_m1, nI_add, zald_nI, nI_ltE, nI_leE, nI_eqE, zm1_lt', zm1_le', zm1_nlt', zm1_nle', zm1_ne, zm1_ne', zm1_add1, gwI, grI_rI, zrI_s, zrI_n, zrI_L, gwL, grL_rL, zrL_s, zrL_n, zrL_I, Nat.zero_add, ↓reduceIte, if_true, if_false, gB_0, gB_1, gB_01, zchk_t, gB_1e, eq_self, gcle, gcnle, gclt, gcnlt, gcne, not_true_eq_false, not_false_eq_true, true_or, or_true, false_or, or_false, true_and, and_true, false_and, and_false, r4_6, r4_7, r4_8, r4_9, r4_10, mf_X3_needOf_l30, ra, rc, q2, Nat.le_refl, hc', eC_had, ql b hb, nI_subE, pk_div]
      try rw [if_pos (by omega)]
theorem m_need {h a : zN} {t : Nat → Int32} {M : zMem} {b : Nat} (hH : gH h) (hA : gA h a) (hb : b < h 0) : mf_X12_needOf gR 89 (nI b) (zrowI M 91 (encM h a t)) = some (nI (gNeed h a b), zrowI M 91 (encM h a t)) := by
  obtain ⟨k0, k1, k2, k3, k4, k5, kh, kl, ka, kp⟩ := id hH
  have l3 := hA.2.1 b hb
  have l4 := kl b hb
  have lc : ∀ n, gsm (gCm h a b) n ≤ n * 1 := fun n => gsm_le (fun k _ => by unfold gCm; split <;> omega)
  unfold mf_X12_needOf
  refine gfor (G := fun f i => mf_X12_needOf_l4 gR 89 f (nI b) (nI (gsm (gCm h a b) i)) (nI i) (zrowI M 91 (encM h a t))) (n := h 2) (fun f i hi => ?_) (fun f => ?_) _ (by first | (show _ < 5000; omega) | omega)
  · obtain ⟨p1, p2, p3, p4, p5, p6⟩ := hA.2.2 i (by omega)
    have hAi := hA.2.2 i (by omega)
    have hi8 : i < 8 := by omega
    have l5 := gask_le hH hi hb
    have l6 := lc i
    rw [show gsm (gCm h a b) (i + 1) = gsm (gCm h a b) i + gCm h a b i from rfl]
    generalize gsm (gCm h a b) i = w at l6
    unfold gCm
    by_cases e3 : gAsk h i b = 0
    · simp (disch := omega) only [zlet_ok, zcl_ok, zl_lit, zl_m1, nI_add, zald_nI, nI_ltE, nI_leE, nI_eqE, zm1_lt', zm1_le', zm1_nlt', zm1_nle', zm1_ne, zm1_ne', zm1_add1, gwI, grI_rI, zrI_s, zrI_n, zrI_L, gwL, grL_rL, zrL_s, zrL_n, zrL_I, Nat.zero_add, ↓reduceIte, if_true, if_false, gB_0, gB_1, gB_01, zchk_t, gB_1e, eq_self, gcle, gcnle, gclt, gcnlt, gcne, not_true_eq_false, not_false_eq_true, true_or, or_true, false_or, or_false, true_and, and_true, false_and, and_false, mf_X12_needOf_l4, mf_X12_needOf_b55, r89_14, eM_h, m_askedBy hH hi hb, e3, Nat.le_refl, Nat.lt_irrefl, and_false, Nat.add_zero]
      try rw [if_neg (by omega)]
    · by_cases e0 : a (8 + i) = 0
      · simp (disch := omega) only [zlet_ok, zcl_ok, zl_lit, zl_m1, nI_add, zald_nI, nI_ltE, nI_leE, nI_eqE, zm1_lt', zm1_le', zm1_nlt', zm1_nle', zm1_ne, zm1_ne', zm1_add1, gwI, grI_rI, zrI_s, zrI_n, zrI_L, gwL, grL_rL, zrL_s, zrL_n, zrL_I, Nat.zero_add, ↓reduceIte, if_true, if_false, gB_0, gB_1, gB_01, zchk_t, gB_1e, eq_self, gcle, gcnle, gclt, gcnlt, gcne, not_true_eq_false, not_false_eq_true, true_or, or_true, false_or, or_false, true_and, and_true, false_and, and_false, mf_X12_needOf_l4, mf_X12_needOf_b55, mf_X12_needOf_b52, r89_14, eM_h, m_askedBy hH hi hb, Nat.le_zero_eq, e3, m_isWaiting hi8 hAi, e0, decide_true, Bool.true_eq_false, Nat.pos_of_ne_zero e3, true_or, true_and]
        try rw [if_neg (by omega)]
      · by_cases e1 : a (8 + i) = 1
        · by_cases e2 : a (16 + i) ≤ b
          · simp (disch := omega) only [zlet_ok, zcl_ok, zl_lit, zl_m1, nI_add, zald_nI, nI_ltE, nI_leE, nI_eqE, zm1_lt', zm1_le', zm1_nlt', zm1_nle', zm1_ne, zm1_ne', zm1_add1, gwI, grI_rI, zrI_s, zrI_n, zrI_L, gwL, grL_rL, zrL_s, zrL_n, zrL_I, Nat.zero_add, ↓reduceIte, if_true, if_false, gB_0, gB_1, gB_01, zchk_t, gB_1e, eq_self, gcle, gcnle, gclt, gcnlt, gcne, not_true_eq_false, not_false_eq_true, true_or, or_true, false_or, or_false, true_and, and_true, false_and, and_false, mf_X12_needOf_l4, mf_X12_needOf_b55, mf_X12_needOf_b52, r89_14, eM_h, m_askedBy hH hi hb, Nat.le_zero_eq, e3, m_isWaiting hi8 hAi, m_isBathed hi8 hAi, e0, e1, decide_true, decide_false, Bool.true_eq_false, Nat.pos_of_ne_zero e3, eM_in, enI_ge, e2, or_true, true_and, and_true, Nat.one_ne_zero]
            try rw [if_neg (by omega)]
            try rw [if_neg (by omega)]
          · simp (disch := omega) only [zlet_ok, zcl_ok, zl_lit, zl_m1, nI_add, zald_nI, nI_ltE, nI_leE, nI_eqE, zm1_lt', zm1_le', zm1_nlt', zm1_nle', zm1_ne, zm1_ne', zm1_add1, gwI, grI_rI, zrI_s, zrI_n, zrI_L, gwL, grL_rL, zrL_s, zrL_n, zrL_I, Nat.zero_add, ↓reduceIte, if_true, if_false, gB_0, gB_1, gB_01, zchk_t, gB_1e, eq_self, gcle, gcnle, gclt, gcnlt, gcne, not_true_eq_false, not_false_eq_true, true_or, or_true, false_or, or_false, true_and, and_true, false_and, and_false, mf_X12_needOf_l4, mf_X12_needOf_b55, mf_X12_needOf_b52, r89_14, eM_h, m_askedBy hH hi hb, Nat.le_zero_eq, e3, m_isWaiting hi8 hAi, m_isBathed hi8 hAi, e0, e1, decide_true, decide_false, Bool.true_eq_false, eM_in, enI_ge, e2, and_false, false_and, or_false, Nat.add_zero, Nat.one_ne_zero]
            try rw [if_neg (by omega)]
            try rw [if_pos (by omega)]
        · simp (disch := omega) only [zlet_ok, zcl_ok, zl_lit, zl_m1, nI_add, zald_nI, nI_ltE, nI_leE, nI_eqE, zm1_lt', zm1_le', zm1_nlt', zm1_nle', zm1_ne, zm1_ne', zm1_add1, gwI, grI_rI, zrI_s, zrI_n, zrI_L, gwL, grL_rL, zrL_s, zrL_n, zrL_I, Nat.zero_add, ↓reduceIte, if_true, if_false, gB_0, gB_1, gB_01, zchk_t, gB_1e, eq_self, gcle, gcnle, gclt, gcnlt, gcne, not_true_eq_false, not_false_eq_true, true_or, or_true, false_or, or_false, true_and, and_true, false_and, and_false, mf_X12_needOf_l4, mf_X12_needOf_b55, mf_X12_needOf_b52, r89_14, eM_h, m_askedBy hH hi hb, Nat.le_zero_eq, e3, m_isWaiting hi8 hAi, m_isBathed hi8 hAi, e0, e1, decide_false, false_and, or_false, Nat.add_zero]
          try rw [if_neg (by omega)]
  · have l6 := lc (h 2)
    unfold gNeed
    generalize gsm (gCm h a b) (h 2) = w at l6
    by_cases e : a (2 + b) + w ≤ h (12 + b)
    · rw [if_pos e]
      have e2 : ¬ nI 0 < nI w - nI (h (12 + b) - a (2 + b)) := by
        by_cases e3 : w = h (12 + b) - a (2 + b)
        · rw [e3, nI_subE (Nat.le_refl _), Nat.sub_self, nI_ltI (by omega) (by omega)]; omega
        · have e4 : nI w - nI (h (12 + b) - a (2 + b)) = -nI (h (12 + b) - a (2 + b) - w) := by
            rw [← nI_subE (show w ≤ h (12 + b) - a (2 + b) by omega), Int32.neg_sub]
          rw [e4, Int32.lt_iff_toInt_lt, Int32.toInt_neg, nI_toInt (by omega), nI_toInt (by omega)]
          have : (Int.bmod (-((h (12 + b) - a (2 + b) - w : Nat) : Int)) (2 ^ 32)) = -((h (12 + b) - a (2 + b) - w : Nat) : Int) := by
            rw [Int.bmod_eq_of_le] <;> omega
          omega
      simp (disch := omega) only [zlet_ok, zcl_ok, zl_lit, zl_m1, nI_add, zald_nI, nI_ltE, nI_leE, nI_eqE, zm1_lt', zm1_le', zm1_nlt', zm1_nle', zm1_ne, zm1_ne', zm1_add1, gwI, grI_rI, zrI_s, zrI_n, zrI_L, gwL, grL_rL, zrL_s, zrL_n, zrL_I, Nat.zero_add, ↓reduceIte, if_true, if_false, gB_0, gB_1, gB_01, zchk_t, gB_1e, eq_self, gcle, gcnle, gclt, gcnlt, gcne, not_true_eq_false, not_false_eq_true, true_or, or_true, false_or, or_false, true_and, and_true, false_and, and_false, mf_X12_needOf_l4, r89_14, eM_h, Nat.le_refl, eM_had, nI_subE, e2]
    · rw [if_neg e]
      simp (disch := omega) only [zlet_ok, zcl_ok, zl_lit, zl_m1, nI_add, zald_nI, nI_ltE, nI_leE, nI_eqE, zm1_lt', zm1_le', zm1_nlt', zm1_nle', zm1_ne, zm1_ne', zm1_add1, gwI, grI_rI, zrI_s, zrI_n, zrI_L, gwL, grL_rL, zrL_s, zrL_n, zrL_I, Nat.zero_add, ↓reduceIte, if_true, if_false, gB_0, gB_1, gB_01, zchk_t, gB_1e, eq_self, gcle, gcnle, gclt, gcnlt, gcne, not_true_eq_false, not_false_eq_true, true_or, or_true, false_or, or_false, true_and, and_true, false_and, and_false, mf_X12_needOf_l4, r89_14, eM_h, Nat.le_refl, eM_had, nI_subE, pk_div]
      try rw [if_pos (by omega)]
      rw [show w - (h (12 + b) - a (2 + b)) = a (2 + b) + w - h (12 + b) by omega]
/-! JAM, OFTEN -/
def gWt (h a : zN) (b : Nat) : Nat := gsm (fun s => if a (8 + s) = 0 then gAsk h s b else 0) (h 2)
def gJs (h a : zN) (b w : Nat) : Nat := if w = 0 then b + 1 else if gWt h a b * h (6 + (w - 1)) ≤ gWt h a (w - 1) * h (6 + b) then w else b + 1
def gOf (a : zN) (s w : Nat) : Nat := if a (48 + s) ≤ (if w = 0 then 0 else a (48 + (w - 1))) then w else s + 1
theorem gWt_le {h a : zN} {b : Nat} (hH : gH h) (hb : b < h 0) : gWt h a b ≤ 240 := by
  obtain ⟨k0, k1, k2, k3, k4, k5, kh, kl, ka, kp⟩ := id hH
  have : gWt h a b ≤ h 2 * 30 := gsm_le (fun k hk => by
    have := gask_le hH hk hb
    split <;> omega)
  omega
theorem c_waiting {h a : zN} {z : Nat → Int32} {M : zMem} {a0 c b : Nat} (hR : gLab a0 c) (hr : gRC h M) (hc : M.1 c = eC a z) (hH : gH h) (hA : gA h a) (hb : b < h 0) : mf_X3_askedByWaiting gR a0 (nI b) M = some (nI (gWt h a b), M) := by
  obtain ⟨q0, q1, q2, q3, q4, q5, qh, ql, qp, qa⟩ := id hr
  obtain ⟨k0, k1, k2, k3, k4, k5, kh, kl, ka, kp⟩ := id hH
  obtain ⟨ra, rc, hcl⟩ := id hR
  have hc' : M.1 c = encC a (gIn a) z := hc
  unfold mf_X3_askedByWaiting gWt
  refine gfor (G := fun f i => mf_X3_askedByWaiting_l4 gR a0 f (nI b) (nI (gsm (fun s => if a (8 + s) = 0 then gAsk h s b else 0) i)) (nI i) M) (n := h 2) (fun f i hi => ?_) (fun f => ?_) _ (by first | (show _ < 5000; omega) | omega)
  · obtain ⟨p1, p2, p3, p4, p5, p6⟩ := hA.2.2 i (by omega)
    by_cases e : a (8 + i) = 0
    · simp (disch := (first | assumption | omega | (refine gRC.row ?_ ?_ <;> first | assumption | omega | (refine gRC.row ?_ ?_ <;> first | assumption | omega)))) only [zlet_ok, zcl_ok, zl_lit, zl_m1, nI_add, zald_nI, nI_ltE, nI_leE, nI_eqE, zm1_lt', zm1_le', zm1_nlt', zm1_nle', zm1_ne, zm1_ne', zm1_add1, gwI, grI_rI, zrI_s, zrI_n, zrI_L, gwL, grL_rL, zrL_s, zrL_n, zrL_I, Nat.zero_add, ↓reduceIte, if_true, if_false, gB_0, gB_1, gB_01, zchk_t, gB_1e, eq_self, gcle, gcnle, gclt, gcnlt, gcne, not_true_eq_false, not_false_eq_true, true_or, or_true, false_or, or_false, true_and, and_true, false_and, and_false, r4_6, r4_7, r4_8, r4_9, r4_10, mf_X3_askedByWaiting_l4, mf_X3_askedByWaiting_b47, ra, rc, q2, hc', eC_how, e, qp i hi, c_askedS hr hH hi hb, gsm]
      try rw [if_neg (by omega)]
    · simp (disch := (first | assumption | omega | (refine gRC.row ?_ ?_ <;> first | assumption | omega | (refine gRC.row ?_ ?_ <;> first | assumption | omega)))) only [zlet_ok, zcl_ok, zl_lit, zl_m1, nI_add, zald_nI, nI_ltE, nI_leE, nI_eqE, zm1_lt', zm1_le', zm1_nlt', zm1_nle', zm1_ne, zm1_ne', zm1_add1, gwI, grI_rI, zrI_s, zrI_n, zrI_L, gwL, grL_rL, zrL_s, zrL_n, zrL_I, Nat.zero_add, ↓reduceIte, if_true, if_false, gB_0, gB_1, gB_01, zchk_t, gB_1e, eq_self, gcle, gcnle, gclt, gcnlt, gcne, not_true_eq_false, not_false_eq_true, true_or, or_true, false_or, or_false, true_and, and_true, false_and, and_false, r4_6, r4_7, r4_8, r4_9, r4_10, mf_X3_askedByWaiting_l4, mf_X3_askedByWaiting_b47, ra, rc, q2, hc', eC_how, e, gsm, Nat.add_zero]
      try rw [if_neg (by omega)]
  · simp (disch := (first | assumption | omega | (refine gRC.row ?_ ?_ <;> first | assumption | omega | (refine gRC.row ?_ ?_ <;> first | assumption | omega)))) only [zlet_ok, zcl_ok, zl_lit, zl_m1, nI_add, zald_nI, nI_ltE, nI_leE, nI_eqE, zm1_lt', zm1_le', zm1_nlt', zm1_nle', zm1_ne, zm1_ne', zm1_add1, gwI, grI_rI, zrI_s, zrI_n, zrI_L, gwL, grL_rL, zrL_s, zrL_n, zrL_I, Nat.zero_add, ↓reduceIte, if_true, if_false, gB_0, gB_1, gB_01, zchk_t, gB_1e, eq_self, gcle, gcnle, gclt, gcnlt, gcne, not_true_eq_false, not_false_eq_true, true_or, or_true, false_or, or_false, true_and, and_true, false_and, and_false, r4_6, r4_7, r4_8, r4_9, r4_10, mf_X3_askedByWaiting_l4, ra, q2, Nat.le_refl]
theorem m_waiting {h a : zN} {t : Nat → Int32} {M : zMem} {b : Nat} (hH : gH h) (hA : gA h a) (hb : b < h 0) : mf_X12_waitingIn gR 89 (nI b) (zrowI M 91 (encM h a t)) = some (nI (gWt h a b), zrowI M 91 (encM h a t)) := by
  obtain ⟨k0, k1, k2, k3, k4, k5, kh, kl, ka, kp⟩ := id hH
  unfold mf_X12_waitingIn gWt
  refine gfor (G := fun f i => mf_X12_waitingIn_l4 gR 89 f (nI b) (nI (gsm (fun s => if a (8 + s) = 0 then gAsk h s b else 0) i)) (nI i) (zrowI M 91 (encM h a t))) (n := h 2) (fun f i hi => ?_) (fun f => ?_) _ (by first | (show _ < 5000; omega) | omega)
  · have hAi := hA.2.2 i (by omega)
    by_cases e : a (8 + i) = 0
    · simp (disch := omega) only [zlet_ok, zcl_ok, zl_lit, zl_m1, nI_add, zald_nI, nI_ltE, nI_leE, nI_eqE, zm1_lt', zm1_le', zm1_nlt', zm1_nle', zm1_ne, zm1_ne', zm1_add1, gwI, grI_rI, zrI_s, zrI_n, zrI_L, gwL, grL_rL, zrL_s, zrL_n, zrL_I, Nat.zero_add, ↓reduceIte, if_true, if_false, gB_0, gB_1, gB_01, zchk_t, gB_1e, eq_self, gcle, gcnle, gclt, gcnlt, gcne, not_true_eq_false, not_false_eq_true, true_or, or_true, false_or, or_false, true_and, and_true, false_and, and_false, mf_X12_waitingIn_l4, mf_X12_waitingIn_b31, r89_14, eM_h, m_isWaiting (show i < 8 by omega) hAi, e, decide_true, Bool.true_eq_false, m_askedBy hH hi hb, gsm]
      try rw [if_neg (by omega)]
    · simp (disch := omega) only [zlet_ok, zcl_ok, zl_lit, zl_m1, nI_add, zald_nI, nI_ltE, nI_leE, nI_eqE, zm1_lt', zm1_le', zm1_nlt', zm1_nle', zm1_ne, zm1_ne', zm1_add1, gwI, grI_rI, zrI_s, zrI_n, zrI_L, gwL, grL_rL, zrL_s, zrL_n, zrL_I, Nat.zero_add, ↓reduceIte, if_true, if_false, gB_0, gB_1, gB_01, zchk_t, gB_1e, eq_self, gcle, gcnle, gclt, gcnlt, gcne, not_true_eq_false, not_false_eq_true, true_or, or_true, false_or, or_false, true_and, and_true, false_and, and_false, mf_X12_waitingIn_l4, mf_X12_waitingIn_b31, r89_14, eM_h, m_isWaiting (show i < 8 by omega) hAi, e, decide_false, gsm, Nat.add_zero]
      try rw [if_neg (by omega)]
  · simp (disch := omega) only [zlet_ok, zcl_ok, zl_lit, zl_m1, nI_add, zald_nI, nI_ltE, nI_leE, nI_eqE, zm1_lt', zm1_le', zm1_nlt', zm1_nle', zm1_ne, zm1_ne', zm1_add1, gwI, grI_rI, zrI_s, zrI_n, zrI_L, gwL, grL_rL, zrL_s, zrL_n, zrL_I, Nat.zero_add, ↓reduceIte, if_true, if_false, gB_0, gB_1, gB_01, zchk_t, gB_1e, eq_self, gcle, gcnle, gclt, gcnlt, gcne, not_true_eq_false, not_false_eq_true, true_or, or_true, false_or, or_false, true_and, and_true, false_and, and_false, mf_X12_waitingIn_l4, r89_14, eM_h, Nat.le_refl]
