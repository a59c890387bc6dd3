/-! CALLS THAT CHANGE NOTHING -/
def gW (h a : zN) (t : Nat → Int32) (M : zMem) : Prop := gRC h M ∧ M.1 17 = eC a (M.1 17) ∧ M.1 91 = encM h a t ∧ gH h ∧ gA h a
theorem gBif {b : Bool} {M : zMem} : (if b = false then some (nI 0, M) else some (nI 1, M)) = some (gB b, M) := by cases b <;> rfl
theorem gBif' {b : Bool} {M : zMem} : (if gB b = nI 0 then some (nI 0, M) else some (nI 1, M)) = some (gB b, M) := by cases b <;> rfl
theorem enX_eq {n b : Nat} : enX n b = if b = n then zm1 else nI b := rfl
theorem q_bath {h a : zN} {t : Nat → Int32} {M : zMem} (W : gW h a t M) (x y : Int32) : ∃ r, mf_X11_bath gR 0 x y M = some (r, M) ∧ mf_X12_bath gR 89 x y M = some (r, zwI M 89 0 (nI 0)) := by
  obtain ⟨hr, hc, hm, hH, hA⟩ := W
  have hc' : M.1 17 = encC a (gIn a) (M.1 17) := hc
  obtain ⟨q0, q1, q2, q3, q4, q5, qh, ql, qp, qa⟩ := id hr
  obtain ⟨k0, k1, k2, k3, k4, k5, kh, kl, ka, kp⟩ := id hH
  have hm0 : (zwI M 89 0 (nI 0)).1 91 = encM h a t := by rw [zwI_n (by decide)]; exact hm
  unfold mf_X11_bath mf_X12_bath
  simp only [zlet, zl_lit]
  generalize zwI M 89 0 (nI 0) = M1 at hm0
  rw [← grI_id hm0]
  rcases gcase (n := h 0) (by omega) x with ⟨b, hb, rfl⟩ | ho
  · have l1 := hA.2.1 b hb
    have l2 := kl b hb
    by_cases y0 : y = nI 0
    · refine ⟨nI (h (6 + b)), ?_, ?_⟩
      · subst y0; simp (disch := (first | assumption | omega | exact gRC.row (by omega) (by assumption) | exact gRC.row (by omega) (gRC.row (by omega) (by assumption)))) only [zlet, zcl_ok, zl_lit, zl_m1, nI_add, zald_nI, nI_ltE, nI_leE, nI_eqE, zm1_lt', zm1_le', zm1_nlt', zm1_nle', zm1_ne, zm1_ne', zm1_add1, gwI, grI_rI, zrI_s, zrI_n, zrI_L, gwL, grL_rL, zrL_s, zrL_n, zrL_I, Nat.zero_add, ↓reduceIte, if_true, if_false, gB_0, gB_1, gB_01, zchk_t, gB_1e, eq_self, r4_6, r4_7, r4_8, r4_9, r4_10, r0_1, r0_3, c_hasBath hr hH hb, qh b hb, ql b hb, mf_X3_hadBy, mf_X3_insideOf, gLab_l.1, gLab_l.2.1, hc', eC_had, eC_ins, c_isOpen gLab_l hr hc hH hA hb, c_need gLab_l hr hc hH hA hb, gBif]
      · subst y0; simp (disch := omega) only [zlet, zcl_ok, zl_lit, zl_m1, nI_add, zald_nI, nI_ltE, nI_leE, nI_eqE, zm1_lt', zm1_le', zm1_nlt', zm1_nle', zm1_ne, zm1_ne', zm1_add1, gwI, grI_rI, zrI_s, zrI_n, zrI_L, gwL, grL_rL, zrL_s, zrL_n, zrL_I, Nat.zero_add, ↓reduceIte, if_true, if_false, gB_0, gB_1, gB_01, zchk_t, gB_1e, eq_self, m_isBath hH hb, r89_14, eM_h, eM_had, m_sheetsIn hH hA, m_isOpen hH hA hb, m_need hH hA hb, gBif]
    by_cases y1 : y = nI 1
    · refine ⟨nI (h (12 + b)), ?_, ?_⟩
      · subst y1; simp (disch := (first | assumption | omega | exact gRC.row (by omega) (by assumption) | exact gRC.row (by omega) (gRC.row (by omega) (by assumption)))) only [zlet, zcl_ok, zl_lit, zl_m1, nI_add, zald_nI, nI_ltE, nI_leE, nI_eqE, zm1_lt', zm1_le', zm1_nlt', zm1_nle', zm1_ne, zm1_ne', zm1_add1, gwI, grI_rI, zrI_s, zrI_n, zrI_L, gwL, grL_rL, zrL_s, zrL_n, zrL_I, Nat.zero_add, ↓reduceIte, if_true, if_false, gB_0, gB_1, gB_01, zchk_t, gB_1e, eq_self, r4_6, r4_7, r4_8, r4_9, r4_10, r0_1, r0_3, c_hasBath hr hH hb, qh b hb, ql b hb, mf_X3_hadBy, mf_X3_insideOf, gLab_l.1, gLab_l.2.1, hc', eC_had, eC_ins, c_isOpen gLab_l hr hc hH hA hb, c_need gLab_l hr hc hH hA hb, gBif]
      · subst y1; simp (disch := omega) only [zlet, zcl_ok, zl_lit, zl_m1, nI_add, zald_nI, nI_ltE, nI_leE, nI_eqE, zm1_lt', zm1_le', zm1_nlt', zm1_nle', zm1_ne, zm1_ne', zm1_add1, gwI, grI_rI, zrI_s, zrI_n, zrI_L, gwL, grL_rL, zrL_s, zrL_n, zrL_I, Nat.zero_add, ↓reduceIte, if_true, if_false, gB_0, gB_1, gB_01, zchk_t, gB_1e, eq_self, m_isBath hH hb, r89_14, eM_h, eM_had, m_sheetsIn hH hA, m_isOpen hH hA hb, m_need hH hA hb, gBif]
    by_cases y2 : y = nI 2
    · refine ⟨nI (a (2 + b)), ?_, ?_⟩
      · subst y2; simp (disch := (first | assumption | omega | exact gRC.row (by omega) (by assumption) | exact gRC.row (by omega) (gRC.row (by omega) (by assumption)))) only [zlet, zcl_ok, zl_lit, zl_m1, nI_add, zald_nI, nI_ltE, nI_leE, nI_eqE, zm1_lt', zm1_le', zm1_nlt', zm1_nle', zm1_ne, zm1_ne', zm1_add1, gwI, grI_rI, zrI_s, zrI_n, zrI_L, gwL, grL_rL, zrL_s, zrL_n, zrL_I, Nat.zero_add, ↓reduceIte, if_true, if_false, gB_0, gB_1, gB_01, zchk_t, gB_1e, eq_self, r4_6, r4_7, r4_8, r4_9, r4_10, r0_1, r0_3, c_hasBath hr hH hb, qh b hb, ql b hb, mf_X3_hadBy, mf_X3_insideOf, gLab_l.1, gLab_l.2.1, hc', eC_had, eC_ins, c_isOpen gLab_l hr hc hH hA hb, c_need gLab_l hr hc hH hA hb, gBif]
      · subst y2; simp (disch := omega) only [zlet, zcl_ok, zl_lit, zl_m1, nI_add, zald_nI, nI_ltE, nI_leE, nI_eqE, zm1_lt', zm1_le', zm1_nlt', zm1_nle', zm1_ne, zm1_ne', zm1_add1, gwI, grI_rI, zrI_s, zrI_n, zrI_L, gwL, grL_rL, zrL_s, zrL_n, zrL_I, Nat.zero_add, ↓reduceIte, if_true, if_false, gB_0, gB_1, gB_01, zchk_t, gB_1e, eq_self, m_isBath hH hb, r89_14, eM_h, eM_had, m_sheetsIn hH hA, m_isOpen hH hA hb, m_need hH hA hb, gBif]
    by_cases y3 : y = nI 3
    · refine ⟨nI (gIn a b), ?_, ?_⟩
      · subst y3; simp (disch := (first | assumption | omega | exact gRC.row (by omega) (by assumption) | exact gRC.row (by omega) (gRC.row (by omega) (by assumption)))) only [zlet, zcl_ok, zl_lit, zl_m1, nI_add, zald_nI, nI_ltE, nI_leE, nI_eqE, zm1_lt', zm1_le', zm1_nlt', zm1_nle', zm1_ne, zm1_ne', zm1_add1, gwI, grI_rI, zrI_s, zrI_n, zrI_L, gwL, grL_rL, zrL_s, zrL_n, zrL_I, Nat.zero_add, ↓reduceIte, if_true, if_false, gB_0, gB_1, gB_01, zchk_t, gB_1e, eq_self, r4_6, r4_7, r4_8, r4_9, r4_10, r0_1, r0_3, c_hasBath hr hH hb, qh b hb, ql b hb, mf_X3_hadBy, mf_X3_insideOf, gLab_l.1, gLab_l.2.1, hc', eC_had, eC_ins, c_isOpen gLab_l hr hc hH hA hb, c_need gLab_l hr hc hH hA hb, gBif]
      · subst y3; simp (disch := omega) only [zlet, zcl_ok, zl_lit, zl_m1, nI_add, zald_nI, nI_ltE, nI_leE, nI_eqE, zm1_lt', zm1_le', zm1_nlt', zm1_nle', zm1_ne, zm1_ne', zm1_add1, gwI, grI_rI, zrI_s, zrI_n, zrI_L, gwL, grL_rL, zrL_s, zrL_n, zrL_I, Nat.zero_add, ↓reduceIte, if_true, if_false, gB_0, gB_1, gB_01, zchk_t, gB_1e, eq_self, m_isBath hH hb, r89_14, eM_h, eM_had, m_sheetsIn hH hA, m_isOpen hH hA hb, m_need hH hA hb, gBif]
    by_cases y4 : y = nI 4
    · refine ⟨gB (gOpen h a b), ?_, ?_⟩
      · subst y4; simp (disch := (first | assumption | omega | exact gRC.row (by omega) (by assumption) | exact gRC.row (by omega) (gRC.row (by omega) (by assumption)))) only [zlet, zcl_ok, zl_lit, zl_m1, nI_add, zald_nI, nI_ltE, nI_leE, nI_eqE, zm1_lt', zm1_le', zm1_nlt', zm1_nle', zm1_ne, zm1_ne', zm1_add1, gwI, grI_rI, zrI_s, zrI_n, zrI_L, gwL, grL_rL, zrL_s, zrL_n, zrL_I, Nat.zero_add, ↓reduceIte, if_true, if_false, gB_0, gB_1, gB_01, zchk_t, gB_1e, eq_self, r4_6, r4_7, r4_8, r4_9, r4_10, r0_1, r0_3, c_hasBath hr hH hb, qh b hb, ql b hb, mf_X3_hadBy, mf_X3_insideOf, gLab_l.1, gLab_l.2.1, hc', eC_had, eC_ins, c_isOpen gLab_l hr hc hH hA hb, c_need gLab_l hr hc hH hA hb, gBif]
      · subst y4; simp (disch := omega) only [zlet, zcl_ok, zl_lit, zl_m1, nI_add, zald_nI, nI_ltE, nI_leE, nI_eqE, zm1_lt', zm1_le', zm1_nlt', zm1_nle', zm1_ne, zm1_ne', zm1_add1, gwI, grI_rI, zrI_s, zrI_n, zrI_L, gwL, grL_rL, zrL_s, zrL_n, zrL_I, Nat.zero_add, ↓reduceIte, if_true, if_false, gB_0, gB_1, gB_01, zchk_t, gB_1e, eq_self, m_isBath hH hb, r89_14, eM_h, eM_had, m_sheetsIn hH hA, m_isOpen hH hA hb, m_need hH hA hb, gBif]
    by_cases y5 : y = nI 5
    · refine ⟨nI (gNeed h a b), ?_, ?_⟩
      · subst y5; simp (disch := (first | assumption | omega | exact gRC.row (by omega) (by assumption) | exact gRC.row (by omega) (gRC.row (by omega) (by assumption)))) only [zlet, zcl_ok, zl_lit, zl_m1, nI_add, zald_nI, nI_ltE, nI_leE, nI_eqE, zm1_lt', zm1_le', zm1_nlt', zm1_nle', zm1_ne, zm1_ne', zm1_add1, gwI, grI_rI, zrI_s, zrI_n, zrI_L, gwL, grL_rL, zrL_s, zrL_n, zrL_I, Nat.zero_add, ↓reduceIte, if_true, if_false, gB_0, gB_1, gB_01, zchk_t, gB_1e, eq_self, r4_6, r4_7, r4_8, r4_9, r4_10, r0_1, r0_3, c_hasBath hr hH hb, qh b hb, ql b hb, mf_X3_hadBy, mf_X3_insideOf, gLab_l.1, gLab_l.2.1, hc', eC_had, eC_ins, c_isOpen gLab_l hr hc hH hA hb, c_need gLab_l hr hc hH hA hb, gBif]
      · subst y5; simp (disch := omega) only [zlet, zcl_ok, zl_lit, zl_m1, nI_add, zald_nI, nI_ltE, nI_leE, nI_eqE, zm1_lt', zm1_le', zm1_nlt', zm1_nle', zm1_ne, zm1_ne', zm1_add1, gwI, grI_rI, zrI_s, zrI_n, zrI_L, gwL, grL_rL, zrL_s, zrL_n, zrL_I, Nat.zero_add, ↓reduceIte, if_true, if_false, gB_0, gB_1, gB_01, zchk_t, gB_1e, eq_self, m_isBath hH hb, r89_14, eM_h, eM_had, m_sheetsIn hH hA, m_isOpen hH hA hb, m_need hH hA hb, gBif]
    refine ⟨zm1, ?_, ?_⟩
    · simp (disch := (first | assumption | omega | exact gRC.row (by omega) (by assumption) | exact gRC.row (by omega) (gRC.row (by omega) (by assumption)))) only [zlet, zcl_ok, zl_lit, zl_m1, nI_add, zald_nI, nI_ltE, nI_leE, nI_eqE, zm1_lt', zm1_le', zm1_nlt', zm1_nle', zm1_ne, zm1_ne', zm1_add1, gwI, grI_rI, zrI_s, zrI_n, zrI_L, gwL, grL_rL, zrL_s, zrL_n, zrL_I, Nat.zero_add, ↓reduceIte, if_true, if_false, gB_0, gB_1, gB_01, zchk_t, gB_1e, eq_self, r4_6, r4_7, r4_8, r4_9, r4_10, r0_1, r0_3, c_hasBath hr hH hb, qh b hb, ql b hb, mf_X3_hadBy, mf_X3_insideOf, gLab_l.1, gLab_l.2.1, hc', eC_had, eC_ins, c_isOpen gLab_l hr hc hH hA hb, c_need gLab_l hr hc hH hA hb, gBif, y0, y1, y2, y3, y4, y5]
    · simp (disch := omega) only [zlet, zcl_ok, zl_lit, zl_m1, nI_add, zald_nI, nI_ltE, nI_leE, nI_eqE, zm1_lt', zm1_le', zm1_nlt', zm1_nle', zm1_ne, zm1_ne', zm1_add1, gwI, grI_rI, zrI_s, zrI_n, zrI_L, gwL, grL_rL, zrL_s, zrL_n, zrL_I, Nat.zero_add, ↓reduceIte, if_true, if_false, gB_0, gB_1, gB_01, zchk_t, gB_1e, eq_self, m_isBath hH hb, r89_14, eM_h, eM_had, m_sheetsIn hH hA, m_isOpen hH hA hb, m_need hH hA hb, gBif, y0, y1, y2, y3, y4, y5]
  · refine ⟨zm1, ?_, ?_⟩
    · simp (disch := (first | assumption | omega | exact gRC.row (by omega) (by assumption) | exact gRC.row (by omega) (gRC.row (by omega) (by assumption)))) only [zlet, zcl_ok, zl_lit, zl_m1, nI_add, zald_nI, nI_ltE, nI_leE, nI_eqE, zm1_lt', zm1_le', zm1_nlt', zm1_nle', zm1_ne, zm1_ne', zm1_add1, gwI, grI_rI, zrI_s, zrI_n, zrI_L, gwL, grL_rL, zrL_s, zrL_n, zrL_I, Nat.zero_add, ↓reduceIte, if_true, if_false, gB_0, gB_1, gB_01, zchk_t, gB_1e, eq_self, r4_6, r4_7, r4_8, r4_9, r4_10, r0_1, c_hasBath_n hr ho]
    · simp (disch := omega) only [zlet, zcl_ok, zl_lit, zl_m1, nI_add, zald_nI, nI_ltE, nI_leE, nI_eqE, zm1_lt', zm1_le', zm1_nlt', zm1_nle', zm1_ne, zm1_ne', zm1_add1, gwI, grI_rI, zrI_s, zrI_n, zrI_L, gwL, grL_rL, zrL_s, zrL_n, zrL_I, Nat.zero_add, ↓reduceIte, if_true, if_false, gB_0, gB_1, gB_01, zchk_t, gB_1e, eq_self, m_isBath_n hH ho]
theorem q_asks {h a : zN} {t : Nat → Int32} {M : zMem} (W : gW h a t M) (x y : Int32) : ∃ r, mf_X11_asks gR 0 x y M = some (r, M) ∧ mf_X12_asks gR 89 x y M = some (r, zwI M 89 0 (nI 0)) := by
  obtain ⟨hr, hc, hm, hH, hA⟩ := W
  have hc' : M.1 17 = encC a (gIn a) (M.1 17) := hc
  obtain ⟨q0, q1, q2, q3, q4, q5, qh, ql, qp, qa⟩ := id hr
  obtain ⟨k0, k1, k2, k3, k4, k5, kh, kl, ka, kp⟩ := id hH
  have hm0 : (zwI M 89 0 (nI 0)).1 91 = encM h a t := by rw [zwI_n (by decide)]; exact hm
  unfold mf_X11_asks mf_X12_asks
  simp only [zlet, zl_lit]
  generalize zwI M 89 0 (nI 0) = M1 at hm0
  rw [← grI_id hm0]
  rcases gcase (n := h 1) (by omega) x with ⟨p, hp, rfl⟩ | ho
  · rcases gcase (n := h 0) (by omega) y with ⟨b, hb, rfl⟩ | ho
    · refine ⟨nI (h (18 + 6 * p + b)), ?_, ?_⟩
      · simp (disch := (first | assumption | omega | exact gRC.row (by omega) (by assumption) | exact gRC.row (by omega) (gRC.row (by omega) (by assumption)))) only [zlet, zcl_ok, zl_lit, zl_m1, nI_add, zald_nI, nI_ltE, nI_leE, nI_eqE, zm1_lt', zm1_le', zm1_nlt', zm1_nle', zm1_ne, zm1_ne', zm1_add1, gwI, grI_rI, zrI_s, zrI_n, zrI_L, gwL, grL_rL, zrL_s, zrL_n, zrL_I, Nat.zero_add, ↓reduceIte, if_true, if_false, gB_0, gB_1, gB_01, zchk_t, gB_1e, eq_self, r4_6, r4_7, r4_8, r4_9, r4_10, r0_1, c_hasPaper hr hH hp, c_hasBath hr hH hb, c_asked hr hH hp hb]
      · simp (disch := omega) only [zlet, zcl_ok, zl_lit, zl_m1, nI_add, zald_nI, nI_ltE, nI_leE, nI_eqE, zm1_lt', zm1_le', zm1_nlt', zm1_nle', zm1_ne, zm1_ne', zm1_add1, gwI, grI_rI, zrI_s, zrI_n, zrI_L, gwL, grL_rL, zrL_s, zrL_n, zrL_I, Nat.zero_add, ↓reduceIte, if_true, if_false, gB_0, gB_1, gB_01, zchk_t, gB_1e, eq_self, m_isPaper hH hp, m_isBath hH hb, m_asked]
    · refine ⟨zm1, ?_, ?_⟩
      · simp (disch := (first | assumption | omega | exact gRC.row (by omega) (by assumption) | exact gRC.row (by omega) (gRC.row (by omega) (by assumption)))) only [zlet, zcl_ok, zl_lit, zl_m1, nI_add, zald_nI, nI_ltE, nI_leE, nI_eqE, zm1_lt', zm1_le', zm1_nlt', zm1_nle', zm1_ne, zm1_ne', zm1_add1, gwI, grI_rI, zrI_s, zrI_n, zrI_L, gwL, grL_rL, zrL_s, zrL_n, zrL_I, Nat.zero_add, ↓reduceIte, if_true, if_false, gB_0, gB_1, gB_01, zchk_t, gB_1e, eq_self, r4_6, r4_7, r4_8, r4_9, r4_10, r0_1, c_hasPaper hr hH hp, c_hasBath_n hr ho]
      · simp (disch := omega) only [zlet, zcl_ok, zl_lit, zl_m1, nI_add, zald_nI, nI_ltE, nI_leE, nI_eqE, zm1_lt', zm1_le', zm1_nlt', zm1_nle', zm1_ne, zm1_ne', zm1_add1, gwI, grI_rI, zrI_s, zrI_n, zrI_L, gwL, grL_rL, zrL_s, zrL_n, zrL_I, Nat.zero_add, ↓reduceIte, if_true, if_false, gB_0, gB_1, gB_01, zchk_t, gB_1e, eq_self, m_isPaper hH hp, m_isBath_n hH ho]
  · refine ⟨zm1, ?_, ?_⟩
    · simp (disch := (first | assumption | omega | exact gRC.row (by omega) (by assumption) | exact gRC.row (by omega) (gRC.row (by omega) (by assumption)))) only [zlet, zcl_ok, zl_lit, zl_m1, nI_add, zald_nI, nI_ltE, nI_leE, nI_eqE, zm1_lt', zm1_le', zm1_nlt', zm1_nle', zm1_ne, zm1_ne', zm1_add1, gwI, grI_rI, zrI_s, zrI_n, zrI_L, gwL, grL_rL, zrL_s, zrL_n, zrL_I, Nat.zero_add, ↓reduceIte, if_true, if_false, gB_0, gB_1, gB_01, zchk_t, gB_1e, eq_self, r4_6, r4_7, r4_8, r4_9, r4_10, r0_1, c_hasPaper_n hr ho]
    · simp (disch := omega) only [zlet, zcl_ok, zl_lit, zl_m1, nI_add, zald_nI, nI_ltE, nI_leE, nI_eqE, zm1_lt', zm1_le', zm1_nlt', zm1_nle', zm1_ne, zm1_ne', zm1_add1, gwI, grI_rI, zrI_s, zrI_n, zrI_L, gwL, grL_rL, zrL_s, zrL_n, zrL_I, Nat.zero_add, ↓reduceIte, if_true, if_false, gB_0, gB_1, gB_01, zchk_t, gB_1e, eq_self, m_isPaper_n hH ho]
theorem q_now {h a : zN} {t : Nat → Int32} {M : zMem} (W : gW h a t M) (y : Int32) : ∃ r, mf_X11_now gR 0 y M = some (r, M) ∧ mf_X12_now gR 89 y M = some (r, zwI M 89 0 (nI 0)) := by
  obtain ⟨hr, hc, hm, hH, hA⟩ := W
  have hc' : M.1 17 = encC a (gIn a) (M.1 17) := hc
  obtain ⟨q0, q1, q2, q3, q4, q5, qh, ql, qp, qa⟩ := id hr
  obtain ⟨k0, k1, k2, k3, k4, k5, kh, kl, ka, kp⟩ := id hH
  have hm0 : (zwI M 89 0 (nI 0)).1 91 = encM h a t := by rw [zwI_n (by decide)]; exact hm
  unfold mf_X11_now mf_X12_now
  simp only [zlet, zl_lit]
  generalize zwI M 89 0 (nI 0) = M1 at hm0
  rw [← grI_id hm0]
  by_cases y0 : y = nI 0
  · refine ⟨nI (a 0), ?_, ?_⟩
    · subst y0; simp (disch := (first | assumption | omega | exact gRC.row (by omega) (by assumption) | exact gRC.row (by omega) (gRC.row (by omega) (by assumption)))) only [zlet, zcl_ok, zl_lit, zl_m1, nI_add, zald_nI, nI_ltE, nI_leE, nI_eqE, zm1_lt', zm1_le', zm1_nlt', zm1_nle', zm1_ne, zm1_ne', zm1_add1, gwI, grI_rI, zrI_s, zrI_n, zrI_L, gwL, grL_rL, zrL_s, zrL_n, zrL_I, Nat.zero_add, ↓reduceIte, if_true, if_false, gB_0, gB_1, gB_01, zchk_t, gB_1e, eq_self, r4_6, r4_7, r4_8, r4_9, r4_10, r0_3, mf_X3_minute, mf_X3_freshLeft, gLab_l.2.1, hc', eC_min, eC_can, c_all gLab_l hr hc hH hA, c_allHeld gLab_l hr hc hH hA, c_openBaths gLab_l hr hc hH hA]
    · subst y0; simp (disch := omega) only [zlet, zcl_ok, zl_lit, zl_m1, nI_add, zald_nI, nI_ltE, nI_leE, nI_eqE, zm1_lt', zm1_le', zm1_nlt', zm1_nle', zm1_ne, zm1_ne', zm1_add1, gwI, grI_rI, zrI_s, zrI_n, zrI_L, gwL, grL_rL, zrL_s, zrL_n, zrL_I, Nat.zero_add, ↓reduceIte, if_true, if_false, gB_0, gB_1, gB_01, zchk_t, gB_1e, eq_self, r89_14, eM_min, eM_can, nI_subE, m_those hH hA, m_nowHeld hH hA, m_nowOpen hH hA, Nat.reduceSub]
  by_cases y1 : y = nI 1
  · refine ⟨nI (gTh h a 0), ?_, ?_⟩
    · subst y1; simp (disch := (first | assumption | omega | exact gRC.row (by omega) (by assumption) | exact gRC.row (by omega) (gRC.row (by omega) (by assumption)))) only [zlet, zcl_ok, zl_lit, zl_m1, nI_add, zald_nI, nI_ltE, nI_leE, nI_eqE, zm1_lt', zm1_le', zm1_nlt', zm1_nle', zm1_ne, zm1_ne', zm1_add1, gwI, grI_rI, zrI_s, zrI_n, zrI_L, gwL, grL_rL, zrL_s, zrL_n, zrL_I, Nat.zero_add, ↓reduceIte, if_true, if_false, gB_0, gB_1, gB_01, zchk_t, gB_1e, eq_self, r4_6, r4_7, r4_8, r4_9, r4_10, r0_3, mf_X3_minute, mf_X3_freshLeft, gLab_l.2.1, hc', eC_min, eC_can, c_all gLab_l hr hc hH hA, c_allHeld gLab_l hr hc hH hA, c_openBaths gLab_l hr hc hH hA]
    · subst y1; simp (disch := omega) only [zlet, zcl_ok, zl_lit, zl_m1, nI_add, zald_nI, nI_ltE, nI_leE, nI_eqE, zm1_lt', zm1_le', zm1_nlt', zm1_nle', zm1_ne, zm1_ne', zm1_add1, gwI, grI_rI, zrI_s, zrI_n, zrI_L, gwL, grL_rL, zrL_s, zrL_n, zrL_I, Nat.zero_add, ↓reduceIte, if_true, if_false, gB_0, gB_1, gB_01, zchk_t, gB_1e, eq_self, r89_14, eM_min, eM_can, nI_subE, m_those hH hA, m_nowHeld hH hA, m_nowOpen hH hA, Nat.reduceSub]
  by_cases y2 : y = nI 2
  · refine ⟨nI (gTh h a 1), ?_, ?_⟩
    · subst y2; simp (disch := (first | assumption | omega | exact gRC.row (by omega) (by assumption) | exact gRC.row (by omega) (gRC.row (by omega) (by assumption)))) only [zlet, zcl_ok, zl_lit, zl_m1, nI_add, zald_nI, nI_ltE, nI_leE, nI_eqE, zm1_lt', zm1_le', zm1_nlt', zm1_nle', zm1_ne, zm1_ne', zm1_add1, gwI, grI_rI, zrI_s, zrI_n, zrI_L, gwL, grL_rL, zrL_s, zrL_n, zrL_I, Nat.zero_add, ↓reduceIte, if_true, if_false, gB_0, gB_1, gB_01, zchk_t, gB_1e, eq_self, r4_6, r4_7, r4_8, r4_9, r4_10, r0_3, mf_X3_minute, mf_X3_freshLeft, gLab_l.2.1, hc', eC_min, eC_can, c_all gLab_l hr hc hH hA, c_allHeld gLab_l hr hc hH hA, c_openBaths gLab_l hr hc hH hA]
    · subst y2; simp (disch := omega) only [zlet, zcl_ok, zl_lit, zl_m1, nI_add, zald_nI, nI_ltE, nI_leE, nI_eqE, zm1_lt', zm1_le', zm1_nlt', zm1_nle', zm1_ne, zm1_ne', zm1_add1, gwI, grI_rI, zrI_s, zrI_n, zrI_L, gwL, grL_rL, zrL_s, zrL_n, zrL_I, Nat.zero_add, ↓reduceIte, if_true, if_false, gB_0, gB_1, gB_01, zchk_t, gB_1e, eq_self, r89_14, eM_min, eM_can, nI_subE, m_those hH hA, m_nowHeld hH hA, m_nowOpen hH hA, Nat.reduceSub]
  by_cases y3 : y = nI 3
  · refine ⟨nI (gTh h a 2), ?_, ?_⟩
    · subst y3; simp (disch := (first | assumption | omega | exact gRC.row (by omega) (by assumption) | exact gRC.row (by omega) (gRC.row (by omega) (by assumption)))) only [zlet, zcl_ok, zl_lit, zl_m1, nI_add, zald_nI, nI_ltE, nI_leE, nI_eqE, zm1_lt', zm1_le', zm1_nlt', zm1_nle', zm1_ne, zm1_ne', zm1_add1, gwI, grI_rI, zrI_s, zrI_n, zrI_L, gwL, grL_rL, zrL_s, zrL_n, zrL_I, Nat.zero_add, ↓reduceIte, if_true, if_false, gB_0, gB_1, gB_01, zchk_t, gB_1e, eq_self, r4_6, r4_7, r4_8, r4_9, r4_10, r0_3, mf_X3_minute, mf_X3_freshLeft, gLab_l.2.1, hc', eC_min, eC_can, c_all gLab_l hr hc hH hA, c_allHeld gLab_l hr hc hH hA, c_openBaths gLab_l hr hc hH hA]
    · subst y3; simp (disch := omega) only [zlet, zcl_ok, zl_lit, zl_m1, nI_add, zald_nI, nI_ltE, nI_leE, nI_eqE, zm1_lt', zm1_le', zm1_nlt', zm1_nle', zm1_ne, zm1_ne', zm1_add1, gwI, grI_rI, zrI_s, zrI_n, zrI_L, gwL, grL_rL, zrL_s, zrL_n, zrL_I, Nat.zero_add, ↓reduceIte, if_true, if_false, gB_0, gB_1, gB_01, zchk_t, gB_1e, eq_self, r89_14, eM_min, eM_can, nI_subE, m_those hH hA, m_nowHeld hH hA, m_nowOpen hH hA, Nat.reduceSub]
  by_cases y4 : y = nI 4
  · refine ⟨nI (gTh h a 3), ?_, ?_⟩
    · subst y4; simp (disch := (first | assumption | omega | exact gRC.row (by omega) (by assumption) | exact gRC.row (by omega) (gRC.row (by omega) (by assumption)))) only [zlet, zcl_ok, zl_lit, zl_m1, nI_add, zald_nI, nI_ltE, nI_leE, nI_eqE, zm1_lt', zm1_le', zm1_nlt', zm1_nle', zm1_ne, zm1_ne', zm1_add1, gwI, grI_rI, zrI_s, zrI_n, zrI_L, gwL, grL_rL, zrL_s, zrL_n, zrL_I, Nat.zero_add, ↓reduceIte, if_true, if_false, gB_0, gB_1, gB_01, zchk_t, gB_1e, eq_self, r4_6, r4_7, r4_8, r4_9, r4_10, r0_3, mf_X3_minute, mf_X3_freshLeft, gLab_l.2.1, hc', eC_min, eC_can, c_all gLab_l hr hc hH hA, c_allHeld gLab_l hr hc hH hA, c_openBaths gLab_l hr hc hH hA]
    · subst y4; simp (disch := omega) only [zlet, zcl_ok, zl_lit, zl_m1, nI_add, zald_nI, nI_ltE, nI_leE, nI_eqE, zm1_lt', zm1_le', zm1_nlt', zm1_nle', zm1_ne, zm1_ne', zm1_add1, gwI, grI_rI, zrI_s, zrI_n, zrI_L, gwL, grL_rL, zrL_s, zrL_n, zrL_I, Nat.zero_add, ↓reduceIte, if_true, if_false, gB_0, gB_1, gB_01, zchk_t, gB_1e, eq_self, r89_14, eM_min, eM_can, nI_subE, m_those hH hA, m_nowHeld hH hA, m_nowOpen hH hA, Nat.reduceSub]
  by_cases y5 : y = nI 5
  · refine ⟨nI (gHd h a), ?_, ?_⟩
    · subst y5; simp (disch := (first | assumption | omega | exact gRC.row (by omega) (by assumption) | exact gRC.row (by omega) (gRC.row (by omega) (by assumption)))) only [zlet, zcl_ok, zl_lit, zl_m1, nI_add, zald_nI, nI_ltE, nI_leE, nI_eqE, zm1_lt', zm1_le', zm1_nlt', zm1_nle', zm1_ne, zm1_ne', zm1_add1, gwI, grI_rI, zrI_s, zrI_n, zrI_L, gwL, grL_rL, zrL_s, zrL_n, zrL_I, Nat.zero_add, ↓reduceIte, if_true, if_false, gB_0, gB_1, gB_01, zchk_t, gB_1e, eq_self, r4_6, r4_7, r4_8, r4_9, r4_10, r0_3, mf_X3_minute, mf_X3_freshLeft, gLab_l.2.1, hc', eC_min, eC_can, c_all gLab_l hr hc hH hA, c_allHeld gLab_l hr hc hH hA, c_openBaths gLab_l hr hc hH hA]
    · subst y5; simp (disch := omega) only [zlet, zcl_ok, zl_lit, zl_m1, nI_add, zald_nI, nI_ltE, nI_leE, nI_eqE, zm1_lt', zm1_le', zm1_nlt', zm1_nle', zm1_ne, zm1_ne', zm1_add1, gwI, grI_rI, zrI_s, zrI_n, zrI_L, gwL, grL_rL, zrL_s, zrL_n, zrL_I, Nat.zero_add, ↓reduceIte, if_true, if_false, gB_0, gB_1, gB_01, zchk_t, gB_1e, eq_self, r89_14, eM_min, eM_can, nI_subE, m_those hH hA, m_nowHeld hH hA, m_nowOpen hH hA, Nat.reduceSub]
  by_cases y6 : y = nI 6
  · refine ⟨nI (gOp h a), ?_, ?_⟩
    · subst y6; simp (disch := (first | assumption | omega | exact gRC.row (by omega) (by assumption) | exact gRC.row (by omega) (gRC.row (by omega) (by assumption)))) only [zlet, zcl_ok, zl_lit, zl_m1, nI_add, zald_nI, nI_ltE, nI_leE, nI_eqE, zm1_lt', zm1_le', zm1_nlt', zm1_nle', zm1_ne, zm1_ne', zm1_add1, gwI, grI_rI, zrI_s, zrI_n, zrI_L, gwL, grL_rL, zrL_s, zrL_n, zrL_I, Nat.zero_add, ↓reduceIte, if_true, if_false, gB_0, gB_1, gB_01, zchk_t, gB_1e, eq_self, r4_6, r4_7, r4_8, r4_9, r4_10, r0_3, mf_X3_minute, mf_X3_freshLeft, gLab_l.2.1, hc', eC_min, eC_can, c_all gLab_l hr hc hH hA, c_allHeld gLab_l hr hc hH hA, c_openBaths gLab_l hr hc hH hA]
    · subst y6; simp (disch := omega) only [zlet, zcl_ok, zl_lit, zl_m1, nI_add, zald_nI, nI_ltE, nI_leE, nI_eqE, zm1_lt', zm1_le', zm1_nlt', zm1_nle', zm1_ne, zm1_ne', zm1_add1, gwI, grI_rI, zrI_s, zrI_n, zrI_L, gwL, grL_rL, zrL_s, zrL_n, zrL_I, Nat.zero_add, ↓reduceIte, if_true, if_false, gB_0, gB_1, gB_01, zchk_t, gB_1e, eq_self, r89_14, eM_min, eM_can, nI_subE, m_those hH hA, m_nowHeld hH hA, m_nowOpen hH hA, Nat.reduceSub]
  by_cases y7 : y = nI 7
  · refine ⟨nI (a 1), ?_, ?_⟩
    · subst y7; simp (disch := (first | assumption | omega | exact gRC.row (by omega) (by assumption) | exact gRC.row (by omega) (gRC.row (by omega) (by assumption)))) only [zlet, zcl_ok, zl_lit, zl_m1, nI_add, zald_nI, nI_ltE, nI_leE, nI_eqE, zm1_lt', zm1_le', zm1_nlt', zm1_nle', zm1_ne, zm1_ne', zm1_add1, gwI, grI_rI, zrI_s, zrI_n, zrI_L, gwL, grL_rL, zrL_s, zrL_n, zrL_I, Nat.zero_add, ↓reduceIte, if_true, if_false, gB_0, gB_1, gB_01, zchk_t, gB_1e, eq_self, r4_6, r4_7, r4_8, r4_9, r4_10, r0_3, mf_X3_minute, mf_X3_freshLeft, gLab_l.2.1, hc', eC_min, eC_can, c_all gLab_l hr hc hH hA, c_allHeld gLab_l hr hc hH hA, c_openBaths gLab_l hr hc hH hA]
    · subst y7; simp (disch := omega) only [zlet, zcl_ok, zl_lit, zl_m1, nI_add, zald_nI, nI_ltE, nI_leE, nI_eqE, zm1_lt', zm1_le', zm1_nlt', zm1_nle', zm1_ne, zm1_ne', zm1_add1, gwI, grI_rI, zrI_s, zrI_n, zrI_L, gwL, grL_rL, zrL_s, zrL_n, zrL_I, Nat.zero_add, ↓reduceIte, if_true, if_false, gB_0, gB_1, gB_01, zchk_t, gB_1e, eq_self, r89_14, eM_min, eM_can, nI_subE, m_those hH hA, m_nowHeld hH hA, m_nowOpen hH hA, Nat.reduceSub]
  refine ⟨zm1, ?_, ?_⟩
  · simp (disch := (first | assumption | omega | exact gRC.row (by omega) (by assumption) | exact gRC.row (by omega) (gRC.row (by omega) (by assumption)))) only [zlet, zcl_ok, zl_lit, zl_m1, nI_add, zald_nI, nI_ltE, nI_leE, nI_eqE, zm1_lt', zm1_le', zm1_nlt', zm1_nle', zm1_ne, zm1_ne', zm1_add1, gwI, grI_rI, zrI_s, zrI_n, zrI_L, gwL, grL_rL, zrL_s, zrL_n, zrL_I, Nat.zero_add, ↓reduceIte, if_true, if_false, gB_0, gB_1, gB_01, zchk_t, gB_1e, eq_self, r4_6, r4_7, r4_8, r4_9, r4_10, r0_3, mf_X3_minute, mf_X3_freshLeft, gLab_l.2.1, hc', eC_min, eC_can, c_all gLab_l hr hc hH hA, c_allHeld gLab_l hr hc hH hA, c_openBaths gLab_l hr hc hH hA, y0, y1, y2, y3, y4, y5, y6, y7]
  · simp (disch := omega) only [zlet, zcl_ok, zl_lit, zl_m1, nI_add, zald_nI, nI_ltE, nI_leE, nI_eqE, zm1_lt', zm1_le', zm1_nlt', zm1_nle', zm1_ne, zm1_ne', zm1_add1, gwI, grI_rI, zrI_s, zrI_n, zrI_L, gwL, grL_rL, zrL_s, zrL_n, zrL_I, Nat.zero_add, ↓reduceIte, if_true, if_false, gB_0, gB_1, gB_01, zchk_t, gB_1e, eq_self, r89_14, eM_min, eM_can, nI_subE, m_those hH hA, m_nowHeld hH hA, m_nowOpen hH hA, Nat.reduceSub, y0, y1, y2, y3, y4, y5, y6, y7]
theorem q_jam {h a : zN} {t : Nat → Int32} {M : zMem} (W : gW h a t M) : ∃ r, mf_X11_jam gR 0 M = some (r, M) ∧ mf_X12_jam gR 89 M = some (r, zwI M 89 0 (nI 0)) := by
  obtain ⟨hr, hc, hm, hH, hA⟩ := W
  have hc' : M.1 17 = encC a (gIn a) (M.1 17) := hc
  obtain ⟨q0, q1, q2, q3, q4, q5, qh, ql, qp, qa⟩ := id hr
  obtain ⟨k0, k1, k2, k3, k4, k5, kh, kl, ka, kp⟩ := id hH
  have hm0 : (zwI M 89 0 (nI 0)).1 91 = encM h a t := by rw [zwI_n (by decide)]; exact hm
  unfold mf_X11_jam mf_X12_jam
  simp only [zlet, zl_lit]
  generalize zwI M 89 0 (nI 0) = M1 at hm0
  rw [← grI_id hm0]
  refine ⟨enI (gFo (gJs h a) (h 0) 0), ?_, ?_⟩
  · simp (disch := (first | assumption | omega | exact gRC.row (by omega) (by assumption) | exact gRC.row (by omega) (gRC.row (by omega) (by assumption)))) only [zlet, zcl_ok, zl_lit, zl_m1, nI_add, zald_nI, nI_ltE, nI_leE, nI_eqE, zm1_lt', zm1_le', zm1_nlt', zm1_nle', zm1_ne, zm1_ne', zm1_add1, gwI, grI_rI, zrI_s, zrI_n, zrI_L, gwL, grL_rL, zrL_s, zrL_n, zrL_I, Nat.zero_add, ↓reduceIte, if_true, if_false, gB_0, gB_1, gB_01, zchk_t, gB_1e, eq_self, r4_6, r4_7, r4_8, r4_9, r4_10, r0_3, c_jam gLab_l hr hc hH hA]
  · simp (disch := omega) only [zlet, zcl_ok, zl_lit, zl_m1, nI_add, zald_nI, nI_ltE, nI_leE, nI_eqE, zm1_lt', zm1_le', zm1_nlt', zm1_nle', zm1_ne, zm1_ne', zm1_add1, gwI, grI_rI, zrI_s, zrI_n, zrI_L, gwL, grL_rL, zrL_s, zrL_n, zrL_I, Nat.zero_add, ↓reduceIte, if_true, if_false, gB_0, gB_1, gB_01, zchk_t, gB_1e, eq_self, m_jam9 hH hA]
theorem q_often {h a : zN} {t : Nat → Int32} {M : zMem} (W : gW h a t M) (hT : ∀ s, s < 8 → a (48 + s) < 2 ^ 30) : ∃ r, mf_X11_often gR 0 M = some (r, M) ∧ mf_X12_often gR 89 M = some (r, zwI M 89 0 (nI 0)) := by
  obtain ⟨hr, hc, hm, hH, hA⟩ := W
  have hc' : M.1 17 = encC a (gIn a) (M.1 17) := hc
  obtain ⟨q0, q1, q2, q3, q4, q5, qh, ql, qp, qa⟩ := id hr
  obtain ⟨k0, k1, k2, k3, k4, k5, kh, kl, ka, kp⟩ := id hH
  have hm0 : (zwI M 89 0 (nI 0)).1 91 = encM h a t := by rw [zwI_n (by decide)]; exact hm
  unfold mf_X11_often mf_X12_often
  simp only [zlet, zl_lit]
  generalize zwI M 89 0 (nI 0) = M1 at hm0
  rw [← grI_id hm0]
  refine ⟨enI (gFo (gOf a) (h 2) 0), ?_, ?_⟩
  · simp (disch := (first | assumption | omega | exact gRC.row (by omega) (by assumption) | exact gRC.row (by omega) (gRC.row (by omega) (by assumption)))) only [zlet, zcl_ok, zl_lit, zl_m1, nI_add, zald_nI, nI_ltE, nI_leE, nI_eqE, zm1_lt', zm1_le', zm1_nlt', zm1_nle', zm1_ne, zm1_ne', zm1_add1, gwI, grI_rI, zrI_s, zrI_n, zrI_L, gwL, grL_rL, zrL_s, zrL_n, zrL_I, Nat.zero_add, ↓reduceIte, if_true, if_false, gB_0, gB_1, gB_01, zchk_t, gB_1e, eq_self, r4_6, r4_7, r4_8, r4_9, r4_10, r0_3, c_often gLab_l hr hc hH hT]
  · simp (disch := omega) only [zlet, zcl_ok, zl_lit, zl_m1, nI_add, zald_nI, nI_ltE, nI_leE, nI_eqE, zm1_lt', zm1_le', zm1_nlt', zm1_nle', zm1_ne, zm1_ne', zm1_add1, gwI, grI_rI, zrI_s, zrI_n, zrI_L, gwL, grL_rL, zrL_s, zrL_n, zrL_I, Nat.zero_add, ↓reduceIte, if_true, if_false, gB_0, gB_1, gB_01, zchk_t, gB_1e, eq_self, m_often9 hH hT]
theorem q_block {h a : zN} {t : Nat → Int32} {M : zMem} (W : gW h a t M) (x : Int32) : ∃ r, mf_X11_block gR 0 x M = some (r, M) ∧ mf_X12_block gR 89 x M = some (r, zwI M 89 0 (nI 0)) := by
  obtain ⟨hr, hc, hm, hH, hA⟩ := W
  have hc' : M.1 17 = encC a (gIn a) (M.1 17) := hc
  obtain ⟨q0, q1, q2, q3, q4, q5, qh, ql, qp, qa⟩ := id hr
  obtain ⟨k0, k1, k2, k3, k4, k5, kh, kl, ka, kp⟩ := id hH
  have hm0 : (zwI M 89 0 (nI 0)).1 91 = encM h a t := by rw [zwI_n (by decide)]; exact hm
  unfold mf_X11_block mf_X12_block
  simp only [zlet, zl_lit]
  generalize zwI M 89 0 (nI 0) = M1 at hm0
  rw [← grI_id hm0]
  rcases gcase (n := h 2) (by omega) x with ⟨s, hs, rfl⟩ | ho
  · have hs8 : s < 8 := by omega
    obtain ⟨p1, p2, p3, p4, p5, p6⟩ := hA.2.2 s hs8
    cases e : gHeld a s
    · refine ⟨zm1, ?_, ?_⟩
      · simp (disch := (first | assumption | omega | exact gRC.row (by omega) (by assumption) | exact gRC.row (by omega) (gRC.row (by omega) (by assumption)))) only [zlet, zcl_ok, zl_lit, zl_m1, nI_add, zald_nI, nI_ltE, nI_leE, nI_eqE, zm1_lt', zm1_le', zm1_nlt', zm1_nle', zm1_ne, zm1_ne', zm1_add1, gwI, grI_rI, zrI_s, zrI_n, zrI_L, gwL, grL_rL, zrL_s, zrL_n, zrL_I, Nat.zero_add, ↓reduceIte, if_true, if_false, gB_0, gB_1, gB_01, zchk_t, gB_1e, eq_self, r4_6, r4_7, r4_8, r4_9, r4_10, r0_3, c_isHeld gLab_l hr hc hH hA hs, e]
      · simp (disch := omega) only [zlet, zcl_ok, zl_lit, zl_m1, nI_add, zald_nI, nI_ltE, nI_leE, nI_eqE, zm1_lt', zm1_le', zm1_nlt', zm1_nle', zm1_ne, zm1_ne', zm1_add1, gwI, grI_rI, zrI_s, zrI_n, zrI_L, gwL, grL_rL, zrL_s, zrL_n, zrL_I, Nat.zero_add, ↓reduceIte, if_true, if_false, gB_0, gB_1, gB_01, zchk_t, gB_1e, eq_self, m_isSheet hH hs, m_isHeld hs8 (hA.2.2 s hs8), e]
    · have e1 : a (8 + s) = 1 := by
        unfold gHeld at e
        simp only [Bool.and_eq_true, decide_eq_true_eq] at e
        exact e.1
      obtain ⟨b, hb⟩ : ∃ b, a (16 + s) = b + 1 := ⟨a (16 + s) - 1, by have := p3.mp e1; omega⟩
      have hb0 : b < h 0 := by omega
      by_cases e2 : gNx h s (b + 1) = h 0
      · have hz : gOut (h 0) zm1 := Or.inl (by decide +kernel)
        refine ⟨nI 0, ?_, ?_⟩
        · simp (disch := (first | assumption | omega | exact gRC.row (by omega) (by assumption) | exact gRC.row (by omega) (gRC.row (by omega) (by assumption)))) only [zlet, zcl_ok, zl_lit, zl_m1, nI_add, zald_nI, nI_ltE, nI_leE, nI_eqE, zm1_lt', zm1_le', zm1_nlt', zm1_nle', zm1_ne, zm1_ne', zm1_add1, gwI, grI_rI, zrI_s, zrI_n, zrI_L, gwL, grL_rL, zrL_s, zrL_n, zrL_I, Nat.zero_add, ↓reduceIte, if_true, if_false, gB_0, gB_1, gB_01, zchk_t, gB_1e, eq_self, r4_6, r4_7, r4_8, r4_9, r4_10, r0_1, r0_3, c_isHeld gLab_l hr hc hH hA hs, e, Bool.true_eq_false, mf_X3_bathOf, gLab_l.1, gLab_l.2.1, c_hasSheet hr hH hs, hc', eC_whe, hb, enI_s, c_afterS hr hH hs hb0, enX_eq, e2, mf_X3_insideOf, c_hasBath_n hr hz]
        · simp (disch := omega) only [zlet, zcl_ok, zl_lit, zl_m1, nI_add, zald_nI, nI_ltE, nI_leE, nI_eqE, zm1_lt', zm1_le', zm1_nlt', zm1_nle', zm1_ne, zm1_ne', zm1_add1, gwI, grI_rI, zrI_s, zrI_n, zrI_L, gwL, grL_rL, zrL_s, zrL_n, zrL_I, Nat.zero_add, ↓reduceIte, if_true, if_false, gB_0, gB_1, gB_01, zchk_t, gB_1e, eq_self, m_isSheet hH hs, m_isHeld hs8 (hA.2.2 s hs8), e, Bool.true_eq_false, r89_14, eM_in, hb, enI_s, m_nextS hH hs hb0, enX_eq, e2]
      · have hn := gNx_lt (h := h) (s := s) (k := b + 1) (by omega) e2
        refine ⟨nI (gIn a (gNx h s (b + 1))), ?_, ?_⟩
        · simp (disch := (first | assumption | omega | exact gRC.row (by omega) (by assumption) | exact gRC.row (by omega) (gRC.row (by omega) (by assumption)))) only [zlet, zcl_ok, zl_lit, zl_m1, nI_add, zald_nI, nI_ltE, nI_leE, nI_eqE, zm1_lt', zm1_le', zm1_nlt', zm1_nle', zm1_ne, zm1_ne', zm1_add1, gwI, grI_rI, zrI_s, zrI_n, zrI_L, gwL, grL_rL, zrL_s, zrL_n, zrL_I, Nat.zero_add, ↓reduceIte, if_true, if_false, gB_0, gB_1, gB_01, zchk_t, gB_1e, eq_self, r4_6, r4_7, r4_8, r4_9, r4_10, r0_1, r0_3, c_isHeld gLab_l hr hc hH hA hs, e, Bool.true_eq_false, mf_X3_bathOf, gLab_l.1, gLab_l.2.1, c_hasSheet hr hH hs, hc', eC_whe, hb, enI_s, c_afterS hr hH hs hb0, enX_eq, e2, mf_X3_insideOf, c_hasBath hr hH hn, eC_ins]
        · simp (disch := omega) only [zlet, zcl_ok, zl_lit, zl_m1, nI_add, zald_nI, nI_ltE, nI_leE, nI_eqE, zm1_lt', zm1_le', zm1_nlt', zm1_nle', zm1_ne, zm1_ne', zm1_add1, gwI, grI_rI, zrI_s, zrI_n, zrI_L, gwL, grL_rL, zrL_s, zrL_n, zrL_I, Nat.zero_add, ↓reduceIte, if_true, if_false, gB_0, gB_1, gB_01, zchk_t, gB_1e, eq_self, m_isSheet hH hs, m_isHeld hs8 (hA.2.2 s hs8), e, Bool.true_eq_false, r89_14, eM_in, hb, enI_s, m_nextS hH hs hb0, enX_eq, e2, m_sheetsIn hH hA]
  · refine ⟨zm1, ?_, ?_⟩
    · simp (disch := (first | assumption | omega | exact gRC.row (by omega) (by assumption) | exact gRC.row (by omega) (gRC.row (by omega) (by assumption)))) only [zlet, zcl_ok, zl_lit, zl_m1, nI_add, zald_nI, nI_ltE, nI_leE, nI_eqE, zm1_lt', zm1_le', zm1_nlt', zm1_nle', zm1_ne, zm1_ne', zm1_add1, gwI, grI_rI, zrI_s, zrI_n, zrI_L, gwL, grL_rL, zrL_s, zrL_n, zrL_I, Nat.zero_add, ↓reduceIte, if_true, if_false, gB_0, gB_1, gB_01, zchk_t, gB_1e, eq_self, r4_6, r4_7, r4_8, r4_9, r4_10, r0_3, c_isHeld_n gLab_l hr ho]
    · simp (disch := omega) only [zlet, zcl_ok, zl_lit, zl_m1, nI_add, zald_nI, nI_ltE, nI_leE, nI_eqE, zm1_lt', zm1_le', zm1_nlt', zm1_nle', zm1_ne, zm1_ne', zm1_add1, gwI, grI_rI, zrI_s, zrI_n, zrI_L, gwL, grL_rL, zrL_s, zrL_n, zrL_I, Nat.zero_add, ↓reduceIte, if_true, if_false, gB_0, gB_1, gB_01, zchk_t, gB_1e, eq_self, m_isSheet_n hH ho]
