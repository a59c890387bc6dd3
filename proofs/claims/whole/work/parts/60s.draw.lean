/-! MINUTES DRAWN -/
theorem zl8 : (8 : Int32) = nI 8 := rfl
theorem cm_draws {h a : zN} {c : Nat} (hH : gH h) (hA : gA h a) (hO : gO c a) (x : Int32) : ∃ a' x', (∀ (M : zMem) (a0 cc : Nat) (z : Nat → Int32), gLab a0 cc → cc ≠ 59 → gRC h M → mf_X1_actByDraw gR 59 a0 (zrowI (zwI M 59 0 x) cc (eC a z)) = some ((), zrowI (zwI M 59 0 x') cc (eC a' z))) ∧ (∀ (M : zMem) (t : Nat → Int32), mf_X12_drawsFirst gR 89 (zrowI (zwI M 89 42 x) 91 (encM h a t)) = some ((), zrowI (zwI M 89 42 x') 91 (encM h a' t))) ∧ gA h a' ∧ gO (c + 1) a' ∧ a' 0 = a 0 := by
  obtain ⟨k0, k1, k2, k3, k4, k5, kh, kl, ka, kp⟩ := id hH
  have ld := Nat.mod_lt (gD24 (gSd x)) (show 0 < 8 by omega)
  have hrow : ∀ (M : zMem) (cc : Nat) (v : Int32) (z : Nat → Int32), 9 < cc → gRC h M → gRC h (zwI M 59 0 v) := fun M cc v z h1 hr => gRC.row (by decide) hr
  by_cases c1 : gD24 (gSd x) % 8 < 3 ∧ 0 < h 2
  · obtain ⟨g1, g2, g3⟩ := gDo_ok (k := 0) (x := gD24 (gSd (gSd x)) % h 2) hH hA hO (by omega) (show _ < h 2 from Nat.mod_lt _ c1.2)
    refine ⟨gDo h a 0 (gD24 (gSd (gSd x)) % h 2), gSd (gSd x), fun M a0 cc z hR h59 hr => ?_, fun M t => ?_, g1, g2, g3⟩
    · have hl := hR.2.2
      obtain ⟨q0, q1, q2, -⟩ := id hr
      have e4 : (zrowI (zwI M 59 0 x) cc (eC a z)).1 4 = M.1 4 := by rw [zrI_n (by omega), zwI_n (by decide)]
      unfold mf_X1_actByDraw
      rw [hR.1, e4, q2, q0, zl8]
      simp only [zlet_ok]
      rw [c_draw h59 (by omega) (by omega)]
      simp only [zcl_ok, zl_lit]
      rw [if_neg (by rw [nI_ltI (by omega) (by omega)]; omega), if_neg (by rw [nI_leI (by omega) (by omega)]; omega), c_draw h59 c1.2 (by omega), zcl_ok]
      exact c_do0 hR (hrow M cc _ z hl hr) hH hA (Nat.mod_lt _ c1.2)
    · unfold mf_X12_drawsFirst
      rw [zl8, m_draw (by omega) (by omega)]
      have e8 : ¬ gD24 (gSd x) % 8 = 3 := by omega
      have e9 : ¬ gD24 (gSd x) % 8 = 4 := by omega
      have e10 : ¬ gD24 (gSd x) % 8 = 5 := by omega
      simp only [zcl_ok, zl_lit, zlet_ok]
      rw [zald_nI (by omega) (by omega), r89_14, zrI_s, eM_h (by omega), if_neg (by rw [nI_leI (by omega) (by omega)]; omega), if_neg (by rw [nI_leI (by omega) (by omega)]; omega), m_draw c1.2 (by omega), zcl_ok, m_doIf hH hA (by omega) (show _ < h 2 from Nat.mod_lt _ c1.2), zcl_ok]
      simp (disch := omega) only [zlet_ok, zcl_ok, zl_lit, zl_m1, nI_add, zald_nI, nI_ltE, nI_leE, nI_eqE, zm1_lt', zm1_le', zm1_nlt', zm1_nle', zm1_ne, zm1_ne', zm1_add1, gwI, grI_rI, zrI_s, zrI_n, zrI_L, gwL, grL_rL, zrL_s, zrL_n, zrL_I, Nat.zero_add, ↓reduceIte, if_true, if_false, gB_0, gB_1, gB_01, zchk_t, gB_1e, eq_self, gcle, gcnle, gclt, gcnlt, gcne, not_true_eq_false, not_false_eq_true, true_or, or_true, false_or, or_false, true_and, and_true, false_and, and_false, mf_X12_drawsFirst_b33, mf_X12_drawsFirst_b52, mf_X12_drawsFirst_b81, e8, e9, e10]
  · by_cases c2 : gD24 (gSd x) % 8 = 3 ∧ 0 < h 2
    · obtain ⟨g1, g2, g3⟩ := gDo_ok (k := 2) (x := gD24 (gSd (gSd x)) % h 2) hH hA hO (by omega) (show _ < h 2 from Nat.mod_lt _ c2.2)
      refine ⟨gDo h a 2 (gD24 (gSd (gSd x)) % h 2), gSd (gSd x), fun M a0 cc z hR h59 hr => ?_, fun M t => ?_, g1, g2, g3⟩
      · have hl := hR.2.2
        obtain ⟨q0, q1, q2, -⟩ := id hr
        have e4 : (zrowI (zwI M 59 0 x) cc (eC a z)).1 4 = M.1 4 := by rw [zrI_n (by omega), zwI_n (by decide)]
        unfold mf_X1_actByDraw
        rw [hR.1, e4, q2, q0, zl8]
        simp only [zlet_ok]
        rw [c_draw h59 (by omega) (by omega), c2.1]
        simp only [zcl_ok, zl_lit, mf_X1_actByDraw_b47]
        rw [if_pos (by rw [nI_ltI (by omega) (by omega)]; omega), if_pos trivial, if_neg (by rw [nI_leI (by omega) (by omega)]; omega), c_draw h59 c2.2 (by omega), zcl_ok]
        exact c_do2 hR (hrow M cc _ z hl hr) hH hA (Nat.mod_lt _ c2.2)
      · unfold mf_X12_drawsFirst
        rw [zl8, m_draw (by omega) (by omega), c2.1]
        simp only [zcl_ok, zl_lit, zlet_ok, mf_X12_drawsFirst_b33]
        rw [zald_nI (by omega) (by omega), r89_14, zrI_s, eM_h (by omega), if_pos (by rw [nI_leI (by omega) (by omega)]; omega), if_pos trivial, if_neg (by rw [nI_leI (by omega) (by omega)]; omega), m_draw c2.2 (by omega), zcl_ok, m_doIf hH hA (by omega) (show _ < h 2 from Nat.mod_lt _ c2.2), zcl_ok]
        simp (disch := omega) only [zlet_ok, zcl_ok, zl_lit, zl_m1, nI_add, zald_nI, nI_ltE, nI_leE, nI_eqE, zm1_lt', zm1_le', zm1_nlt', zm1_nle', zm1_ne, zm1_ne', zm1_add1, gwI, grI_rI, zrI_s, zrI_n, zrI_L, gwL, grL_rL, zrL_s, zrL_n, zrL_I, Nat.zero_add, ↓reduceIte, if_true, if_false, gB_0, gB_1, gB_01, zchk_t, gB_1e, eq_self, gcle, gcnle, gclt, gcnlt, gcne, not_true_eq_false, not_false_eq_true, true_or, or_true, false_or, or_false, true_and, and_true, false_and, and_false, mf_X12_drawsFirst_b52, mf_X12_drawsFirst_b81]
    · by_cases c3 : gD24 (gSd x) % 8 = 4 ∧ 0 < h 0
      · obtain ⟨g1, g2, g3⟩ := gDo_ok (k := 3) (x := gD24 (gSd (gSd x)) % h 0) hH hA hO (by omega) (show _ < h 0 from Nat.mod_lt _ c3.2)
        refine ⟨gDo h a 3 (gD24 (gSd (gSd x)) % h 0), gSd (gSd x), fun M a0 cc z hR h59 hr => ?_, fun M t => ?_, g1, g2, g3⟩
        · have hl := hR.2.2
          obtain ⟨q0, q1, q2, -⟩ := id hr
          have e4 : (zrowI (zwI M 59 0 x) cc (eC a z)).1 4 = M.1 4 := by rw [zrI_n (by omega), zwI_n (by decide)]
          unfold mf_X1_actByDraw
          rw [hR.1, e4, q2, q0, zl8]
          simp only [zlet_ok]
          rw [c_draw h59 (by omega) (by omega), c3.1]
          have e34 : ¬ nI 4 = nI 3 := by decide +kernel
          simp only [zcl_ok, zl_lit, mf_X1_actByDraw_b47, mf_X1_actByDraw_b70, e34, if_false]
          rw [if_pos (by rw [nI_ltI (by omega) (by omega)]; omega), if_pos trivial, if_neg (by rw [nI_leI (by omega) (by omega)]; omega), c_draw h59 c3.2 (by omega), zcl_ok]
          exact c_do3 hR (hrow M cc _ z hl hr) hH hA (Nat.mod_lt _ c3.2)
        · unfold mf_X12_drawsFirst
          rw [zl8, m_draw (by omega) (by omega), c3.1]
          have e34 : ¬ nI 4 = nI 3 := by decide +kernel
          simp only [zcl_ok, zl_lit, zlet_ok, mf_X12_drawsFirst_b33, mf_X12_drawsFirst_b52, e34, if_false]
          rw [zald_nI (by omega) (by omega), r89_14, if_pos (by rw [nI_leI (by omega) (by omega)]; omega), if_pos trivial, zald_nI (by omega) (by omega), zrI_s, eM_h (by omega), if_neg (by rw [nI_leI (by omega) (by omega)]; omega), zald_nI (by omega) (by omega), eM_h (by omega), m_draw c3.2 (by omega), zcl_ok, m_doIf hH hA (by omega) (show _ < h 0 from Nat.mod_lt _ c3.2), zcl_ok]
          simp (disch := omega) only [zlet_ok, zcl_ok, zl_lit, zl_m1, nI_add, zald_nI, nI_ltE, nI_leE, nI_eqE, zm1_lt', zm1_le', zm1_nlt', zm1_nle', zm1_ne, zm1_ne', zm1_add1, gwI, grI_rI, zrI_s, zrI_n, zrI_L, gwL, grL_rL, zrL_s, zrL_n, zrL_I, Nat.zero_add, ↓reduceIte, if_true, if_false, gB_0, gB_1, gB_01, zchk_t, gB_1e, eq_self, gcle, gcnle, gclt, gcnlt, gcne, not_true_eq_false, not_false_eq_true, true_or, or_true, false_or, or_false, true_and, and_true, false_and, and_false, mf_X12_drawsFirst_b81]
      · by_cases c4 : gD24 (gSd x) % 8 = 5
        · have e53 : ¬ nI 5 = nI 3 := by decide +kernel
          have e54 : ¬ nI 5 = nI 4 := by decide +kernel
          by_cases c5 : gD24 (gSd (gSd x)) % 4 = 0 ∧ 0 < h 2
          · obtain ⟨g1, g2, g3⟩ := gDo_ok (k := 1) (x := gD24 (gSd (gSd (gSd x))) % h 2) hH hA hO (by omega) (show _ < h 2 from Nat.mod_lt _ c5.2)
            refine ⟨gDo h a 1 (gD24 (gSd (gSd (gSd x))) % h 2), gSd (gSd (gSd x)), fun M a0 cc z hR h59 hr => ?_, fun M t => ?_, g1, g2, g3⟩
            · have hl := hR.2.2
              obtain ⟨q0, q1, q2, -⟩ := id hr
              have e4 : (zrowI (zwI M 59 0 x) cc (eC a z)).1 4 = M.1 4 := by rw [zrI_n (by omega), zwI_n (by decide)]
              unfold mf_X1_actByDraw
              rw [hR.1, e4, q2, q0, zl8]
              simp only [zlet_ok]
              rw [c_draw h59 (by omega) (by omega), c4]
              simp only [zcl_ok, zl_lit, mf_X1_actByDraw_b47, mf_X1_actByDraw_b70, mf_X1_actByDraw_b93, e53, e54, if_false]
              rw [if_pos (by rw [nI_ltI (by omega) (by omega)]; omega), if_pos trivial, c_draw h59 (by omega) (by omega), c5.1, zcl_ok, if_pos rfl, if_neg (by rw [nI_leI (by omega) (by omega)]; omega), c_draw h59 c5.2 (by omega), zcl_ok]
              exact c_do1 hR (hrow M cc _ z hl hr) hH hA (Nat.mod_lt _ c5.2)
            · unfold mf_X12_drawsFirst
              rw [zl8, m_draw (by omega) (by omega), c4]
              simp only [zcl_ok, zl_lit, zlet_ok, mf_X12_drawsFirst_b33, mf_X12_drawsFirst_b52, mf_X12_drawsFirst_b81, e53, e54, if_false]
              rw [zald_nI (by omega) (by omega), r89_14, if_pos (by rw [nI_leI (by omega) (by omega)]; omega), if_pos trivial, m_draw (by omega) (by omega), c5.1, zcl_ok, if_pos rfl, zrI_s, eM_h (by omega), if_neg (by rw [nI_leI (by omega) (by omega)]; omega), m_draw c5.2 (by omega), zcl_ok, m_doIf hH hA (by omega) (show _ < h 2 from Nat.mod_lt _ c5.2), zcl_ok]
          · have l4 := Nat.mod_lt (gD24 (gSd (gSd x))) (show 0 < 4 by omega)
            refine ⟨a, gSd (gSd x), fun M a0 cc z hR h59 hr => ?_, fun M t => ?_, hA, hO.mono (by omega), rfl⟩
            · have hl := hR.2.2
              obtain ⟨q0, q1, q2, -⟩ := id hr
              have e4 : (zrowI (zwI M 59 0 x) cc (eC a z)).1 4 = M.1 4 := by rw [zrI_n (by omega), zwI_n (by decide)]
              unfold mf_X1_actByDraw
              rw [hR.1, e4, q2, q0, zl8]
              simp only [zlet_ok]
              rw [c_draw h59 (by omega) (by omega), c4]
              simp only [zcl_ok, zl_lit, mf_X1_actByDraw_b47, mf_X1_actByDraw_b70, mf_X1_actByDraw_b93, e53, e54, if_false]
              rw [if_pos (by rw [nI_ltI (by omega) (by omega)]; omega), if_pos trivial, c_draw h59 (by omega) (by omega), zcl_ok]
              by_cases c6 : gD24 (gSd (gSd x)) % 4 = 0
              · rw [c6, if_pos rfl, if_pos (by rw [nI_leI (by omega) (by omega)]; omega)]
              · rw [if_neg (by rw [nI_eq (by omega) (by omega)]; exact c6)]
            · unfold mf_X12_drawsFirst
              rw [zl8, m_draw (by omega) (by omega), c4]
              simp only [zcl_ok, zl_lit, zlet_ok, mf_X12_drawsFirst_b33, mf_X12_drawsFirst_b52, mf_X12_drawsFirst_b81, e53, e54, if_false]
              rw [zald_nI (by omega) (by omega), r89_14, if_pos (by rw [nI_leI (by omega) (by omega)]; omega), if_pos trivial, m_draw (by omega) (by omega), zcl_ok]
              by_cases c6 : gD24 (gSd (gSd x)) % 4 = 0
              · rw [c6, if_pos rfl, zrI_s, eM_h (by omega), if_pos (by rw [nI_leI (by omega) (by omega)]; omega)]
              · rw [if_neg (by rw [nI_eq (by omega) (by omega)]; exact c6)]
        · refine ⟨a, gSd x, fun M a0 cc z hR h59 hr => ?_, fun M t => ?_, hA, hO.mono (by omega), rfl⟩
          · have hl := hR.2.2
            obtain ⟨q0, q1, q2, -⟩ := id hr
            have e4 : (zrowI (zwI M 59 0 x) cc (eC a z)).1 4 = M.1 4 := by rw [zrI_n (by omega), zwI_n (by decide)]
            unfold mf_X1_actByDraw
            rw [hR.1, e4, q2, q0, zl8]
            simp only [zlet_ok]
            rw [c_draw h59 (by omega) (by omega), zcl_ok]
            generalize gD24 (gSd x) % 8 = d at c1 c2 c3 c4 ld
            by_cases d1 : d < 3
            · simp (disch := omega) only [zlet_ok, zcl_ok, zl_lit, zl_m1, nI_add, zald_nI, nI_ltE, nI_leE, nI_eqE, zm1_lt', zm1_le', zm1_nlt', zm1_nle', zm1_ne, zm1_ne', zm1_add1, gwI, grI_rI, zrI_s, zrI_n, zrI_L, gwL, grL_rL, zrL_s, zrL_n, zrL_I, Nat.zero_add, ↓reduceIte, if_true, if_false, gB_0, gB_1, gB_01, zchk_t, gB_1e, eq_self, gcle, gcnle, gclt, gcnlt, gcne, not_true_eq_false, not_false_eq_true, true_or, or_true, false_or, or_false, true_and, and_true, false_and, and_false, mf_X1_actByDraw_b47, mf_X1_actByDraw_b70, mf_X1_actByDraw_b93]
            · by_cases d3 : d = 3
              · simp (disch := omega) only [zlet_ok, zcl_ok, zl_lit, zl_m1, nI_add, zald_nI, nI_ltE, nI_leE, nI_eqE, zm1_lt', zm1_le', zm1_nlt', zm1_nle', zm1_ne, zm1_ne', zm1_add1, gwI, grI_rI, zrI_s, zrI_n, zrI_L, gwL, grL_rL, zrL_s, zrL_n, zrL_I, Nat.zero_add, ↓reduceIte, if_true, if_false, gB_0, gB_1, gB_01, zchk_t, gB_1e, eq_self, gcle, gcnle, gclt, gcnlt, gcne, not_true_eq_false, not_false_eq_true, true_or, or_true, false_or, or_false, true_and, and_true, false_and, and_false, mf_X1_actByDraw_b47, mf_X1_actByDraw_b70, mf_X1_actByDraw_b93, d3]
              · by_cases d4 : d = 4
                · simp (disch := omega) only [zlet_ok, zcl_ok, zl_lit, zl_m1, nI_add, zald_nI, nI_ltE, nI_leE, nI_eqE, zm1_lt', zm1_le', zm1_nlt', zm1_nle', zm1_ne, zm1_ne', zm1_add1, gwI, grI_rI, zrI_s, zrI_n, zrI_L, gwL, grL_rL, zrL_s, zrL_n, zrL_I, Nat.zero_add, ↓reduceIte, if_true, if_false, gB_0, gB_1, gB_01, zchk_t, gB_1e, eq_self, gcle, gcnle, gclt, gcnlt, gcne, not_true_eq_false, not_false_eq_true, true_or, or_true, false_or, or_false, true_and, and_true, false_and, and_false, mf_X1_actByDraw_b47, mf_X1_actByDraw_b70, mf_X1_actByDraw_b93, d4]
                · simp (disch := omega) only [zlet_ok, zcl_ok, zl_lit, zl_m1, nI_add, zald_nI, nI_ltE, nI_leE, nI_eqE, zm1_lt', zm1_le', zm1_nlt', zm1_nle', zm1_ne, zm1_ne', zm1_add1, gwI, grI_rI, zrI_s, zrI_n, zrI_L, gwL, grL_rL, zrL_s, zrL_n, zrL_I, Nat.zero_add, ↓reduceIte, if_true, if_false, gB_0, gB_1, gB_01, zchk_t, gB_1e, eq_self, gcle, gcnle, gclt, gcnlt, gcne, not_true_eq_false, not_false_eq_true, true_or, or_true, false_or, or_false, true_and, and_true, false_and, and_false, mf_X1_actByDraw_b47, mf_X1_actByDraw_b70, mf_X1_actByDraw_b93]
          · unfold mf_X12_drawsFirst
            rw [zl8, m_draw (by omega) (by omega), zcl_ok]
            generalize gD24 (gSd x) % 8 = d at c1 c2 c3 c4 ld
            by_cases d1 : d < 3
            · simp (disch := omega) only [zlet_ok, zcl_ok, zl_lit, zl_m1, nI_add, zald_nI, nI_ltE, nI_leE, nI_eqE, zm1_lt', zm1_le', zm1_nlt', zm1_nle', zm1_ne, zm1_ne', zm1_add1, gwI, grI_rI, zrI_s, zrI_n, zrI_L, gwL, grL_rL, zrL_s, zrL_n, zrL_I, Nat.zero_add, ↓reduceIte, if_true, if_false, gB_0, gB_1, gB_01, zchk_t, gB_1e, eq_self, gcle, gcnle, gclt, gcnlt, gcne, not_true_eq_false, not_false_eq_true, true_or, or_true, false_or, or_false, true_and, and_true, false_and, and_false, mf_X12_drawsFirst_b33, mf_X12_drawsFirst_b52, mf_X12_drawsFirst_b81, r89_14, eM_h]
            · by_cases d3 : d = 3
              · simp (disch := omega) only [zlet_ok, zcl_ok, zl_lit, zl_m1, nI_add, zald_nI, nI_ltE, nI_leE, nI_eqE, zm1_lt', zm1_le', zm1_nlt', zm1_nle', zm1_ne, zm1_ne', zm1_add1, gwI, grI_rI, zrI_s, zrI_n, zrI_L, gwL, grL_rL, zrL_s, zrL_n, zrL_I, Nat.zero_add, ↓reduceIte, if_true, if_false, gB_0, gB_1, gB_01, zchk_t, gB_1e, eq_self, gcle, gcnle, gclt, gcnlt, gcne, not_true_eq_false, not_false_eq_true, true_or, or_true, false_or, or_false, true_and, and_true, false_and, and_false, mf_X12_drawsFirst_b33, mf_X12_drawsFirst_b52, mf_X12_drawsFirst_b81, r89_14, eM_h, d3]
              · by_cases d4 : d = 4
                · simp (disch := omega) only [zlet_ok, zcl_ok, zl_lit, zl_m1, nI_add, zald_nI, nI_ltE, nI_leE, nI_eqE, zm1_lt', zm1_le', zm1_nlt', zm1_nle', zm1_ne, zm1_ne', zm1_add1, gwI, grI_rI, zrI_s, zrI_n, zrI_L, gwL, grL_rL, zrL_s, zrL_n, zrL_I, Nat.zero_add, ↓reduceIte, if_true, if_false, gB_0, gB_1, gB_01, zchk_t, gB_1e, eq_self, gcle, gcnle, gclt, gcnlt, gcne, not_true_eq_false, not_false_eq_true, true_or, or_true, false_or, or_false, true_and, and_true, false_and, and_false, mf_X12_drawsFirst_b33, mf_X12_drawsFirst_b52, mf_X12_drawsFirst_b81, r89_14, eM_h, d4]
                · simp (disch := omega) only [zlet_ok, zcl_ok, zl_lit, zl_m1, nI_add, zald_nI, nI_ltE, nI_leE, nI_eqE, zm1_lt', zm1_le', zm1_nlt', zm1_nle', zm1_ne, zm1_ne', zm1_add1, gwI, grI_rI, zrI_s, zrI_n, zrI_L, gwL, grL_rL, zrL_s, zrL_n, zrL_I, Nat.zero_add, ↓reduceIte, if_true, if_false, gB_0, gB_1, gB_01, zchk_t, gB_1e, eq_self, gcle, gcnle, gclt, gcnlt, gcne, not_true_eq_false, not_false_eq_true, true_or, or_true, false_or, or_false, true_and, and_true, false_and, and_false, mf_X12_drawsFirst_b33, mf_X12_drawsFirst_b52, mf_X12_drawsFirst_b81, r89_14, eM_h]
theorem cm_live {h : zN} (hH : gH h) : ∀ (k c : Nat) (a : zN) (x : Int32), gA h a → gO c a → a 0 + k ≤ 1000 → ∃ a' x', gA h a' ∧ gO (c + k) a' ∧ a' 0 = a 0 + k ∧ (∀ (M : zMem) (a0 cc : Nat) (z : Nat → Int32) (N i f : Nat), gLab a0 cc → cc ≠ 59 → gRC h M → i + k ≤ N → (i + k = N ∨ a 0 + k = 1000) → N < 1000 → k < f → mf_X1_liveMinutes_l8 gR 59 a0 f (nI N) (nI i) (zrowI (zwI M 59 0 x) cc (eC a z)) = some (nI (i + k), zrowI (zwI M 59 0 x') cc (eC a' z))) ∧ (∀ (M : zMem) (t : Nat → Int32) (i f : Nat), i + k < 1000 → k < f → mf_X12_drawMinutes_l24 gR 89 f (nI (i + k)) (nI i) (zrowI (zwI M 89 42 x) 91 (encM h a t)) = some (nI (i + k), zrowI (zwI M 89 42 x') 91 (encM h a' t)))
  | 0, c, a, x, hA, hO, hm => by
    refine ⟨a, x, hA, hO, rfl, fun M a0 cc z N i f hR h59 hr h1 h2 h3 h4 => ?_, fun M t i f h1 h2 => ?_⟩
    · match f, h4 with
      | f + 1, _ =>
        have o1 := hO.1
        by_cases e : i = N
        · simp (disch := omega) only [zlet_ok, zcl_ok, zl_lit, zl_m1, nI_add, zald_nI, nI_ltE, nI_leE, nI_eqE, zm1_lt', zm1_le', zm1_nlt', zm1_nle', zm1_ne, zm1_ne', zm1_add1, gwI, grI_rI, zrI_s, zrI_n, zrI_L, gwL, grL_rL, zrL_s, zrL_n, zrL_I, Nat.zero_add, ↓reduceIte, if_true, if_false, gB_0, gB_1, gB_01, zchk_t, gB_1e, eq_self, gcle, gcnle, gclt, gcnlt, gcne, not_true_eq_false, not_false_eq_true, true_or, or_true, false_or, or_false, true_and, and_true, false_and, and_false, mf_X1_liveMinutes_l8, e, Nat.add_zero]
        · have e1 : a 0 = 1000 := by omega
          have e2 : (eC a z) 60 = nI (a 0) := eC_min
          simp (disch := omega) only [zlet_ok, zcl_ok, zl_lit, zl_m1, nI_add, zald_nI, nI_ltE, nI_leE, nI_eqE, zm1_lt', zm1_le', zm1_nlt', zm1_nle', zm1_ne, zm1_ne', zm1_add1, gwI, grI_rI, zrI_s, zrI_n, zrI_L, gwL, grL_rL, zrL_s, zrL_n, zrL_I, Nat.zero_add, ↓reduceIte, if_true, if_false, gB_0, gB_1, gB_01, zchk_t, gB_1e, eq_self, gcle, gcnle, gclt, gcnlt, gcne, not_true_eq_false, not_false_eq_true, true_or, or_true, false_or, or_false, true_and, and_true, false_and, and_false, mf_X1_liveMinutes_l8, mf_X3_minute, hR.2.1, e2, Nat.add_zero]
    · match f, h2 with
      | f + 1, _ => simp (disch := omega) only [zlet_ok, zcl_ok, zl_lit, zl_m1, nI_add, zald_nI, nI_ltE, nI_leE, nI_eqE, zm1_lt', zm1_le', zm1_nlt', zm1_nle', zm1_ne, zm1_ne', zm1_add1, gwI, grI_rI, zrI_s, zrI_n, zrI_L, gwL, grL_rL, zrL_s, zrL_n, zrL_I, Nat.zero_add, ↓reduceIte, if_true, if_false, gB_0, gB_1, gB_01, zchk_t, gB_1e, eq_self, gcle, gcnle, gclt, gcnlt, gcne, not_true_eq_false, not_false_eq_true, true_or, or_true, false_or, or_false, true_and, and_true, false_and, and_false, mf_X12_drawMinutes_l24, Nat.le_refl, Nat.add_zero]
  | k + 1, c, a, x, hA, hO, hm => by
    obtain ⟨a1, x1, d1, d2, d3, d4, d5⟩ := cm_draws hH hA hO x
    have hA2 := gA_min hH d3
    have hO2 := gO_min hH d4 (by omega)
    have hm2 : gMin h a1 0 = a 0 + 1 := by rw [gMin_m, d5]
    obtain ⟨a', x', e1, e2, e3, e4, e5⟩ := cm_live hH k (c + 1) (gMin h a1) x1 hA2 hO2 (by omega)
    refine ⟨a', x', e1, e2.mono (by omega), by omega, fun M a0 cc z N i f hR h59 hr h1 h2 h3 h4 => ?_, fun M t i f h1 h2 => ?_⟩
    · match f, h4 with
      | f + 1, h4 =>
        have p1 := e4 M a0 cc z N (i + 1) f hR h59 hr (by omega) (by omega) h3 (by omega)
        have e2 : (eC a z) 60 = nI (a 0) := eC_min
        have hr2 : gRC h (zwI M 59 0 x1) := gRC.row (by decide) hr
        have p2 := c_passes (n := 1) (z := z) hR hr2 hH d3 (by decide)
        have p3 := d1 M a0 cc z hR h59 hr
        rw [mf_X1_liveMinutes_l8]
        simp only [zl_lit]
        rw [if_neg (by rw [nI_leI (by omega) (by omega)]; omega)]
        unfold mf_X3_minute
        rw [hR.2.1]
        simp only [zl_lit]
        rw [zald_nI (by omega) (by omega), zcl_ok, zrI_s, e2, if_neg (by rw [nI_leI (by omega) (by omega)]; omega), p3, zcl_ok, p2, zcl_ok, nI_add, show i + (k + 1) = i + 1 + k by omega]
        exact p1
    · match f, h2 with
      | f + 1, h2 =>
        have p1 := e5 M t (i + 1) f (by omega) (by omega)
        rw [mf_X12_drawMinutes_l24]
        rw [if_neg (by rw [nI_leI (by omega) (by omega)]; omega), d2, zcl_ok, m_oneMinute hH d3, zcl_ok, zl_lit, nI_add, show i + (k + 1) = i + 1 + k by omega]
        exact p1
