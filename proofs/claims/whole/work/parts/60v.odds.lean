/-! ODDS -/
theorem cm_odds {c : Nat} {h a : zN} {t : Nat → Int32} {s n : Nat} {y : Int32} (hH : gH h) (hA : gA h a) (hO : gO c a) (hs : s < h 2) (hn : n < 100) : ∀ (m i cnt f : Nat) (M1 M2 : zMem) (z : Nat → Int32), i + m = n → cnt ≤ i → m < f → gRC h M1 → M1.1 17 = eC a z → (∀ k, k < 56 → M2.1 97 (0 + k) = encM h a t (56 + k)) → ∃ r M1' M2', mf_X11_odds_l30 gR 0 f (nI s) (nI n) y (nI cnt) (nI i) M1 = some (r, M1') ∧ gF [19, 59] [] M1 M1' ∧ mf_X12_odds_l40 gR 89 f (nI s) (nI n) y (nI cnt) (nI i) (zrowI M2 91 (encM h a t)) = some (r, zrowI M2' 91 (encM h a t)) ∧ gF [] [42] M2 M2'
  | 0, i, cnt, f, M1, M2, z, hi, hcn, hf, hr, hc, hv => by
    match f, hf with
    | f + 1, _ =>
      have e : i = n := by omega
      subst e
      refine ⟨nI cnt, M1, M2, ?_, gF.r, ?_, gF.r⟩
      · simp (disch := omega) only [zlet_ok, zcl_ok, zl_lit, zl_m1, nI_add, zald_nI, nI_ltE, nI_leE, nI_eqE, zm1_lt', zm1_le', zm1_nlt', zm1_nle', zm1_ne, zm1_ne', zm1_add1, gwI, grI_rI, zrI_s, zrI_n, zrI_L, gwL, grL_rL, zrL_s, zrL_n, zrL_I, Nat.zero_add, ↓reduceIte, if_true, if_false, gB_0, gB_1, gB_01, zchk_t, gB_1e, eq_self, gcle, gcnle, gclt, gcnlt, gcne, not_true_eq_false, not_false_eq_true, true_or, or_true, false_or, or_false, true_and, and_true, false_and, and_false, mf_X11_odds_l30, Nat.le_refl]
      · simp (disch := omega) only [zlet_ok, zcl_ok, zl_lit, zl_m1, nI_add, zald_nI, nI_ltE, nI_leE, nI_eqE, zm1_lt', zm1_le', zm1_nlt', zm1_nle', zm1_ne, zm1_ne', zm1_add1, gwI, grI_rI, zrI_s, zrI_n, zrI_L, gwL, grL_rL, zrL_s, zrL_n, zrL_I, Nat.zero_add, ↓reduceIte, if_true, if_false, gB_0, gB_1, gB_01, zchk_t, gB_1e, eq_self, gcle, gcnle, gclt, gcnlt, gcne, not_true_eq_false, not_false_eq_true, true_or, or_true, false_or, or_false, true_and, and_true, false_and, and_false, mf_X12_odds_l40, Nat.le_refl]
  | m + 1, i, cnt, f, M1, M2, z, hi, hcn, hf, hr, hc, hv => by
    obtain ⟨k0, k1, k2, k3, k4, k5, kh, kl, ka, kp⟩ := id hH
    match f, hf with
    | f + 1, hf =>
      have o1 := hO.1
      have hg2 : a 0 + gMn 40 (a 0) ≤ 1000 := by unfold gMn; split <;> omega
      have hg3 : gMn 40 (a 0) ≤ 40 := by unfold gMn; split <;> omega
      obtain ⟨a', x', d1, d2, d3, d4, d5⟩ := cm_live hH (gMn 40 (a 0)) c a (y + nI i) hA hO hg2
      have q1 := d4 M1 18 19 (M1.1 19) 40 0 zF gLab_t (by decide) hr (by omega) (by unfold gMn; split <;> omega) (by omega) (by show _ < 5000; omega)
      have q2 := d5 M2 t 0 zF (by omega) (by show _ < 5000; omega)
      rw [Nat.zero_add] at q1 q2
      have f1 : gF [19, 59] [] M1 (zrowI (zwI M1 59 0 x') 19 (eC a' (M1.1 19))) := gF.rI (gF.wI gF.r (by decide) (by decide)) (by decide) (by decide)
      have hr1 := gRC.fr f1 (by decide) hr
      have e1 : mf_X1_liveMinutes gR 59 18 (nI 40) (y + nI i) (zrowI M1 19 (eC a (M1.1 19))) = some (nI (gMn 40 (a 0)), zrowI (zwI M1 59 0 x') 19 (eC a' (M1.1 19))) := by
        rw [← q1]
        unfold mf_X1_liveMinutes
        rw [zlet_ok, gw_59 (by decide)]
        try rfl
      have e2 : mf_X12_drawMinutes gR 89 (nI 40) (y + nI i) (zrowI M2 91 (encM h a t)) = some (nI (gMn 40 (a 0)), zrowI (zwI M2 89 42 x') 91 (encM h a' t)) := by
        rw [← q2]
        unfold mf_X12_drawMinutes
        simp only [zlet_ok, zl_lit]
        rw [gw_91, zald_nI (by omega) (by omega), r89_14, zrI_s, eM_min, m_least (by omega) o1, zcl_ok]
      have hv2 : ∀ k, k < 56 → (zwI M2 89 42 x').1 97 (0 + k) = encM h a t (56 + k) := fun k hk => by rw [zwI_n (by decide)]; exact hv k hk
      have p3 := (d1.2.2 s (by omega)).1
      have c1 := c_copy (a0 := 18) (c := 19) gLab_t gLab_l hc
      have c2 := c_howIs gLab_t hr1 zrI_s hH hs
      have b1 := m_backs (h := h) (a := a') (t := t) (t' := t) (a0 := a) (A := 97) (n1 := 56) (off := 0) (by decide) (by decide) (by decide) hv2
      by_cases ed : a' (8 + s) = 2
      · obtain ⟨r, M1', M2', w1, w2, w3, w4⟩ := cm_odds (y := y) hH hA hO hs hn m (i + 1) (cnt + 1) f _ (zwI M2 89 42 x') z (by omega) (by omega) (by omega) hr1 (by rw [f1.1 17 (by decide) (by decide)]; exact hc) hv2
        refine ⟨r, M1', M2', ?_, f1.trans w2, ?_, gF.trans (gF.w9 gF.r (by decide)) w4⟩
        · rw [← w1, mf_X11_odds_l30, r0_3, r0_4, r0_11]
          simp only [zl_lit]
          rw [if_neg (by rw [nI_leI (by omega) (by omega)]; omega), c1, zcl_ok, e1, zcl_ok, c2, zcl_ok, ed, if_pos rfl]
          unfold mf_X11_odds_b80
          rw [zl_lit, nI_add, nI_add]
        · rw [← w3, mf_X12_odds_l40]
          simp only [zl_lit]
          rw [if_neg (by rw [nI_leI (by omega) (by omega)]; omega), e2, zcl_ok, nI_add, zald_nI (by omega) (by omega), r89_14, zrI_s, eM_how (by omega), ed, if_pos rfl]
          unfold mf_X12_odds_b73
          rw [r89_20, zl_lit, b1, zcl_ok, zl_lit, nI_add, nI_add]
      · obtain ⟨r, M1', M2', w1, w2, w3, w4⟩ := cm_odds (y := y) hH hA hO hs hn m (i + 1) cnt f _ (zwI M2 89 42 x') z (by omega) (by omega) (by omega) hr1 (by rw [f1.1 17 (by decide) (by decide)]; exact hc) hv2
        refine ⟨r, M1', M2', ?_, f1.trans w2, ?_, gF.trans (gF.w9 gF.r (by decide)) w4⟩
        · rw [← w1, mf_X11_odds_l30, r0_3, r0_4, r0_11]
          simp only [zl_lit]
          rw [if_neg (by rw [nI_leI (by omega) (by omega)]; omega), c1, zcl_ok, e1, zcl_ok, c2, zcl_ok, if_neg (by rw [nI_eq (by omega) (by omega)]; exact ed)]
          unfold mf_X11_odds_b80
          rw [zl_lit, nI_add]
        · rw [← w3, mf_X12_odds_l40]
          simp only [zl_lit]
          rw [if_neg (by rw [nI_leI (by omega) (by omega)]; omega), e2, zcl_ok, nI_add, zald_nI (by omega) (by omega), r89_14, zrI_s, eM_how (by omega), if_neg (by rw [nI_eq (by omega) (by omega)]; exact ed)]
          unfold mf_X12_odds_b73
          rw [r89_20, zl_lit, b1, zcl_ok, zl_lit, nI_add]
theorem q_odds {c : Nat} {h a : zN} {t : Nat → Int32} {M : zMem} (W : gW h a t M) (hO : gO c a) (x y w : Int32) : ∃ r M1 M2, mf_X11_odds gR 0 x y w M = some (r, M1) ∧ mf_X12_odds gR 89 x y w M1 = some (r, M2) ∧ gF [19, 59, 97] [0, 42] M M2 := by
  have W0 := W
  obtain ⟨hr, hc0, hm, hH, hA⟩ := W
  obtain ⟨z, hc⟩ : ∃ z, M.1 17 = eC a z := ⟨_, hc0⟩
  have hc' : M.1 17 = encC a (gIn a) z := hc
  obtain ⟨q0, q1, q2, q3, q4, q5, qh, ql, qp, qa⟩ := id hr
  obtain ⟨k0, k1, k2, k3, k4, k5, kh, kl, ka, kp⟩ := id hH
  have hm0 : (zwI M 89 0 (nI 0)).1 91 = encM h a t := by rw [zwI_n (by decide)]; exact hm
  have fz : gF [19, 59, 97] [0, 42] M (zwI M 89 0 (nI 0)) := gF.w9 gF.r (by decide)
  unfold mf_X11_odds mf_X12_odds
  simp only [zlet_ok, zl_lit]
  rcases gcase (n := h 2) (by omega) x with ⟨s, hs, rfl⟩ | ho
  · rcases gcase (n := 31) (by omega) y with ⟨k, hk, rfl⟩ | ho
    · by_cases e0 : k = 0
      · subst e0
        generalize hM2 : zwI M 89 0 (nI 0) = M2 at fz hm0
        refine ⟨zm1, M, M2, ?_, ?_, fz⟩
        · simp (disch := (first | assumption | omega | (refine gRC.row ?_ ?_ <;> first | assumption | omega | (refine gRC.row ?_ ?_ <;> first | assumption | omega)))) only [zlet_ok, zcl_ok, zl_lit, zl_m1, nI_add, zald_nI, nI_ltE, nI_leE, nI_eqE, zm1_lt', zm1_le', zm1_nlt', zm1_nle', zm1_ne, zm1_ne', zm1_add1, gwI, grI_rI, zrI_s, zrI_n, zrI_L, gwL, grL_rL, zrL_s, zrL_n, zrL_I, Nat.zero_add, ↓reduceIte, if_true, if_false, gB_0, gB_1, gB_01, zchk_t, gB_1e, eq_self, gcle, gcnle, gclt, gcnlt, gcne, not_true_eq_false, not_false_eq_true, true_or, or_true, false_or, or_false, true_and, and_true, false_and, and_false, r4_6, r4_7, r4_8, r4_9, r4_10, r0_1, c_hasSheet hr hH hs]
        · rw [hM2, ← grI_id hm0, m_isSheet hH hs, zcl_ok, m_isInN (by omega) (by omega)]
          simp (disch := omega) only [zlet_ok, zcl_ok, zl_lit, zl_m1, nI_add, zald_nI, nI_ltE, nI_leE, nI_eqE, zm1_lt', zm1_le', zm1_nlt', zm1_nle', zm1_ne, zm1_ne', zm1_add1, gwI, grI_rI, zrI_s, zrI_n, zrI_L, gwL, grL_rL, zrL_s, zrL_n, zrL_I, Nat.zero_add, ↓reduceIte, if_true, if_false, gB_0, gB_1, gB_01, zchk_t, gB_1e, eq_self, gcle, gcnle, gclt, gcnlt, gcne, not_true_eq_false, not_false_eq_true, true_or, or_true, false_or, or_false, true_and, and_true, false_and, and_false]
      · obtain ⟨M1, hM1⟩ : ∃ M1 : zMem, M1 = M := ⟨_, rfl⟩
        have hv : ∀ k, k < 56 → (zrowI (zwI M 89 0 (nI 0)) 97 (gsv (encM h a t) ((zwI M 89 0 (nI 0)).1 97) 0 56)).1 97 (0 + k) = encM h a t (56 + k) := fun k hk => by rw [zrI_s]; exact gsv_in hk
        have hv9 : ∀ k, k < 56 → (zrowI M 97 (gsv (encM h a t) (M.1 97) 0 56)).1 97 (0 + k) = encM h a t (56 + k) := fun k hk => by rw [zrI_s]; exact gsv_in hk
        obtain ⟨r, M1', M2', w1, w2, w3, w4⟩ := cm_odds (t := t) (y := w) (n := k) hH hA hO hs (by omega) k 0 0 zF M (zrowI M 97 (gsv (encM h a t) (M.1 97) 0 56)) z (by omega) (by omega) (by show _ < 5000; omega) hr hc hv9
        have g1 : gF [19, 59, 97] [0, 42] M (zwI M1' 89 0 (nI 0)) := gF.w9 (w2.mono (by decide) (by decide)) (by decide)
        have hm1 : (zwI M1' 89 0 (nI 0)).1 91 = encM h a t := by rw [g1.1 91 (by decide) (by decide)]; exact hm
        have hv8 : ∀ k, k < 56 → (zrowI (zwI M1' 89 0 (nI 0)) 97 (gsv (encM h a t) ((zwI M1' 89 0 (nI 0)).1 97) 0 56)).1 97 (0 + k) = encM h a t (56 + k) := fun k hk => by rw [zrI_s]; exact gsv_in hk
        obtain ⟨r2, M1b, M2b, v1, v2, v3, v4⟩ := cm_odds (t := t) (y := w) (n := k) hH hA hO hs (by omega) k 0 0 zF M (zrowI (zwI M1' 89 0 (nI 0)) 97 (gsv (encM h a t) ((zwI M1' 89 0 (nI 0)).1 97) 0 56)) z (by omega) (by omega) (by show _ < 5000; omega) hr hc hv8
        have er : r2 = r ∧ M1b = M1' := by
          rw [w1] at v1
          cases v1
          exact ⟨rfl, rfl⟩
        obtain ⟨er1, er2⟩ := er
        subst er1
        refine ⟨r2, M1', zrowI M2b 91 (encM h a t), ?_, ?_, ?_⟩
        · rw [r0_1, c_hasSheet hr hH hs, zcl_ok, if_neg (by decide +kernel), if_neg (by rw [nI_ltI (by omega) (by omega)]; omega), if_pos (by rw [nI_leI (by omega) (by omega)]; omega)]
          exact w1
        · rw [← grI_id hm1, m_isSheet hH hs, zcl_ok, if_neg (by decide +kernel), m_isInY (by omega) (by omega) (by omega), zcl_ok, if_neg (by decide +kernel), r89_20, m_save (by decide) (by decide) (by decide), zcl_ok]
          exact v3
        · have hm9 : M2b.1 91 = encM h a t := by rw [v4.1 91 (by decide) (by decide), zrI_n (by decide)]; exact hm1
          rw [grI_id hm9]
          exact gF.trans (gF.rI g1 (by decide) (by decide)) (v4.mono (by decide) (by decide))
    · generalize hM2 : zwI M 89 0 (nI 0) = M2 at fz hm0
      refine ⟨zm1, M, M2, ?_, ?_, fz⟩
      · rcases gOut1 (n := 30) (by omega) ho with e | ⟨e1, e2, e3⟩
        · simp (disch := (first | assumption | omega | (refine gRC.row ?_ ?_ <;> first | assumption | omega | (refine gRC.row ?_ ?_ <;> first | assumption | omega)))) only [zlet_ok, zcl_ok, zl_lit, zl_m1, nI_add, zald_nI, nI_ltE, nI_leE, nI_eqE, zm1_lt', zm1_le', zm1_nlt', zm1_nle', zm1_ne, zm1_ne', zm1_add1, gwI, grI_rI, zrI_s, zrI_n, zrI_L, gwL, grL_rL, zrL_s, zrL_n, zrL_I, Nat.zero_add, ↓reduceIte, if_true, if_false, gB_0, gB_1, gB_01, zchk_t, gB_1e, eq_self, gcle, gcnle, gclt, gcnlt, gcne, not_true_eq_false, not_false_eq_true, true_or, or_true, false_or, or_false, true_and, and_true, false_and, and_false, r4_6, r4_7, r4_8, r4_9, r4_10, r0_1, c_hasSheet hr hH hs, e]
        · simp (disch := (first | assumption | omega | (refine gRC.row ?_ ?_ <;> first | assumption | omega | (refine gRC.row ?_ ?_ <;> first | assumption | omega)))) only [zlet_ok, zcl_ok, zl_lit, zl_m1, nI_add, zald_nI, nI_ltE, nI_leE, nI_eqE, zm1_lt', zm1_le', zm1_nlt', zm1_nle', zm1_ne, zm1_ne', zm1_add1, gwI, grI_rI, zrI_s, zrI_n, zrI_L, gwL, grL_rL, zrL_s, zrL_n, zrL_I, Nat.zero_add, ↓reduceIte, if_true, if_false, gB_0, gB_1, gB_01, zchk_t, gB_1e, eq_self, gcle, gcnle, gclt, gcnlt, gcne, not_true_eq_false, not_false_eq_true, true_or, or_true, false_or, or_false, true_and, and_true, false_and, and_false, r4_6, r4_7, r4_8, r4_9, r4_10, r0_1, c_hasSheet hr hH hs, e1, e2]
      · rw [hM2, ← grI_id hm0, m_isSheet hH hs, zcl_ok, m_isInO (n := 30) (by omega) ho]
        simp (disch := omega) only [zlet_ok, zcl_ok, zl_lit, zl_m1, nI_add, zald_nI, nI_ltE, nI_leE, nI_eqE, zm1_lt', zm1_le', zm1_nlt', zm1_nle', zm1_ne, zm1_ne', zm1_add1, gwI, grI_rI, zrI_s, zrI_n, zrI_L, gwL, grL_rL, zrL_s, zrL_n, zrL_I, Nat.zero_add, ↓reduceIte, if_true, if_false, gB_0, gB_1, gB_01, zchk_t, gB_1e, eq_self, gcle, gcnle, gclt, gcnlt, gcne, not_true_eq_false, not_false_eq_true, true_or, or_true, false_or, or_false, true_and, and_true, false_and, and_false]
  · generalize hM2 : zwI M 89 0 (nI 0) = M2 at fz hm0
    refine ⟨zm1, M, M2, ?_, ?_, fz⟩
    · simp (disch := (first | assumption | omega | (refine gRC.row ?_ ?_ <;> first | assumption | omega | (refine gRC.row ?_ ?_ <;> first | assumption | omega)))) only [zlet_ok, zcl_ok, zl_lit, zl_m1, nI_add, zald_nI, nI_ltE, nI_leE, nI_eqE, zm1_lt', zm1_le', zm1_nlt', zm1_nle', zm1_ne, zm1_ne', zm1_add1, gwI, grI_rI, zrI_s, zrI_n, zrI_L, gwL, grL_rL, zrL_s, zrL_n, zrL_I, Nat.zero_add, ↓reduceIte, if_true, if_false, gB_0, gB_1, gB_01, zchk_t, gB_1e, eq_self, gcle, gcnle, gclt, gcnlt, gcne, not_true_eq_false, not_false_eq_true, true_or, or_true, false_or, or_false, true_and, and_true, false_and, and_false, r4_6, r4_7, r4_8, r4_9, r4_10, r0_1, c_hasSheet_n hr ho]
    · rw [hM2, ← grI_id hm0]
      simp (disch := omega) only [zlet_ok, zcl_ok, zl_lit, zl_m1, nI_add, zald_nI, nI_ltE, nI_leE, nI_eqE, zm1_lt', zm1_le', zm1_nlt', zm1_nle', zm1_ne, zm1_ne', zm1_add1, gwI, grI_rI, zrI_s, zrI_n, zrI_L, gwL, grL_rL, zrL_s, zrL_n, zrL_I, Nat.zero_add, ↓reduceIte, if_true, if_false, gB_0, gB_1, gB_01, zchk_t, gB_1e, eq_self, gcle, gcnle, gclt, gcnlt, gcne, not_true_eq_false, not_false_eq_true, true_or, or_true, false_or, or_false, true_and, and_true, false_and, and_false, m_isSheet_n hH ho]
