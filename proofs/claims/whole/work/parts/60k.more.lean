/-! JAM, OFTEN, fractions -/
theorem gJs_le {h a : zN} : ∀ {n : Nat}, gFo (gJs h a) n 0 ≤ n
  | 0 => Nat.le_refl _
  | n + 1 => by
    have ih := gJs_le (h := h) (a := a) (n := n)
    show gJs h a n (gFo (gJs h a) n 0) ≤ _
    generalize gFo (gJs h a) n 0 = w at ih
    unfold gJs
    split
    · omega
    · split <;> omega
theorem c_jam {h a : zN} {z : Nat → Int32} {M : zMem} {a0 c : Nat} (hR : gLab a0 c) (hr : gRC h M) (hc : M.1 c = eC a z) (hH : gH h) (hA : gA h a) : mf_X3_jammedBath gR a0 M = some (enI (gFo (gJs h a) (h 0) 0), M) := by
  obtain ⟨q0, q1, q2, q3, q4, q5, qh, ql, qp, qa⟩ := id hr
  obtain ⟨k0, k1, k2, k3, k4, k5, kh, kl, ka, kp⟩ := id hH
  obtain ⟨ra, rc, hcl⟩ := id hR
  unfold mf_X3_jammedBath
  simp (disch := omega) only [zlet_ok, zcl_ok, zl_lit, zl_m1, nI_add, zald_nI, nI_ltE, nI_leE, nI_eqE, zm1_lt', zm1_le', zm1_nlt', zm1_nle', zm1_ne, zm1_ne', zm1_add1, gwI, grI_rI, zrI_s, zrI_n, zrI_L, gwL, grL_rL, zrL_s, zrL_n, zrL_I, Nat.zero_add, ↓reduceIte, if_true, if_false, gB_0, gB_1, gB_01, zchk_t, gB_1e, eq_self, gcle, gcnle, gclt, gcnlt, gcne, not_true_eq_false, not_false_eq_true, true_or, or_true, false_or, or_false, true_and, and_true, false_and, and_false]
  rw [← enI_0]
  refine gfor (G := fun f i => mf_X3_jammedBath_l9 gR a0 f (enI (gFo (gJs h a) i 0)) (nI (if gFo (gJs h a) i 0 = 0 then 0 else gWt h a (gFo (gJs h a) i 0 - 1))) (nI (if gFo (gJs h a) i 0 = 0 then 1 else h (6 + (gFo (gJs h a) i 0 - 1)))) (nI i) M) (n := h 0) (fun f i hi => ?_) (fun f => ?_) _ (by first | (show _ < 5000; omega) | omega)
  · have l1 := gJs_le (h := h) (a := a) (n := i)
    have l2 := gWt_le (a := a) hH hi
    have l3 := kh i hi
    rw [show gFo (gJs h a) (i + 1) 0 = gJs h a i (gFo (gJs h a) i 0) from rfl]
    generalize gFo (gJs h a) i 0 = w at l1
    unfold gJs
    by_cases e0 : w = 0
    · subst e0
      simp (disch := (first | assumption | omega | (refine gRC.row ?_ ?_ <;> first | assumption | omega | (refine gRC.row ?_ ?_ <;> first | assumption | omega)))) only [zlet_ok, zcl_ok, zl_lit, zl_m1, nI_add, zald_nI, nI_ltE, nI_leE, nI_eqE, zm1_lt', zm1_le', zm1_nlt', zm1_nle', zm1_ne, zm1_ne', zm1_add1, gwI, grI_rI, zrI_s, zrI_n, zrI_L, gwL, grL_rL, zrL_s, zrL_n, zrL_I, Nat.zero_add, ↓reduceIte, if_true, if_false, gB_0, gB_1, gB_01, zchk_t, gB_1e, eq_self, gcle, gcnle, gclt, gcnlt, gcne, not_true_eq_false, not_false_eq_true, true_or, or_true, false_or, or_false, true_and, and_true, false_and, and_false, r4_6, r4_7, r4_8, r4_9, r4_10, mf_X3_jammedBath_l9, mf_X3_jammedBath_b53, mf_X3_jammedBath_b70, ra, q0, c_waiting hR hr hc hH hA hi, enI_0, enI_s, qh i hi, Nat.succ_ne_zero, Nat.add_sub_cancel]
      try rw [if_neg (by omega)]
    · obtain ⟨v, rfl⟩ : ∃ v, w = v + 1 := ⟨w - 1, by omega⟩
      have l4 := gWt_le (a := a) (b := v) hH (by omega)
      have l5 := kh v (by omega)
      have l6 : gWt h a i * h (6 + v) ≤ 240 * 4 := Nat.mul_le_mul l2 l5.2
      have l7 : gWt h a v * h (6 + i) ≤ 240 * 4 := Nat.mul_le_mul l4 l3.2
      by_cases e1 : gWt h a i * h (6 + v) ≤ gWt h a v * h (6 + i)
      · simp (disch := (first | assumption | omega | (refine gRC.row ?_ ?_ <;> first | assumption | omega | (refine gRC.row ?_ ?_ <;> first | assumption | omega)))) only [zlet_ok, zcl_ok, zl_lit, zl_m1, nI_add, zald_nI, nI_ltE, nI_leE, nI_eqE, zm1_lt', zm1_le', zm1_nlt', zm1_nle', zm1_ne, zm1_ne', zm1_add1, gwI, grI_rI, zrI_s, zrI_n, zrI_L, gwL, grL_rL, zrL_s, zrL_n, zrL_I, Nat.zero_add, ↓reduceIte, if_true, if_false, gB_0, gB_1, gB_01, zchk_t, gB_1e, eq_self, gcle, gcnle, gclt, gcnlt, gcne, not_true_eq_false, not_false_eq_true, true_or, or_true, false_or, or_false, true_and, and_true, false_and, and_false, r4_6, r4_7, r4_8, r4_9, r4_10, mf_X3_jammedBath_l9, mf_X3_jammedBath_b53, mf_X3_jammedBath_b70, ra, q0, c_waiting hR hr hc hH hA hi, enI_s, qh i hi, Nat.succ_ne_zero, Nat.add_sub_cancel, nI_mulE, e1]
        try rw [if_neg (by omega)]
      · simp (disch := (first | assumption | omega | (refine gRC.row ?_ ?_ <;> first | assumption | omega | (refine gRC.row ?_ ?_ <;> first | assumption | omega)))) only [zlet_ok, zcl_ok, zl_lit, zl_m1, nI_add, zald_nI, nI_ltE, nI_leE, nI_eqE, zm1_lt', zm1_le', zm1_nlt', zm1_nle', zm1_ne, zm1_ne', zm1_add1, gwI, grI_rI, zrI_s, zrI_n, zrI_L, gwL, grL_rL, zrL_s, zrL_n, zrL_I, Nat.zero_add, ↓reduceIte, if_true, if_false, gB_0, gB_1, gB_01, zchk_t, gB_1e, eq_self, gcle, gcnle, gclt, gcnlt, gcne, not_true_eq_false, not_false_eq_true, true_or, or_true, false_or, or_false, true_and, and_true, false_and, and_false, r4_6, r4_7, r4_8, r4_9, r4_10, mf_X3_jammedBath_l9, mf_X3_jammedBath_b53, mf_X3_jammedBath_b70, ra, q0, c_waiting hR hr hc hH hA hi, enI_s, qh i hi, Nat.succ_ne_zero, Nat.add_sub_cancel, nI_mulE, e1]
        try rw [if_neg (by omega)]
  · simp (disch := (first | assumption | omega | (refine gRC.row ?_ ?_ <;> first | assumption | omega | (refine gRC.row ?_ ?_ <;> first | assumption | omega)))) only [zlet_ok, zcl_ok, zl_lit, zl_m1, nI_add, zald_nI, nI_ltE, nI_leE, nI_eqE, zm1_lt', zm1_le', zm1_nlt', zm1_nle', zm1_ne, zm1_ne', zm1_add1, gwI, grI_rI, zrI_s, zrI_n, zrI_L, gwL, grL_rL, zrL_s, zrL_n, zrL_I, Nat.zero_add, ↓reduceIte, if_true, if_false, gB_0, gB_1, gB_01, zchk_t, gB_1e, eq_self, gcle, gcnle, gclt, gcnlt, gcne, not_true_eq_false, not_false_eq_true, true_or, or_true, false_or, or_false, true_and, and_true, false_and, and_false, r4_6, r4_7, r4_8, r4_9, r4_10, mf_X3_jammedBath_l9, ra, q0, Nat.le_refl]
theorem m_jam9 {h a : zN} {t : Nat → Int32} {M : zMem} (hH : gH h) (hA : gA h a) : mf_X12_jam_l9 gR 89 zF zm1 (nI 0) (zrowI M 91 (encM h a t)) = some (enI (gFo (gJs h a) (h 0) 0), zrowI M 91 (encM h a t)) := by
  obtain ⟨k0, k1, k2, k3, k4, k5, kh, kl, ka, kp⟩ := id hH
  rw [← enI_0]
  refine gfor (G := fun f i => mf_X12_jam_l9 gR 89 f (enI (gFo (gJs h a) i 0)) (nI i) (zrowI M 91 (encM h a t))) (n := h 0) (fun f i hi => ?_) (fun f => ?_) _ (by first | (show _ < 5000; omega) | omega)
  · have l1 := gJs_le (h := h) (a := a) (n := i)
    have l2 := gWt_le (a := a) hH hi
    have l3 := kh i hi
    rw [show gFo (gJs h a) (i + 1) 0 = gJs h a i (gFo (gJs h a) i 0) from rfl]
    generalize gFo (gJs h a) i 0 = w at l1
    unfold gJs
    by_cases e0 : w = 0
    · subst e0
      simp (disch := omega) only [zlet_ok, zcl_ok, zl_lit, zl_m1, nI_add, zald_nI, nI_ltE, nI_leE, nI_eqE, zm1_lt', zm1_le', zm1_nlt', zm1_nle', zm1_ne, zm1_ne', zm1_add1, gwI, grI_rI, zrI_s, zrI_n, zrI_L, gwL, grL_rL, zrL_s, zrL_n, zrL_I, Nat.zero_add, ↓reduceIte, if_true, if_false, gB_0, gB_1, gB_01, zchk_t, gB_1e, eq_self, gcle, gcnle, gclt, gcnlt, gcne, not_true_eq_false, not_false_eq_true, true_or, or_true, false_or, or_false, true_and, and_true, false_and, and_false, mf_X12_jam_l9, mf_X12_jam_b57, mf_X12_jam_b59, r89_14, eM_h, enI_0, enI_s]
      try rw [if_neg (by omega)]
    · obtain ⟨v, rfl⟩ : ∃ v, w = v + 1 := ⟨w - 1, by omega⟩
      have l4 := gWt_le (a := a) (b := v) hH (by omega)
      have l5 := kh v (by omega)
      have l6 : gWt h a i * h (6 + v) ≤ 240 * 4 := Nat.mul_le_mul l2 l5.2
      have l7 : gWt h a v * h (6 + i) ≤ 240 * 4 := Nat.mul_le_mul l4 l3.2
      by_cases e1 : gWt h a i * h (6 + v) ≤ gWt h a v * h (6 + i)
      · simp (disch := omega) only [zlet_ok, zcl_ok, zl_lit, zl_m1, nI_add, zald_nI, nI_ltE, nI_leE, nI_eqE, zm1_lt', zm1_le', zm1_nlt', zm1_nle', zm1_ne, zm1_ne', zm1_add1, gwI, grI_rI, zrI_s, zrI_n, zrI_L, gwL, grL_rL, zrL_s, zrL_n, zrL_I, Nat.zero_add, ↓reduceIte, if_true, if_false, gB_0, gB_1, gB_01, zchk_t, gB_1e, eq_self, gcle, gcnle, gclt, gcnlt, gcne, not_true_eq_false, not_false_eq_true, true_or, or_true, false_or, or_false, true_and, and_true, false_and, and_false, mf_X12_jam_l9, mf_X12_jam_b57, mf_X12_jam_b59, r89_14, eM_h, enI_s, m_waiting hH hA hi, m_waiting hH hA (show v < h 0 by omega), Nat.succ_ne_zero, Nat.add_sub_cancel, nI_mulE, e1]
        try rw [if_neg (by omega)]
      · simp (disch := omega) only [zlet_ok, zcl_ok, zl_lit, zl_m1, nI_add, zald_nI, nI_ltE, nI_leE, nI_eqE, zm1_lt', zm1_le', zm1_nlt', zm1_nle', zm1_ne, zm1_ne', zm1_add1, gwI, grI_rI, zrI_s, zrI_n, zrI_L, gwL, grL_rL, zrL_s, zrL_n, zrL_I, Nat.zero_add, ↓reduceIte, if_true, if_false, gB_0, gB_1, gB_01, zchk_t, gB_1e, eq_self, gcle, gcnle, gclt, gcnlt, gcne, not_true_eq_false, not_false_eq_true, true_or, or_true, false_or, or_false, true_and, and_true, false_and, and_false, mf_X12_jam_l9, mf_X12_jam_b57, mf_X12_jam_b59, r89_14, eM_h, enI_s, m_waiting hH hA hi, m_waiting hH hA (show v < h 0 by omega), Nat.succ_ne_zero, Nat.add_sub_cancel, nI_mulE, e1]
        try rw [if_neg (by omega)]
  · simp (disch := omega) only [zlet_ok, zcl_ok, zl_lit, zl_m1, nI_add, zald_nI, nI_ltE, nI_leE, nI_eqE, zm1_lt', zm1_le', zm1_nlt', zm1_nle', zm1_ne, zm1_ne', zm1_add1, gwI, grI_rI, zrI_s, zrI_n, zrI_L, gwL, grL_rL, zrL_s, zrL_n, zrL_I, Nat.zero_add, ↓reduceIte, if_true, if_false, gB_0, gB_1, gB_01, zchk_t, gB_1e, eq_self, gcle, gcnle, gclt, gcnlt, gcne, not_true_eq_false, not_false_eq_true, true_or, or_true, false_or, or_false, true_and, and_true, false_and, and_false, mf_X12_jam_l9, r89_14, eM_h, Nat.le_refl]
theorem gOf_le {a : zN} : ∀ {n : Nat}, gFo (gOf a) n 0 ≤ n
  | 0 => Nat.le_refl _
  | n + 1 => by
    have ih := gOf_le (a := a) (n := n)
    show gOf a n (gFo (gOf a) n 0) ≤ _
    generalize gFo (gOf a) n 0 = w at ih
    unfold gOf
    by_cases q : a (48 + n) ≤ (if w = 0 then 0 else a (48 + (w - 1)))
    · rw [if_pos q]; omega
    · rw [if_neg q]; omega
theorem c_often {h a : zN} {z : Nat → Int32} {M : zMem} {a0 c : Nat} (hR : gLab a0 c) (hr : gRC h M) (hc : M.1 c = eC a z) (hH : gH h) (hT : ∀ s, s < 8 → a (48 + s) < 2 ^ 30) : mf_X3_mostStarted gR a0 M = some (enI (gFo (gOf a) (h 2) 0), M) := by
  obtain ⟨q0, q1, q2, q3, q4, q5, qh, ql, qp, qa⟩ := id hr
  obtain ⟨k0, k1, k2, k3, k4, k5, kh, kl, ka, kp⟩ := id hH
  obtain ⟨ra, rc, hcl⟩ := id hR
  have hc' : M.1 c = encC a (gIn a) z := hc
  unfold mf_X3_mostStarted
  simp (disch := omega) only [zlet_ok, zcl_ok, zl_lit, zl_m1, nI_add, zald_nI, nI_ltE, nI_leE, nI_eqE, zm1_lt', zm1_le', zm1_nlt', zm1_nle', zm1_ne, zm1_ne', zm1_add1, gwI, grI_rI, zrI_s, zrI_n, zrI_L, gwL, grL_rL, zrL_s, zrL_n, zrL_I, Nat.zero_add, ↓reduceIte, if_true, if_false, gB_0, gB_1, gB_01, zchk_t, gB_1e, eq_self, gcle, gcnle, gclt, gcnlt, gcne, not_true_eq_false, not_false_eq_true, true_or, or_true, false_or, or_false, true_and, and_true, false_and, and_false]
  rw [← enI_0]
  refine gfor (G := fun f i => mf_X3_mostStarted_l6 gR a0 f (nI (if gFo (gOf a) i 0 = 0 then 0 else a (48 + (gFo (gOf a) i 0 - 1)))) (enI (gFo (gOf a) i 0)) (nI i) M) (n := h 2) (fun f i hi => ?_) (fun f => ?_) _ (by first | (show _ < 5000; omega) | omega)
  · have l1 := gOf_le (a := a) (n := i)
    have l2 := hT i (by omega)
    rw [show gFo (gOf a) (i + 1) 0 = gOf a i (gFo (gOf a) i 0) from rfl]
    generalize gFo (gOf a) i 0 = w at l1
    have l3 : (if w = 0 then 0 else a (48 + (w - 1))) < 2 ^ 30 := by
      split
      · omega
      · exact hT _ (by omega)
    have l4 : gOf a i w = if a (48 + i) ≤ (if w = 0 then 0 else a (48 + (w - 1))) then w else i + 1 := rfl
    rw [l4]
    generalize hv : (if w = 0 then 0 else a (48 + (w - 1))) = v at l3
    by_cases e1 : a (48 + i) ≤ v
    · simp (disch := (first | assumption | omega | (refine gRC.row ?_ ?_ <;> first | assumption | omega | (refine gRC.row ?_ ?_ <;> first | assumption | omega)))) only [zlet_ok, zcl_ok, zl_lit, zl_m1, nI_add, zald_nI, nI_ltE, nI_leE, nI_eqE, zm1_lt', zm1_le', zm1_nlt', zm1_nle', zm1_ne, zm1_ne', zm1_add1, gwI, grI_rI, zrI_s, zrI_n, zrI_L, gwL, grL_rL, zrL_s, zrL_n, zrL_I, Nat.zero_add, ↓reduceIte, if_true, if_false, gB_0, gB_1, gB_01, zchk_t, gB_1e, eq_self, gcle, gcnle, gclt, gcnlt, gcne, not_true_eq_false, not_false_eq_true, true_or, or_true, false_or, or_false, true_and, and_true, false_and, and_false, r4_6, r4_7, r4_8, r4_9, r4_10, mf_X3_mostStarted_l6, mf_X3_mostStarted_b42, ra, rc, q2, hc', eC_tries, e1, hv]
      try rw [if_neg (by omega)]
    · simp (disch := (first | assumption | omega | (refine gRC.row ?_ ?_ <;> first | assumption | omega | (refine gRC.row ?_ ?_ <;> first | assumption | omega)))) only [zlet_ok, zcl_ok, zl_lit, zl_m1, nI_add, zald_nI, nI_ltE, nI_leE, nI_eqE, zm1_lt', zm1_le', zm1_nlt', zm1_nle', zm1_ne, zm1_ne', zm1_add1, gwI, grI_rI, zrI_s, zrI_n, zrI_L, gwL, grL_rL, zrL_s, zrL_n, zrL_I, Nat.zero_add, ↓reduceIte, if_true, if_false, gB_0, gB_1, gB_01, zchk_t, gB_1e, eq_self, gcle, gcnle, gclt, gcnlt, gcne, not_true_eq_false, not_false_eq_true, true_or, or_true, false_or, or_false, true_and, and_true, false_and, and_false, r4_6, r4_7, r4_8, r4_9, r4_10, mf_X3_mostStarted_l6, mf_X3_mostStarted_b42, ra, rc, q2, hc', eC_tries, e1, enI_s, Nat.succ_ne_zero, Nat.add_sub_cancel]
      try rw [if_neg (by omega)]
  · simp (disch := (first | assumption | omega | (refine gRC.row ?_ ?_ <;> first | assumption | omega | (refine gRC.row ?_ ?_ <;> first | assumption | omega)))) only [zlet_ok, zcl_ok, zl_lit, zl_m1, nI_add, zald_nI, nI_ltE, nI_leE, nI_eqE, zm1_lt', zm1_le', zm1_nlt', zm1_nle', zm1_ne, zm1_ne', zm1_add1, gwI, grI_rI, zrI_s, zrI_n, zrI_L, gwL, grL_rL, zrL_s, zrL_n, zrL_I, Nat.zero_add, ↓reduceIte, if_true, if_false, gB_0, gB_1, gB_01, zchk_t, gB_1e, eq_self, gcle, gcnle, gclt, gcnlt, gcne, not_true_eq_false, not_false_eq_true, true_or, or_true, false_or, or_false, true_and, and_true, false_and, and_false, r4_6, r4_7, r4_8, r4_9, r4_10, mf_X3_mostStarted_l6, ra, q2, Nat.le_refl]
theorem m_often9 {h a : zN} {t : Nat → Int32} {M : zMem} (hH : gH h) (hT : ∀ s, s < 8 → a (48 + s) < 2 ^ 30) : mf_X12_often_l9 gR 89 zF zm1 (nI 0) (zrowI M 91 (encM h a t)) = some (enI (gFo (gOf a) (h 2) 0), zrowI M 91 (encM h a t)) := by
  obtain ⟨k0, k1, k2, k3, k4, k5, kh, kl, ka, kp⟩ := id hH
  rw [← enI_0]
  refine gfor (G := fun f i => mf_X12_often_l9 gR 89 f (enI (gFo (gOf a) i 0)) (nI i) (zrowI M 91 (encM h a t))) (n := h 2) (fun f i hi => ?_) (fun f => ?_) _ (by first | (show _ < 5000; omega) | omega)
  · have l1 := gOf_le (a := a) (n := i)
    have l2 := hT i (by omega)
    rw [show gFo (gOf a) (i + 1) 0 = gOf a i (gFo (gOf a) i 0) from rfl]
    generalize gFo (gOf a) i 0 = w at l1
    unfold gOf
    by_cases e0 : w = 0
    · subst e0
      by_cases e1 : a (48 + i) ≤ 0
      · simp (disch := omega) only [zlet_ok, zcl_ok, zl_lit, zl_m1, nI_add, zald_nI, nI_ltE, nI_leE, nI_eqE, zm1_lt', zm1_le', zm1_nlt', zm1_nle', zm1_ne, zm1_ne', zm1_add1, gwI, grI_rI, zrI_s, zrI_n, zrI_L, gwL, grL_rL, zrL_s, zrL_n, zrL_I, Nat.zero_add, ↓reduceIte, if_true, if_false, gB_0, gB_1, gB_01, zchk_t, gB_1e, eq_self, gcle, gcnle, gclt, gcnlt, gcne, not_true_eq_false, not_false_eq_true, true_or, or_true, false_or, or_false, true_and, and_true, false_and, and_false, mf_X12_often_l9, mf_X12_often_b46, mf_X12_often_b51, r89_14, eM_h, eM_tries, enI_0, e1]
        try rw [if_neg (by omega)]
      · simp (disch := omega) only [zlet_ok, zcl_ok, zl_lit, zl_m1, nI_add, zald_nI, nI_ltE, nI_leE, nI_eqE, zm1_lt', zm1_le', zm1_nlt', zm1_nle', zm1_ne, zm1_ne', zm1_add1, gwI, grI_rI, zrI_s, zrI_n, zrI_L, gwL, grL_rL, zrL_s, zrL_n, zrL_I, Nat.zero_add, ↓reduceIte, if_true, if_false, gB_0, gB_1, gB_01, zchk_t, gB_1e, eq_self, gcle, gcnle, gclt, gcnlt, gcne, not_true_eq_false, not_false_eq_true, true_or, or_true, false_or, or_false, true_and, and_true, false_and, and_false, mf_X12_often_l9, mf_X12_often_b46, mf_X12_often_b51, r89_14, eM_h, eM_tries, enI_0, enI_s, e1]
        try rw [if_neg (by omega)]
    · obtain ⟨v, rfl⟩ : ∃ v, w = v + 1 := ⟨w - 1, by omega⟩
      have l3 := hT v (by omega)
      by_cases e1 : a (48 + i) ≤ a (48 + v)
      · simp (disch := omega) only [zlet_ok, zcl_ok, zl_lit, zl_m1, nI_add, zald_nI, nI_ltE, nI_leE, nI_eqE, zm1_lt', zm1_le', zm1_nlt', zm1_nle', zm1_ne, zm1_ne', zm1_add1, gwI, grI_rI, zrI_s, zrI_n, zrI_L, gwL, grL_rL, zrL_s, zrL_n, zrL_I, Nat.zero_add, ↓reduceIte, if_true, if_false, gB_0, gB_1, gB_01, zchk_t, gB_1e, eq_self, gcle, gcnle, gclt, gcnlt, gcne, not_true_eq_false, not_false_eq_true, true_or, or_true, false_or, or_false, true_and, and_true, false_and, and_false, mf_X12_often_l9, mf_X12_often_b46, mf_X12_often_b51, r89_14, eM_h, eM_tries, enI_s, e1, Nat.succ_ne_zero, Nat.add_sub_cancel]
        try rw [if_neg (by omega)]
      · simp (disch := omega) only [zlet_ok, zcl_ok, zl_lit, zl_m1, nI_add, zald_nI, nI_ltE, nI_leE, nI_eqE, zm1_lt', zm1_le', zm1_nlt', zm1_nle', zm1_ne, zm1_ne', zm1_add1, gwI, grI_rI, zrI_s, zrI_n, zrI_L, gwL, grL_rL, zrL_s, zrL_n, zrL_I, Nat.zero_add, ↓reduceIte, if_true, if_false, gB_0, gB_1, gB_01, zchk_t, gB_1e, eq_self, gcle, gcnle, gclt, gcnlt, gcne, not_true_eq_false, not_false_eq_true, true_or, or_true, false_or, or_false, true_and, and_true, false_and, and_false, mf_X12_often_l9, mf_X12_often_b46, mf_X12_often_b51, r89_14, eM_h, eM_tries, enI_s, e1, Nat.succ_ne_zero, Nat.add_sub_cancel]
        try rw [if_neg (by omega)]
  · simp (disch := omega) only [zlet_ok, zcl_ok, zl_lit, zl_m1, nI_add, zald_nI, nI_ltE, nI_leE, nI_eqE, zm1_lt', zm1_le', zm1_nlt', zm1_nle', zm1_ne, zm1_ne', zm1_add1, gwI, grI_rI, zrI_s, zrI_n, zrI_L, gwL, grL_rL, zrL_s, zrL_n, zrL_I, Nat.zero_add, ↓reduceIte, if_true, if_false, gB_0, gB_1, gB_01, zchk_t, gB_1e, eq_self, gcle, gcnle, gclt, gcnlt, gcne, not_true_eq_false, not_false_eq_true, true_or, or_true, false_or, or_false, true_and, and_true, false_and, and_false, mf_X12_often_l9, r89_14, eM_h, Nat.le_refl]
def gPart (x y w : Nat) : Nat := (if w = 0 then x else y) / Nat.gcd x y
theorem c_gcd {i0 i1 i2 : Int32} {M : zMem} : ∀ (f d r i : Nat), r < f → 0 < d → d < 2 ^ 30 → r < 2 ^ 30 → i + r < 1000000 → mf_X11_inLeastTerms_l8 gR f i0 i1 i2 (nI d) (nI r) (nI i) M = mf_X11_inLeastTerms_b44 gR i0 i1 i2 (nI (Nat.gcd r d)) M
  | 0, d, r, i, hf, _, _, _, _ => by omega
  | f + 1, d, r, i, hf, h1, h2, h3, h4 => by
    by_cases e : r = 0
    · subst e
      simp (disch := omega) only [zlet_ok, zcl_ok, zl_lit, zl_m1, nI_add, zald_nI, nI_ltE, nI_leE, nI_eqE, zm1_lt', zm1_le', zm1_nlt', zm1_nle', zm1_ne, zm1_ne', zm1_add1, gwI, grI_rI, zrI_s, zrI_n, zrI_L, gwL, grL_rL, zrL_s, zrL_n, zrL_I, Nat.zero_add, ↓reduceIte, if_true, if_false, gB_0, gB_1, gB_01, zchk_t, gB_1e, eq_self, gcle, gcnle, gclt, gcnlt, gcne, not_true_eq_false, not_false_eq_true, true_or, or_true, false_or, or_false, true_and, and_true, false_and, and_false, mf_X11_inLeastTerms_l8, Nat.gcd_zero_left]
      try rw [if_neg (by omega)]
    · have l1 : d % r < r := Nat.mod_lt _ (by omega)
      have e3 : ¬ nI r = nI 0 := by rw [nI_eqE (by omega) (by omega)]; exact e
      have e2 := c_gcd (i0 := i0) (i1 := i1) (i2 := i2) (M := M) f r (d % r) (i + 1) (by omega) (by omega) h3 (by omega) (by omega)
      simp (disch := omega) only [zlet_ok, zcl_ok, zl_lit, zl_m1, nI_add, zald_nI, nI_ltE, nI_leE, nI_eqE, zm1_lt', zm1_le', zm1_nlt', zm1_nle', zm1_ne, zm1_ne', zm1_add1, gwI, grI_rI, zrI_s, zrI_n, zrI_L, gwL, grL_rL, zrL_s, zrL_n, zrL_I, Nat.zero_add, ↓reduceIte, if_true, if_false, gB_0, gB_1, gB_01, zchk_t, gB_1e, eq_self, gcle, gcnle, gclt, gcnlt, gcne, not_true_eq_false, not_false_eq_true, true_or, or_true, false_or, or_false, true_and, and_true, false_and, and_false, mf_X11_inLeastTerms_l8, e, Nat.pos_iff_ne_zero.mp h1, pk_rem, not_false_eq_true]
      try rw [if_neg (by omega)]
      rw [e2, ← Nat.gcd_rec]
theorem c_part {x y w : Nat} {M : zMem} (hx : x < 2 ^ 30) (hy : 0 < y) (hy2 : y < 200) (hw : w < 2) : mf_X11_inLeastTerms gR (nI x) (nI y) (nI w) M = some (nI (gPart x y w), M) := by
  have hg : 0 < Nat.gcd x y := Nat.gcd_pos_of_pos_right x hy
  have hgl : Nat.gcd x y ≤ y := Nat.gcd_le_right x hy
  have key : mf_X11_inLeastTerms gR (nI x) (nI y) (nI w) M = mf_X11_inLeastTerms_b44 gR (nI x) (nI y) (nI w) (nI (Nat.gcd x y)) M := by
    obtain ⟨k, hk, hk2⟩ : ∃ k, zF = k + 1 ∧ 4000 < k := ⟨4999, rfl, by decide⟩
    unfold mf_X11_inLeastTerms
    rw [hk]
    by_cases e : x = 0
    · subst e
      rw [zl_lit]
      exact c_gcd (k + 1) y 0 0 (by omega) hy (by omega) (by omega) (by omega)
    · have l1 : y % x ≤ y := Nat.mod_le _ _
      have e3 : ¬ nI x = nI 0 := by rw [nI_eqE (by omega) (by omega)]; exact e
      have e2 := c_gcd (i0 := nI x) (i1 := nI y) (i2 := nI w) (M := M) k x (y % x) 1 (by omega) (by omega) (by omega) (by omega) (by omega)
      simp (disch := omega) only [zlet_ok, zcl_ok, zl_lit, zl_m1, nI_add, zald_nI, nI_ltE, nI_leE, nI_eqE, zm1_lt', zm1_le', zm1_nlt', zm1_nle', zm1_ne, zm1_ne', zm1_add1, gwI, grI_rI, zrI_s, zrI_n, zrI_L, gwL, grL_rL, zrL_s, zrL_n, zrL_I, Nat.zero_add, ↓reduceIte, if_true, if_false, gB_0, gB_1, gB_01, zchk_t, gB_1e, eq_self, gcle, gcnle, gclt, gcnlt, gcne, not_true_eq_false, not_false_eq_true, true_or, or_true, false_or, or_false, true_and, and_true, false_and, and_false, mf_X11_inLeastTerms_l8, e, Nat.pos_iff_ne_zero.mp hy, pk_rem, not_false_eq_true]
      rw [e2, ← Nat.gcd_rec]
  rw [key]
  unfold gPart
  by_cases e : w = 0
  · subst e
    simp (disch := omega) only [zlet_ok, zcl_ok, zl_lit, zl_m1, nI_add, zald_nI, nI_ltE, nI_leE, nI_eqE, zm1_lt', zm1_le', zm1_nlt', zm1_nle', zm1_ne, zm1_ne', zm1_add1, gwI, grI_rI, zrI_s, zrI_n, zrI_L, gwL, grL_rL, zrL_s, zrL_n, zrL_I, Nat.zero_add, ↓reduceIte, if_true, if_false, gB_0, gB_1, gB_01, zchk_t, gB_1e, eq_self, gcle, gcnle, gclt, gcnlt, gcne, not_true_eq_false, not_false_eq_true, true_or, or_true, false_or, or_false, true_and, and_true, false_and, and_false, mf_X11_inLeastTerms_b44, mf_X11_inLeastTerms_b53, pk_div, Nat.pos_iff_ne_zero.mp hg, not_false_eq_true]
  · simp (disch := omega) only [zlet_ok, zcl_ok, zl_lit, zl_m1, nI_add, zald_nI, nI_ltE, nI_leE, nI_eqE, zm1_lt', zm1_le', zm1_nlt', zm1_nle', zm1_ne, zm1_ne', zm1_add1, gwI, grI_rI, zrI_s, zrI_n, zrI_L, gwL, grL_rL, zrL_s, zrL_n, zrL_I, Nat.zero_add, ↓reduceIte, if_true, if_false, gB_0, gB_1, gB_01, zchk_t, gB_1e, eq_self, gcle, gcnle, gclt, gcnlt, gcne, not_true_eq_false, not_false_eq_true, true_or, or_true, false_or, or_false, true_and, and_true, false_and, and_false, mf_X11_inLeastTerms_b44, mf_X11_inLeastTerms_b53, pk_div, Nat.pos_iff_ne_zero.mp hg, not_false_eq_true, e]
theorem m_gcd {M : zMem} : ∀ (f x y : Nat), y < f → x < 2 ^ 30 → y < 2 ^ 30 → mf_X12_common_l4 gR f (nI x) (nI y) M = some (nI (Nat.gcd x y), M)
  | 0, x, y, hf, _, _ => by omega
  | f + 1, x, y, hf, h1, h2 => by
    by_cases e : y = 0
    · subst e
      simp (disch := omega) only [zlet_ok, zcl_ok, zl_lit, zl_m1, nI_add, zald_nI, nI_ltE, nI_leE, nI_eqE, zm1_lt', zm1_le', zm1_nlt', zm1_nle', zm1_ne, zm1_ne', zm1_add1, gwI, grI_rI, zrI_s, zrI_n, zrI_L, gwL, grL_rL, zrL_s, zrL_n, zrL_I, Nat.zero_add, ↓reduceIte, if_true, if_false, gB_0, gB_1, gB_01, zchk_t, gB_1e, eq_self, gcle, gcnle, gclt, gcnlt, gcne, not_true_eq_false, not_false_eq_true, true_or, or_true, false_or, or_false, true_and, and_true, false_and, and_false, mf_X12_common_l4, Nat.gcd_zero_right]
    · have l1 : x % y < y := Nat.mod_lt _ (by omega)
      simp (disch := omega) only [zlet_ok, zcl_ok, zl_lit, zl_m1, nI_add, zald_nI, nI_ltE, nI_leE, nI_eqE, zm1_lt', zm1_le', zm1_nlt', zm1_nle', zm1_ne, zm1_ne', zm1_add1, gwI, grI_rI, zrI_s, zrI_n, zrI_L, gwL, grL_rL, zrL_s, zrL_n, zrL_I, Nat.zero_add, ↓reduceIte, if_true, if_false, gB_0, gB_1, gB_01, zchk_t, gB_1e, eq_self, gcle, gcnle, gclt, gcnlt, gcne, not_true_eq_false, not_false_eq_true, true_or, or_true, false_or, or_false, true_and, and_true, false_and, and_false, mf_X12_common_l4, e, pk_rem, not_false_eq_true, m_gcd f y (x % y) (by omega) h2 (by omega)]
      rw [Nat.gcd_comm x y, Nat.gcd_rec y x, Nat.gcd_comm y]
theorem m_part {x y w : Nat} {M : zMem} (hx : x < 2 ^ 30) (hy : 0 < y) (hy2 : y < 200) (hw : w < 2) : mf_X12_partOf gR 89 (nI x) (nI y) (nI w) M = some (nI (gPart x y w), M) := by
  have hg : 0 < Nat.gcd x y := Nat.gcd_pos_of_pos_right x hy
  have hgl : Nat.gcd x y ≤ y := Nat.gcd_le_right x hy
  have key : ∀ M, mf_X12_common gR (nI x) (nI y) M = some (nI (Nat.gcd x y), M) := fun M => m_gcd zF x y (by show _ < 5000; omega) hx (by omega)
  unfold mf_X12_partOf gPart
  by_cases e : w = 0
  · subst e
    simp (disch := omega) only [zlet_ok, zcl_ok, zl_lit, zl_m1, nI_add, zald_nI, nI_ltE, nI_leE, nI_eqE, zm1_lt', zm1_le', zm1_nlt', zm1_nle', zm1_ne, zm1_ne', zm1_add1, gwI, grI_rI, zrI_s, zrI_n, zrI_L, gwL, grL_rL, zrL_s, zrL_n, zrL_I, Nat.zero_add, ↓reduceIte, if_true, if_false, gB_0, gB_1, gB_01, zchk_t, gB_1e, eq_self, gcle, gcnle, gclt, gcnlt, gcne, not_true_eq_false, not_false_eq_true, true_or, or_true, false_or, or_false, true_and, and_true, false_and, and_false, mf_X12_partOf_b9, key, pk_div, Nat.pos_iff_ne_zero.mp hg, not_false_eq_true]
  · simp (disch := omega) only [zlet_ok, zcl_ok, zl_lit, zl_m1, nI_add, zald_nI, nI_ltE, nI_leE, nI_eqE, zm1_lt', zm1_le', zm1_nlt', zm1_nle', zm1_ne, zm1_ne', zm1_add1, gwI, grI_rI, zrI_s, zrI_n, zrI_L, gwL, grL_rL, zrL_s, zrL_n, zrL_I, Nat.zero_add, ↓reduceIte, if_true, if_false, gB_0, gB_1, gB_01, zchk_t, gB_1e, eq_self, gcle, gcnle, gclt, gcnlt, gcne, not_true_eq_false, not_false_eq_true, true_or, or_true, false_or, or_false, true_and, and_true, false_and, and_false, mf_X12_partOf_b9, key, pk_div, Nat.pos_iff_ne_zero.mp hg, not_false_eq_true, e]
