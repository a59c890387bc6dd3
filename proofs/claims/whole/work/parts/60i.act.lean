/-! ACTS: 0 start, 1 take, 2 again, 3 renew -/
def gWhy (h a : zN) (k x : Nat) : Nat := if k = 0 then gWhyS h a x else if k = 1 then (if a (8 + x) = 1 then 0 else 1) else if k = 2 then (if a (8 + x) = 3 then 0 else 1) else gWhyR a x
def gLive (h a : zN) (k x : Nat) : zN := if k = 0 then gSt h a x else if k = 1 then gGo a x 3 else if k = 2 then gGo a x 0 else gRen a x
def gVal (h : zN) (k x : Nat) : Prop := if k = 3 then x < h 0 else x < h 2
theorem gA_live {h a : zN} {k x : Nat} (hH : gH h) (hA : gA h a) (hv : gVal h k x) (hk : k ≤ 3) (hw : gWhy h a k x = 0) : gA h (gLive h a k x) := by
  obtain ⟨k0, k1, k2, k3, k4, k5, kh, kl, ka, kp⟩ := id hH
  unfold gWhy at hw
  unfold gVal at hv
  unfold gLive
  by_cases e0 : k = 0
  · subst e0
    exact (gA_st hH hA hv hw).1
  · rw [if_neg e0] at hw ⊢
    by_cases e1 : k = 1
    · subst e1
      have hx : x < h 2 := hv
      exact gA_go hH hA (by omega) (by omega) (by omega)
    · rw [if_neg e1] at hw ⊢
      by_cases e2 : k = 2
      · subst e2
        have hx : x < h 2 := hv
        exact gA_go hH hA (by omega) (by omega) (by omega)
      · rw [if_neg e2] at hw ⊢
        rw [if_pos (show k = 3 by omega)] at hv
        exact gA_ren hH hA hv
theorem gIn_irr {a : zN} {k1 k2 v1 v2 : Nat} (h1 : k1 < 16 ∨ 24 ≤ k1) (h2 : k2 < 16 ∨ 24 ≤ k2) : gIn (uN (uN a k1 v1) k2 v2) = gIn a := by
  funext b
  exact gbN_cong (fun k hk => by rw [uN_n (by omega), uN_n (by omega)])
theorem c_start {h a : zN} {z : Nat → Int32} {M : zMem} {a0 c s : Nat} (hR : gLab a0 c) (hr : gRC h M) (hc : M.1 c = eC a z) (hH : gH h) (hA : gA h a) (hs : s < h 2) : mf_X3_startSheet gR a0 (nI s) M = if gWhyS h a s = 0 then some (nI 0, zrowI M c (eC (gSt h a s) z)) else some (nI (gWhyS h a s), M) := by
  obtain ⟨q0, q1, q2, q3, q4, q5, qh, ql, qp, qa⟩ := id hr
  obtain ⟨k0, k1, k2, k3, k4, k5, kh, kl, ka, kp⟩ := id hH
  obtain ⟨ra, rc, hcl⟩ := id hR
  have hs8 : s < 8 := by omega
  obtain ⟨p1, p2, p3, p4, p5, p6⟩ := hA.2.2 s hs8
  have l1 := gnx_le (h := h) (s := s) (Nat.zero_le _)
  have hc' : M.1 c = encC a (gIn a) z := hc
  have e9 : encC (uN (uN a (40 + s) 0) (48 + s) (a (48 + s) + 1)) (gIn a) z = eC (uN (uN a (40 + s) 0) (48 + s) (a (48 + s) + 1)) z := by
    unfold eC
    rw [gIn_irr (by omega) (by omega)]
  have hA1 : gA h (uN (uN a (40 + s) 0) (48 + s) (a (48 + s) + 1)) := gA_cong hH hA (fun j h1 h2 => by rw [uN_n (by omega), uN_n (by omega)])
  have hi1 : uN (uN a (40 + s) 0) (48 + s) (a (48 + s) + 1) (16 + s) ≤ 6 := by rw [uN_n (by omega), uN_n (by omega)]; omega
  have hr1 : gRC h (zrowI M c (eC (uN (uN a (40 + s) 0) (48 + s) (a (48 + s) + 1)) z)) := gRC.row hcl hr
  unfold mf_X3_startSheet gWhyS gSt
  by_cases e0 : a (8 + s) = 0
  · by_cases e : gNx h s 0 = h 0
    · simp (disch := (first | assumption | omega | (refine gRC.row ?_ ?_ <;> first | assumption | omega | (refine gRC.row ?_ ?_ <;> first | assumption | omega)))) only [zlet_ok, zcl_ok, zl_lit, zl_m1, nI_add, zald_nI, nI_ltE, nI_leE, nI_eqE, zm1_lt', zm1_le', zm1_nlt', zm1_nle', zm1_ne, zm1_ne', zm1_add1, gwI, grI_rI, zrI_s, zrI_n, zrI_L, gwL, grL_rL, zrL_s, zrL_n, zrL_I, Nat.zero_add, ↓reduceIte, if_true, if_false, gB_0, gB_1, gB_01, zchk_t, gB_1e, eq_self, gcle, gcnle, gclt, gcnlt, gcne, not_true_eq_false, not_false_eq_true, true_or, or_true, false_or, or_false, true_and, and_true, false_and, and_false, r4_6, r4_7, r4_8, r4_9, r4_10, ra, rc, c_hasSheet hr hH hs, hc', eC_how, e0, c_after0 hr hH hs, enX_m1, e, mf_X3_startSheet_b52, wC_over, eC_tries, uN_n, wC_tries, e9, c_settle hR zrI_s hs8 hi1]
    · have hn := gNx_lt (h := h) (s := s) (k := 0) (by omega) e
      cases ho : gOpen h a (gNx h s 0)
      · simp (disch := (first | assumption | omega | (refine gRC.row ?_ ?_ <;> first | assumption | omega | (refine gRC.row ?_ ?_ <;> first | assumption | omega)))) only [zlet_ok, zcl_ok, zl_lit, zl_m1, nI_add, zald_nI, nI_ltE, nI_leE, nI_eqE, zm1_lt', zm1_le', zm1_nlt', zm1_nle', zm1_ne, zm1_ne', zm1_add1, gwI, grI_rI, zrI_s, zrI_n, zrI_L, gwL, grL_rL, zrL_s, zrL_n, zrL_I, Nat.zero_add, ↓reduceIte, if_true, if_false, gB_0, gB_1, gB_01, zchk_t, gB_1e, eq_self, gcle, gcnle, gclt, gcnlt, gcne, not_true_eq_false, not_false_eq_true, true_or, or_true, false_or, or_false, true_and, and_true, false_and, and_false, r4_6, r4_7, r4_8, r4_9, r4_10, ra, rc, c_hasSheet hr hH hs, hc', eC_how, e0, c_after0 hr hH hs, enX_m1, e, enX_ne e, c_isOpen hR hr hc hH hA hn, ho]
        try simp
      · simp (disch := (first | assumption | omega | (refine gRC.row ?_ ?_ <;> first | assumption | omega | (refine gRC.row ?_ ?_ <;> first | assumption | omega)))) only [zlet_ok, zcl_ok, zl_lit, zl_m1, nI_add, zald_nI, nI_ltE, nI_leE, nI_eqE, zm1_lt', zm1_le', zm1_nlt', zm1_nle', zm1_ne, zm1_ne', zm1_add1, gwI, grI_rI, zrI_s, zrI_n, zrI_L, gwL, grL_rL, zrL_s, zrL_n, zrL_I, Nat.zero_add, ↓reduceIte, if_true, if_false, gB_0, gB_1, gB_01, zchk_t, gB_1e, eq_self, gcle, gcnle, gclt, gcnlt, gcne, not_true_eq_false, not_false_eq_true, true_or, or_true, false_or, or_false, true_and, and_true, false_and, and_false, r4_6, r4_7, r4_8, r4_9, r4_10, ra, rc, c_hasSheet hr hH hs, hc', eC_how, e0, c_after0 hr hH hs, enX_m1, e, enX_ne e, c_isOpen hR hr hc hH hA hn, ho, Bool.true_eq_false, mf_X3_startSheet_b52, wC_over, eC_tries, uN_n, wC_tries, e9, zm1_ne, c_enter hR hr1 zrI_s hH hA1 hs hn]
  · simp (disch := (first | assumption | omega | (refine gRC.row ?_ ?_ <;> first | assumption | omega | (refine gRC.row ?_ ?_ <;> first | assumption | omega)))) only [zlet_ok, zcl_ok, zl_lit, zl_m1, nI_add, zald_nI, nI_ltE, nI_leE, nI_eqE, zm1_lt', zm1_le', zm1_nlt', zm1_nle', zm1_ne, zm1_ne', zm1_add1, gwI, grI_rI, zrI_s, zrI_n, zrI_L, gwL, grL_rL, zrL_s, zrL_n, zrL_I, Nat.zero_add, ↓reduceIte, if_true, if_false, gB_0, gB_1, gB_01, zchk_t, gB_1e, eq_self, gcle, gcnle, gclt, gcnlt, gcne, not_true_eq_false, not_false_eq_true, true_or, or_true, false_or, or_false, true_and, and_true, false_and, and_false, r4_6, r4_7, r4_8, r4_9, r4_10, ra, rc, c_hasSheet hr hH hs, hc', eC_how, e0]
    try simp
theorem c_start_n {h : zN} {M : zMem} {a0 c : Nat} {x : Int32} (hR : gLab a0 c) (hr : gRC h M) (hx : gOut (h 2) x) : mf_X3_startSheet gR a0 x M = some (zm1, M) := by
  obtain ⟨ra, rc, hcl⟩ := id hR
  unfold mf_X3_startSheet
  simp (disch := omega) only [zlet_ok, zcl_ok, zl_lit, zl_m1, nI_add, zald_nI, nI_ltE, nI_leE, nI_eqE, zm1_lt', zm1_le', zm1_nlt', zm1_nle', zm1_ne, zm1_ne', zm1_add1, gwI, grI_rI, zrI_s, zrI_n, zrI_L, gwL, grL_rL, zrL_s, zrL_n, zrL_I, Nat.zero_add, ↓reduceIte, if_true, if_false, gB_0, gB_1, gB_01, zchk_t, gB_1e, eq_self, gcle, gcnle, gclt, gcnlt, gcne, not_true_eq_false, not_false_eq_true, true_or, or_true, false_or, or_false, true_and, and_true, false_and, and_false, ra, c_hasSheet_n hr hx]
theorem c_take {h a : zN} {z : Nat → Int32} {M : zMem} {a0 c s : Nat} (hR : gLab a0 c) (hr : gRC h M) (hc : M.1 c = eC a z) (hH : gH h) (hA : gA h a) (hs : s < h 2) : mf_X3_takeSheet gR a0 (nI s) M = if a (8 + s) = 1 then some (nI 0, zrowI M c (eC (gGo a s 3) z)) else some (nI 1, M) := by
  obtain ⟨k0, k1, k2, k3, k4, k5, kh, kl, ka, kp⟩ := id hH
  obtain ⟨ra, rc, hcl⟩ := id hR
  have hs8 : s < 8 := by omega
  obtain ⟨p1, p2, p3, p4, p5, p6⟩ := hA.2.2 s hs8
  have hc' : M.1 c = encC a (gIn a) z := hc
  unfold mf_X3_takeSheet
  simp (disch := (first | assumption | omega | (refine gRC.row ?_ ?_ <;> first | assumption | omega | (refine gRC.row ?_ ?_ <;> first | assumption | omega)))) only [zlet_ok, zcl_ok, zl_lit, zl_m1, nI_add, zald_nI, nI_ltE, nI_leE, nI_eqE, zm1_lt', zm1_le', zm1_nlt', zm1_nle', zm1_ne, zm1_ne', zm1_add1, gwI, grI_rI, zrI_s, zrI_n, zrI_L, gwL, grL_rL, zrL_s, zrL_n, zrL_I, Nat.zero_add, ↓reduceIte, if_true, if_false, gB_0, gB_1, gB_01, zchk_t, gB_1e, eq_self, gcle, gcnle, gclt, gcnlt, gcne, not_true_eq_false, not_false_eq_true, true_or, or_true, false_or, or_false, true_and, and_true, false_and, and_false, r4_6, r4_7, r4_8, r4_9, r4_10, ra, rc, c_hasSheet hr hH hs, hc', eC_how, c_settle hR hc hs8 (how := 3) (by omega)]
theorem c_take_n {h : zN} {M : zMem} {a0 c : Nat} {x : Int32} (hR : gLab a0 c) (hr : gRC h M) (hx : gOut (h 2) x) : mf_X3_takeSheet gR a0 x M = some (zm1, M) := by
  obtain ⟨ra, rc, hcl⟩ := id hR
  unfold mf_X3_takeSheet
  simp (disch := omega) only [zlet_ok, zcl_ok, zl_lit, zl_m1, nI_add, zald_nI, nI_ltE, nI_leE, nI_eqE, zm1_lt', zm1_le', zm1_nlt', zm1_nle', zm1_ne, zm1_ne', zm1_add1, gwI, grI_rI, zrI_s, zrI_n, zrI_L, gwL, grL_rL, zrL_s, zrL_n, zrL_I, Nat.zero_add, ↓reduceIte, if_true, if_false, gB_0, gB_1, gB_01, zchk_t, gB_1e, eq_self, gcle, gcnle, gclt, gcnlt, gcne, not_true_eq_false, not_false_eq_true, true_or, or_true, false_or, or_false, true_and, and_true, false_and, and_false, ra, c_hasSheet_n hr hx]
theorem c_again {h a : zN} {z : Nat → Int32} {M : zMem} {a0 c s : Nat} (hR : gLab a0 c) (hr : gRC h M) (hc : M.1 c = eC a z) (hH : gH h) (hA : gA h a) (hs : s < h 2) : mf_X3_againSheet gR a0 (nI s) M = if a (8 + s) = 3 then some (nI 0, zrowI M c (eC (gGo a s 0) z)) else some (nI 1, M) := by
  obtain ⟨k0, k1, k2, k3, k4, k5, kh, kl, ka, kp⟩ := id hH
  obtain ⟨ra, rc, hcl⟩ := id hR
  have hs8 : s < 8 := by omega
  obtain ⟨p1, p2, p3, p4, p5, p6⟩ := hA.2.2 s hs8
  have hc' : M.1 c = encC a (gIn a) z := hc
  unfold mf_X3_againSheet
  simp (disch := (first | assumption | omega | (refine gRC.row ?_ ?_ <;> first | assumption | omega | (refine gRC.row ?_ ?_ <;> first | assumption | omega)))) only [zlet_ok, zcl_ok, zl_lit, zl_m1, nI_add, zald_nI, nI_ltE, nI_leE, nI_eqE, zm1_lt', zm1_le', zm1_nlt', zm1_nle', zm1_ne, zm1_ne', zm1_add1, gwI, grI_rI, zrI_s, zrI_n, zrI_L, gwL, grL_rL, zrL_s, zrL_n, zrL_I, Nat.zero_add, ↓reduceIte, if_true, if_false, gB_0, gB_1, gB_01, zchk_t, gB_1e, eq_self, gcle, gcnle, gclt, gcnlt, gcne, not_true_eq_false, not_false_eq_true, true_or, or_true, false_or, or_false, true_and, and_true, false_and, and_false, r4_6, r4_7, r4_8, r4_9, r4_10, ra, rc, c_hasSheet hr hH hs, hc', eC_how, c_settle hR hc hs8 (how := 0) (by omega)]
theorem c_again_n {h : zN} {M : zMem} {a0 c : Nat} {x : Int32} (hR : gLab a0 c) (hr : gRC h M) (hx : gOut (h 2) x) : mf_X3_againSheet gR a0 x M = some (zm1, M) := by
  obtain ⟨ra, rc, hcl⟩ := id hR
  unfold mf_X3_againSheet
  simp (disch := omega) only [zlet_ok, zcl_ok, zl_lit, zl_m1, nI_add, zald_nI, nI_ltE, nI_leE, nI_eqE, zm1_lt', zm1_le', zm1_nlt', zm1_nle', zm1_ne, zm1_ne', zm1_add1, gwI, grI_rI, zrI_s, zrI_n, zrI_L, gwL, grL_rL, zrL_s, zrL_n, zrL_I, Nat.zero_add, ↓reduceIte, if_true, if_false, gB_0, gB_1, gB_01, zchk_t, gB_1e, eq_self, gcle, gcnle, gclt, gcnlt, gcne, not_true_eq_false, not_false_eq_true, true_or, or_true, false_or, or_false, true_and, and_true, false_and, and_false, ra, c_hasSheet_n hr hx]
theorem c_renew {h a : zN} {z : Nat → Int32} {M : zMem} {a0 c b : Nat} (hR : gLab a0 c) (hr : gRC h M) (hc : M.1 c = eC a z) (hH : gH h) (hA : gA h a) (hb : b < h 0) : mf_X3_renewBath gR a0 (nI b) M = if gWhyR a b = 0 then some (nI 0, zrowI M c (eC (gRen a b) z)) else some (nI (gWhyR a b), M) := by
  obtain ⟨k0, k1, k2, k3, k4, k5, kh, kl, ka, kp⟩ := id hH
  obtain ⟨ra, rc, hcl⟩ := id hR
  have l3 := hA.2.1 b hb
  have l4 := kl b hb
  have l5 := hA.1
  have l6 := gIn_256 a b
  have hc' : M.1 c = encC a (gIn a) z := hc
  have e9 : encC (uN (uN a (2 + b) 0) 1 (a 1 - 1)) (gIn a) z = eC (gRen a b) z := by
    unfold eC gRen
    rw [gIn_irr (by omega) (by omega)]
  unfold mf_X3_renewBath gWhyR
  by_cases e0 : a (2 + b) = 0
  · simp (disch := (first | assumption | omega | (refine gRC.row ?_ ?_ <;> first | assumption | omega | (refine gRC.row ?_ ?_ <;> first | assumption | omega)))) only [zlet_ok, zcl_ok, zl_lit, zl_m1, nI_add, zald_nI, nI_ltE, nI_leE, nI_eqE, zm1_lt', zm1_le', zm1_nlt', zm1_nle', zm1_ne, zm1_ne', zm1_add1, gwI, grI_rI, zrI_s, zrI_n, zrI_L, gwL, grL_rL, zrL_s, zrL_n, zrL_I, Nat.zero_add, ↓reduceIte, if_true, if_false, gB_0, gB_1, gB_01, zchk_t, gB_1e, eq_self, gcle, gcnle, gclt, gcnlt, gcne, not_true_eq_false, not_false_eq_true, true_or, or_true, false_or, or_false, true_and, and_true, false_and, and_false, r4_6, r4_7, r4_8, r4_9, r4_10, ra, rc, c_hasBath hr hH hb, hc', eC_had, e0]
    try simp
  · by_cases e1 : a 1 = 0
    · simp (disch := (first | assumption | omega | (refine gRC.row ?_ ?_ <;> first | assumption | omega | (refine gRC.row ?_ ?_ <;> first | assumption | omega)))) only [zlet_ok, zcl_ok, zl_lit, zl_m1, nI_add, zald_nI, nI_ltE, nI_leE, nI_eqE, zm1_lt', zm1_le', zm1_nlt', zm1_nle', zm1_ne, zm1_ne', zm1_add1, gwI, grI_rI, zrI_s, zrI_n, zrI_L, gwL, grL_rL, zrL_s, zrL_n, zrL_I, Nat.zero_add, ↓reduceIte, if_true, if_false, gB_0, gB_1, gB_01, zchk_t, gB_1e, eq_self, gcle, gcnle, gclt, gcnlt, gcne, not_true_eq_false, not_false_eq_true, true_or, or_true, false_or, or_false, true_and, and_true, false_and, and_false, r4_6, r4_7, r4_8, r4_9, r4_10, ra, rc, c_hasBath hr hH hb, hc', eC_had, e0, eC_can, e1]
      try simp
    · by_cases e2 : gIn a b = 0
      · simp (disch := (first | assumption | omega | (refine gRC.row ?_ ?_ <;> first | assumption | omega | (refine gRC.row ?_ ?_ <;> first | assumption | omega)))) only [zlet_ok, zcl_ok, zl_lit, zl_m1, nI_add, zald_nI, nI_ltE, nI_leE, nI_eqE, zm1_lt', zm1_le', zm1_nlt', zm1_nle', zm1_ne, zm1_ne', zm1_add1, gwI, grI_rI, zrI_s, zrI_n, zrI_L, gwL, grL_rL, zrL_s, zrL_n, zrL_I, Nat.zero_add, ↓reduceIte, if_true, if_false, gB_0, gB_1, gB_01, zchk_t, gB_1e, eq_self, gcle, gcnle, gclt, gcnlt, gcne, not_true_eq_false, not_false_eq_true, true_or, or_true, false_or, or_false, true_and, and_true, false_and, and_false, r4_6, r4_7, r4_8, r4_9, r4_10, ra, rc, c_hasBath hr hH hb, hc', eC_had, e0, eC_can, e1, eC_ins, e2, wC_had, uN_n, nI_subE, wC_can, e9]
        try rw [if_pos (by omega)]
      · simp (disch := (first | assumption | omega | (refine gRC.row ?_ ?_ <;> first | assumption | omega | (refine gRC.row ?_ ?_ <;> first | assumption | omega)))) only [zlet_ok, zcl_ok, zl_lit, zl_m1, nI_add, zald_nI, nI_ltE, nI_leE, nI_eqE, zm1_lt', zm1_le', zm1_nlt', zm1_nle', zm1_ne, zm1_ne', zm1_add1, gwI, grI_rI, zrI_s, zrI_n, zrI_L, gwL, grL_rL, zrL_s, zrL_n, zrL_I, Nat.zero_add, ↓reduceIte, if_true, if_false, gB_0, gB_1, gB_01, zchk_t, gB_1e, eq_self, gcle, gcnle, gclt, gcnlt, gcne, not_true_eq_false, not_false_eq_true, true_or, or_true, false_or, or_false, true_and, and_true, false_and, and_false, r4_6, r4_7, r4_8, r4_9, r4_10, ra, rc, c_hasBath hr hH hb, hc', eC_had, e0, eC_can, e1, eC_ins, e2]
        try rw [if_pos (by omega)]
        try simp
theorem c_renew_n {h : zN} {M : zMem} {a0 c : Nat} {x : Int32} (hR : gLab a0 c) (hr : gRC h M) (hx : gOut (h 0) x) : mf_X3_renewBath gR a0 x M = some (zm1, M) := by
  obtain ⟨ra, rc, hcl⟩ := id hR
  unfold mf_X3_renewBath
  simp (disch := omega) only [zlet_ok, zcl_ok, zl_lit, zl_m1, nI_add, zald_nI, nI_ltE, nI_leE, nI_eqE, zm1_lt', zm1_le', zm1_nlt', zm1_nle', zm1_ne, zm1_ne', zm1_add1, gwI, grI_rI, zrI_s, zrI_n, zrI_L, gwL, grL_rL, zrL_s, zrL_n, zrL_I, Nat.zero_add, ↓reduceIte, if_true, if_false, gB_0, gB_1, gB_01, zchk_t, gB_1e, eq_self, gcle, gcnle, gclt, gcnlt, gcne, not_true_eq_false, not_false_eq_true, true_or, or_true, false_or, or_false, true_and, and_true, false_and, and_false, ra, c_hasBath_n hr hx]
theorem m_why {h a : zN} {t : Nat → Int32} {M : zMem} {k x : Nat} (hH : gH h) (hA : gA h a) (hk : k ≤ 3) (hv : gVal h k x) : mf_X12_why gR 89 (nI k) (nI x) (zrowI M 91 (encM h a t)) = some (nI (gWhy h a k x), zrowI M 91 (encM h a t)) := by
  obtain ⟨k0, k1, k2, k3, k4, k5, kh, kl, ka, kp⟩ := id hH
  unfold gVal at hv
  unfold mf_X12_why gWhy
  by_cases e0 : k = 0
  · subst e0
    simp (disch := omega) only [zlet_ok, zcl_ok, zl_lit, zl_m1, nI_add, zald_nI, nI_ltE, nI_leE, nI_eqE, zm1_lt', zm1_le', zm1_nlt', zm1_nle', zm1_ne, zm1_ne', zm1_add1, gwI, grI_rI, zrI_s, zrI_n, zrI_L, gwL, grL_rL, zrL_s, zrL_n, zrL_I, Nat.zero_add, ↓reduceIte, if_true, if_false, gB_0, gB_1, gB_01, zchk_t, gB_1e, eq_self, gcle, gcnle, gclt, gcnlt, gcne, not_true_eq_false, not_false_eq_true, true_or, or_true, false_or, or_false, true_and, and_true, false_and, and_false, m_whyStart hH hA (show x < h 2 from hv)]
  · by_cases e1 : k = 1
    · subst e1
      have hx : x < h 2 := hv
      simp (disch := omega) only [zlet_ok, zcl_ok, zl_lit, zl_m1, nI_add, zald_nI, nI_ltE, nI_leE, nI_eqE, zm1_lt', zm1_le', zm1_nlt', zm1_nle', zm1_ne, zm1_ne', zm1_add1, gwI, grI_rI, zrI_s, zrI_n, zrI_L, gwL, grL_rL, zrL_s, zrL_n, zrL_I, Nat.zero_add, ↓reduceIte, if_true, if_false, gB_0, gB_1, gB_01, zchk_t, gB_1e, eq_self, gcle, gcnle, gclt, gcnlt, gcne, not_true_eq_false, not_false_eq_true, true_or, or_true, false_or, or_false, true_and, and_true, false_and, and_false, m_isBathed (M := M) (t := t) (show x < 8 by omega) (hA.2.2 x (by omega)), decide_eq_false_iff_not]
      by_cases e : a (8 + x) = 1 <;> simp [e]
    · by_cases e2 : k = 2
      · subst e2
        have hx : x < h 2 := hv
        have p1 := (hA.2.2 x (by omega)).1
        simp (disch := omega) only [zlet_ok, zcl_ok, zl_lit, zl_m1, nI_add, zald_nI, nI_ltE, nI_leE, nI_eqE, zm1_lt', zm1_le', zm1_nlt', zm1_nle', zm1_ne, zm1_ne', zm1_add1, gwI, grI_rI, zrI_s, zrI_n, zrI_L, gwL, grL_rL, zrL_s, zrL_n, zrL_I, Nat.zero_add, ↓reduceIte, if_true, if_false, gB_0, gB_1, gB_01, zchk_t, gB_1e, eq_self, gcle, gcnle, gclt, gcnlt, gcne, not_true_eq_false, not_false_eq_true, true_or, or_true, false_or, or_false, true_and, and_true, false_and, and_false, r89_14, eM_how]
        by_cases e : a (8 + x) = 3 <;> simp [e]
      · have e3 : k = 3 := by omega
        subst e3
        simp (disch := omega) only [zlet_ok, zcl_ok, zl_lit, zl_m1, nI_add, zald_nI, nI_ltE, nI_leE, nI_eqE, zm1_lt', zm1_le', zm1_nlt', zm1_nle', zm1_ne, zm1_ne', zm1_add1, gwI, grI_rI, zrI_s, zrI_n, zrI_L, gwL, grL_rL, zrL_s, zrL_n, zrL_I, Nat.zero_add, ↓reduceIte, if_true, if_false, gB_0, gB_1, gB_01, zchk_t, gB_1e, eq_self, gcle, gcnle, gclt, gcnlt, gcne, not_true_eq_false, not_false_eq_true, true_or, or_true, false_or, or_false, true_and, and_true, false_and, and_false, m_whyRenew hH hA (show x < h 0 from hv)]
        try simp
theorem m_live {h a : zN} {t : Nat → Int32} {M : zMem} {k x : Nat} (hH : gH h) (hA : gA h a) (hk : k ≤ 3) (hv : gVal h k x) (hw : gWhy h a k x = 0) : mf_X12_live gR 89 (nI k) (nI x) (zrowI M 91 (encM h a t)) = some ((), zrowI M 91 (encM h (gLive h a k x) t)) := by
  obtain ⟨k0, k1, k2, k3, k4, k5, kh, kl, ka, kp⟩ := id hH
  unfold gVal at hv
  unfold gWhy at hw
  unfold mf_X12_live gLive
  by_cases e0 : k = 0
  · subst e0
    simp (disch := omega) only [zlet_ok, zcl_ok, zl_lit, zl_m1, nI_add, zald_nI, nI_ltE, nI_leE, nI_eqE, zm1_lt', zm1_le', zm1_nlt', zm1_nle', zm1_ne, zm1_ne', zm1_add1, gwI, grI_rI, zrI_s, zrI_n, zrI_L, gwL, grL_rL, zrL_s, zrL_n, zrL_I, Nat.zero_add, ↓reduceIte, if_true, if_false, gB_0, gB_1, gB_01, zchk_t, gB_1e, eq_self, gcle, gcnle, gclt, gcnlt, gcne, not_true_eq_false, not_false_eq_true, true_or, or_true, false_or, or_false, true_and, and_true, false_and, and_false, m_starts hH (gA_st hH hA (show x < h 2 from hv) hw).2 (show x < h 2 from hv)]
  · by_cases e1 : k = 1
    · subst e1
      have hx : x < h 2 := hv
      simp (disch := omega) only [zlet_ok, zcl_ok, zl_lit, zl_m1, nI_add, zald_nI, nI_ltE, nI_leE, nI_eqE, zm1_lt', zm1_le', zm1_nlt', zm1_nle', zm1_ne, zm1_ne', zm1_add1, gwI, grI_rI, zrI_s, zrI_n, zrI_L, gwL, grL_rL, zrL_s, zrL_n, zrL_I, Nat.zero_add, ↓reduceIte, if_true, if_false, gB_0, gB_1, gB_01, zchk_t, gB_1e, eq_self, gcle, gcnle, gclt, gcnlt, gcne, not_true_eq_false, not_false_eq_true, true_or, or_true, false_or, or_false, true_and, and_true, false_and, and_false, m_goesOut (show x < 8 by omega)]
      try rfl
    · by_cases e2 : k = 2
      · subst e2
        have hx : x < h 2 := hv
        simp (disch := omega) only [zlet_ok, zcl_ok, zl_lit, zl_m1, nI_add, zald_nI, nI_ltE, nI_leE, nI_eqE, zm1_lt', zm1_le', zm1_nlt', zm1_nle', zm1_ne, zm1_ne', zm1_add1, gwI, grI_rI, zrI_s, zrI_n, zrI_L, gwL, grL_rL, zrL_s, zrL_n, zrL_I, Nat.zero_add, ↓reduceIte, if_true, if_false, gB_0, gB_1, gB_01, zchk_t, gB_1e, eq_self, gcle, gcnle, gclt, gcnlt, gcne, not_true_eq_false, not_false_eq_true, true_or, or_true, false_or, or_false, true_and, and_true, false_and, and_false, m_goesOut (show x < 8 by omega)]
        try rfl
      · have e3 : k = 3 := by omega
        subst e3
        have hx : x < h 0 := hv
        have e4 : a 1 ≠ 0 := fun e => by
          simp only [gWhyR, e] at hw
          revert hw
          by_cases q : a (2 + x) = 0 <;> simp [q]
        simp (disch := omega) only [zlet_ok, zcl_ok, zl_lit, zl_m1, nI_add, zald_nI, nI_ltE, nI_leE, nI_eqE, zm1_lt', zm1_le', zm1_nlt', zm1_nle', zm1_ne, zm1_ne', zm1_add1, gwI, grI_rI, zrI_s, zrI_n, zrI_L, gwL, grL_rL, zrL_s, zrL_n, zrL_I, Nat.zero_add, ↓reduceIte, if_true, if_false, gB_0, gB_1, gB_01, zchk_t, gB_1e, eq_self, gcle, gcnle, gclt, gcnlt, gcne, not_true_eq_false, not_false_eq_true, true_or, or_true, false_or, or_false, true_and, and_true, false_and, and_false, r89_14, wM_had, eM_can, uN_n, nI_subE, wM_can]
        try rfl
/-! sets -/
theorem c_all {h a : zN} {z : Nat → Int32} {M : zMem} {a0 c how : Nat} (hR : gLab a0 c) (hr : gRC h M) (hc : M.1 c = eC a z) (hH : gH h) (hA : gA h a) (hw : how ≤ 3) : mf_X3_allThatAre gR a0 (nI how) M = some (nI (gTh h a how), M) := by
  obtain ⟨q0, q1, q2, q3, q4, q5, qh, ql, qp, qa⟩ := id hr
  obtain ⟨k0, k1, k2, k3, k4, k5, kh, kl, ka, kp⟩ := id hH
  obtain ⟨ra, rc, hcl⟩ := id hR
  have hc' : M.1 c = encC a (gIn a) z := hc
  unfold mf_X3_allThatAre gTh
  refine gfor (G := fun f i => mf_X3_allThatAre_l4 gR a0 f (nI how) (nI (gbN (fun s => decide (a (8 + s) = how)) i)) (nI i) M) (n := h 2) (fun f i hi => ?_) (fun f => ?_) _ (by first | (show _ < 5000; omega) | omega)
  · have p1 := (hA.2.2 i (by omega)).1
    by_cases e : a (8 + i) = how
    · simp (disch := omega) only [zlet_ok, zcl_ok, zl_lit, zl_m1, nI_add, zald_nI, nI_ltE, nI_leE, nI_eqE, zm1_lt', zm1_le', zm1_nlt', zm1_nle', zm1_ne, zm1_ne', zm1_add1, gwI, grI_rI, zrI_s, zrI_n, zrI_L, gwL, grL_rL, zrL_s, zrL_n, zrL_I, Nat.zero_add, ↓reduceIte, if_true, if_false, gB_0, gB_1, gB_01, zchk_t, gB_1e, eq_self, gcle, gcnle, gclt, gcnlt, gcne, not_true_eq_false, not_false_eq_true, true_or, or_true, false_or, or_false, true_and, and_true, false_and, and_false, mf_X3_allThatAre_l4, mf_X3_allThatAre_b34, ra, rc, q2, hc', eC_how, gbN, decide_eq_true_eq, e, gbN_or, Nat.add_zero]
      try rw [if_neg (by omega)]
    · simp (disch := omega) only [zlet_ok, zcl_ok, zl_lit, zl_m1, nI_add, zald_nI, nI_ltE, nI_leE, nI_eqE, zm1_lt', zm1_le', zm1_nlt', zm1_nle', zm1_ne, zm1_ne', zm1_add1, gwI, grI_rI, zrI_s, zrI_n, zrI_L, gwL, grL_rL, zrL_s, zrL_n, zrL_I, Nat.zero_add, ↓reduceIte, if_true, if_false, gB_0, gB_1, gB_01, zchk_t, gB_1e, eq_self, gcle, gcnle, gclt, gcnlt, gcne, not_true_eq_false, not_false_eq_true, true_or, or_true, false_or, or_false, true_and, and_true, false_and, and_false, mf_X3_allThatAre_l4, mf_X3_allThatAre_b34, ra, rc, q2, hc', eC_how, gbN, decide_eq_true_eq, e, gbN_or, Nat.add_zero]
      try rw [if_neg (by omega)]
  · simp (disch := omega) only [zlet_ok, zcl_ok, zl_lit, zl_m1, nI_add, zald_nI, nI_ltE, nI_leE, nI_eqE, zm1_lt', zm1_le', zm1_nlt', zm1_nle', zm1_ne, zm1_ne', zm1_add1, gwI, grI_rI, zrI_s, zrI_n, zrI_L, gwL, grL_rL, zrL_s, zrL_n, zrL_I, Nat.zero_add, ↓reduceIte, if_true, if_false, gB_0, gB_1, gB_01, zchk_t, gB_1e, eq_self, gcle, gcnle, gclt, gcnlt, gcne, not_true_eq_false, not_false_eq_true, true_or, or_true, false_or, or_false, true_and, and_true, false_and, and_false, mf_X3_allThatAre_l4, ra, q2, Nat.le_refl]
theorem m_those {h a : zN} {t : Nat → Int32} {M : zMem} {how : Nat} (hH : gH h) (hA : gA h a) (hw : how ≤ 3) : mf_X12_those gR 89 (nI how) (zrowI M 91 (encM h a t)) = some (nI (gTh h a how), zrowI M 91 (encM h a t)) := by
  obtain ⟨k0, k1, k2, k3, k4, k5, kh, kl, ka, kp⟩ := id hH
  unfold mf_X12_those gTh
  refine gfor (G := fun f i => mf_X12_those_l4 gR 89 f (nI how) (nI (gbN (fun s => decide (a (8 + s) = how)) i)) (nI i) (zrowI M 91 (encM h a t))) (n := h 2) (fun f i hi => ?_) (fun f => ?_) _ (by first | (show _ < 5000; omega) | omega)
  · have p1 := (hA.2.2 i (by omega)).1
    by_cases e : a (8 + i) = how
    · simp (disch := omega) only [zlet_ok, zcl_ok, zl_lit, zl_m1, nI_add, zald_nI, nI_ltE, nI_leE, nI_eqE, zm1_lt', zm1_le', zm1_nlt', zm1_nle', zm1_ne, zm1_ne', zm1_add1, gwI, grI_rI, zrI_s, zrI_n, zrI_L, gwL, grL_rL, zrL_s, zrL_n, zrL_I, Nat.zero_add, ↓reduceIte, if_true, if_false, gB_0, gB_1, gB_01, zchk_t, gB_1e, eq_self, gcle, gcnle, gclt, gcnlt, gcne, not_true_eq_false, not_false_eq_true, true_or, or_true, false_or, or_false, true_and, and_true, false_and, and_false, mf_X12_those_l4, mf_X12_those_b33, r89_14, eM_h, eM_how, gbN, decide_eq_true_eq, e, gbN_or, Nat.add_zero]
    · simp (disch := omega) only [zlet_ok, zcl_ok, zl_lit, zl_m1, nI_add, zald_nI, nI_ltE, nI_leE, nI_eqE, zm1_lt', zm1_le', zm1_nlt', zm1_nle', zm1_ne, zm1_ne', zm1_add1, gwI, grI_rI, zrI_s, zrI_n, zrI_L, gwL, grL_rL, zrL_s, zrL_n, zrL_I, Nat.zero_add, ↓reduceIte, if_true, if_false, gB_0, gB_1, gB_01, zchk_t, gB_1e, eq_self, gcle, gcnle, gclt, gcnlt, gcne, not_true_eq_false, not_false_eq_true, true_or, or_true, false_or, or_false, true_and, and_true, false_and, and_false, mf_X12_those_l4, mf_X12_those_b33, r89_14, eM_h, eM_how, gbN, decide_eq_true_eq, e, gbN_or, Nat.add_zero]
  · simp (disch := omega) only [zlet_ok, zcl_ok, zl_lit, zl_m1, nI_add, zald_nI, nI_ltE, nI_leE, nI_eqE, zm1_lt', zm1_le', zm1_nlt', zm1_nle', zm1_ne, zm1_ne', zm1_add1, gwI, grI_rI, zrI_s, zrI_n, zrI_L, gwL, grL_rL, zrL_s, zrL_n, zrL_I, Nat.zero_add, ↓reduceIte, if_true, if_false, gB_0, gB_1, gB_01, zchk_t, gB_1e, eq_self, gcle, gcnle, gclt, gcnlt, gcne, not_true_eq_false, not_false_eq_true, true_or, or_true, false_or, or_false, true_and, and_true, false_and, and_false, mf_X12_those_l4, r89_14, eM_h, Nat.le_refl]
def gHd (h a : zN) : Nat := gbN (gHeld a) (h 2)
def gOp (h a : zN) : Nat := gbN (gOpen h a) (h 0)
theorem c_howIs {h a : zN} {z : Nat → Int32} {M : zMem} {a0 c s : Nat} (hR : gLab a0 c) (hr : gRC h M) (hc : M.1 c = eC a z) (hH : gH h) (hs : s < h 2) : mf_X3_howIs gR a0 (nI s) M = some (nI (a (8 + s)), M) := by
  obtain ⟨k0, k1, k2, k3, k4, k5, kh, kl, ka, kp⟩ := id hH
  obtain ⟨ra, rc, hcl⟩ := id hR
  have hc' : M.1 c = encC a (gIn a) z := hc
  unfold mf_X3_howIs
  simp (disch := (first | assumption | omega | (refine gRC.row ?_ ?_ <;> first | assumption | omega | (refine gRC.row ?_ ?_ <;> first | assumption | omega)))) only [zlet_ok, zcl_ok, zl_lit, zl_m1, nI_add, zald_nI, nI_ltE, nI_leE, nI_eqE, zm1_lt', zm1_le', zm1_nlt', zm1_nle', zm1_ne, zm1_ne', zm1_add1, gwI, grI_rI, zrI_s, zrI_n, zrI_L, gwL, grL_rL, zrL_s, zrL_n, zrL_I, Nat.zero_add, ↓reduceIte, if_true, if_false, gB_0, gB_1, gB_01, zchk_t, gB_1e, eq_self, gcle, gcnle, gclt, gcnlt, gcne, not_true_eq_false, not_false_eq_true, true_or, or_true, false_or, or_false, true_and, and_true, false_and, and_false, r4_6, r4_7, r4_8, r4_9, r4_10, ra, rc, c_hasSheet hr hH hs, hc', eC_how]
theorem c_howIs_n {h : zN} {M : zMem} {a0 c : Nat} {x : Int32} (hR : gLab a0 c) (hr : gRC h M) (hx : gOut (h 2) x) : mf_X3_howIs gR a0 x M = some (zm1, M) := by
  obtain ⟨ra, rc, hcl⟩ := id hR
  unfold mf_X3_howIs
  simp (disch := omega) only [zlet_ok, zcl_ok, zl_lit, zl_m1, nI_add, zald_nI, nI_ltE, nI_leE, nI_eqE, zm1_lt', zm1_le', zm1_nlt', zm1_nle', zm1_ne, zm1_ne', zm1_add1, gwI, grI_rI, zrI_s, zrI_n, zrI_L, gwL, grL_rL, zrL_s, zrL_n, zrL_I, Nat.zero_add, ↓reduceIte, if_true, if_false, gB_0, gB_1, gB_01, zchk_t, gB_1e, eq_self, gcle, gcnle, gclt, gcnlt, gcne, not_true_eq_false, not_false_eq_true, true_or, or_true, false_or, or_false, true_and, and_true, false_and, and_false, ra, c_hasSheet_n hr hx]
theorem c_isHeld {h a : zN} {z : Nat → Int32} {M : zMem} {a0 c s : Nat} (hR : gLab a0 c) (hr : gRC h M) (hc : M.1 c = eC a z) (hH : gH h) (hA : gA h a) (hs : s < h 2) : mf_X3_isHeld gR a0 (nI s) M = some (gB (gHeld a s), M) := by
  obtain ⟨k0, k1, k2, k3, k4, k5, kh, kl, ka, kp⟩ := id hH
  obtain ⟨ra, rc, hcl⟩ := id hR
  have hc' : M.1 c = encC a (gIn a) z := hc
  obtain ⟨p1, p2, p3, p4, p5, p6⟩ := hA.2.2 s (by omega)
  unfold mf_X3_isHeld gHeld
  by_cases e : a (8 + s) = 1
  · by_cases e2 : a (24 + s) = 0
    · simp (disch := (first | assumption | omega | (refine gRC.row ?_ ?_ <;> first | assumption | omega | (refine gRC.row ?_ ?_ <;> first | assumption | omega)))) only [zlet_ok, zcl_ok, zl_lit, zl_m1, nI_add, zald_nI, nI_ltE, nI_leE, nI_eqE, zm1_lt', zm1_le', zm1_nlt', zm1_nle', zm1_ne, zm1_ne', zm1_add1, gwI, grI_rI, zrI_s, zrI_n, zrI_L, gwL, grL_rL, zrL_s, zrL_n, zrL_I, Nat.zero_add, ↓reduceIte, if_true, if_false, gB_0, gB_1, gB_01, zchk_t, gB_1e, eq_self, gcle, gcnle, gclt, gcnlt, gcne, not_true_eq_false, not_false_eq_true, true_or, or_true, false_or, or_false, true_and, and_true, false_and, and_false, r4_6, r4_7, r4_8, r4_9, r4_10, ra, rc, c_howIs hR hr hc hH hs, hc', e, eC_left, e2]
      try rfl
    · simp (disch := (first | assumption | omega | (refine gRC.row ?_ ?_ <;> first | assumption | omega | (refine gRC.row ?_ ?_ <;> first | assumption | omega)))) only [zlet_ok, zcl_ok, zl_lit, zl_m1, nI_add, zald_nI, nI_ltE, nI_leE, nI_eqE, zm1_lt', zm1_le', zm1_nlt', zm1_nle', zm1_ne, zm1_ne', zm1_add1, gwI, grI_rI, zrI_s, zrI_n, zrI_L, gwL, grL_rL, zrL_s, zrL_n, zrL_I, Nat.zero_add, ↓reduceIte, if_true, if_false, gB_0, gB_1, gB_01, zchk_t, gB_1e, eq_self, gcle, gcnle, gclt, gcnlt, gcne, not_true_eq_false, not_false_eq_true, true_or, or_true, false_or, or_false, true_and, and_true, false_and, and_false, r4_6, r4_7, r4_8, r4_9, r4_10, ra, rc, c_howIs hR hr hc hH hs, hc', e, eC_left, e2]
      try rfl
  · simp (disch := (first | assumption | omega | (refine gRC.row ?_ ?_ <;> first | assumption | omega | (refine gRC.row ?_ ?_ <;> first | assumption | omega)))) only [zlet_ok, zcl_ok, zl_lit, zl_m1, nI_add, zald_nI, nI_ltE, nI_leE, nI_eqE, zm1_lt', zm1_le', zm1_nlt', zm1_nle', zm1_ne, zm1_ne', zm1_add1, gwI, grI_rI, zrI_s, zrI_n, zrI_L, gwL, grL_rL, zrL_s, zrL_n, zrL_I, Nat.zero_add, ↓reduceIte, if_true, if_false, gB_0, gB_1, gB_01, zchk_t, gB_1e, eq_self, gcle, gcnle, gclt, gcnlt, gcne, not_true_eq_false, not_false_eq_true, true_or, or_true, false_or, or_false, true_and, and_true, false_and, and_false, r4_6, r4_7, r4_8, r4_9, r4_10, ra, rc, c_howIs hR hr hc hH hs, e]
    try rfl
theorem c_isHeld_n {h : zN} {M : zMem} {a0 c : Nat} {x : Int32} (hR : gLab a0 c) (hr : gRC h M) (hx : gOut (h 2) x) : mf_X3_isHeld gR a0 x M = some (nI 0, M) := by
  unfold mf_X3_isHeld
  simp (disch := omega) only [zlet_ok, zcl_ok, zl_lit, zl_m1, nI_add, zald_nI, nI_ltE, nI_leE, nI_eqE, zm1_lt', zm1_le', zm1_nlt', zm1_nle', zm1_ne, zm1_ne', zm1_add1, gwI, grI_rI, zrI_s, zrI_n, zrI_L, gwL, grL_rL, zrL_s, zrL_n, zrL_I, Nat.zero_add, ↓reduceIte, if_true, if_false, gB_0, gB_1, gB_01, zchk_t, gB_1e, eq_self, gcle, gcnle, gclt, gcnlt, gcne, not_true_eq_false, not_false_eq_true, true_or, or_true, false_or, or_false, true_and, and_true, false_and, and_false, c_howIs_n hR hr hx]
theorem c_allHeld {h a : zN} {z : Nat → Int32} {M : zMem} {a0 c : Nat} (hR : gLab a0 c) (hr : gRC h M) (hc : M.1 c = eC a z) (hH : gH h) (hA : gA h a) : mf_X3_allHeld gR a0 M = some (nI (gHd h a), M) := by
  obtain ⟨q0, q1, q2, q3, q4, q5, qh, ql, qp, qa⟩ := id hr
  obtain ⟨k0, k1, k2, k3, k4, k5, kh, kl, ka, kp⟩ := id hH
  obtain ⟨ra, rc, hcl⟩ := id hR
  unfold mf_X3_allHeld gHd
  refine gfor (G := fun f i => mf_X3_allHeld_l4 gR a0 f (nI (gbN (gHeld a) i)) (nI i) M) (n := h 2) (fun f i hi => ?_) (fun f => ?_) _ (by first | (show _ < 5000; omega) | omega)
  · cases e : gHeld a i
    · simp (disch := omega) only [zlet_ok, zcl_ok, zl_lit, zl_m1, nI_add, zald_nI, nI_ltE, nI_leE, nI_eqE, zm1_lt', zm1_le', zm1_nlt', zm1_nle', zm1_ne, zm1_ne', zm1_add1, gwI, grI_rI, zrI_s, zrI_n, zrI_L, gwL, grL_rL, zrL_s, zrL_n, zrL_I, Nat.zero_add, ↓reduceIte, if_true, if_false, gB_0, gB_1, gB_01, zchk_t, gB_1e, eq_self, gcle, gcnle, gclt, gcnlt, gcne, not_true_eq_false, not_false_eq_true, true_or, or_true, false_or, or_false, true_and, and_true, false_and, and_false, mf_X3_allHeld_l4, mf_X3_allHeld_b29, ra, q2, c_isHeld hR hr hc hH hA hi, gbN, e, Bool.false_eq_true, Nat.add_zero]
      try rw [if_neg (by omega)]
    · simp (disch := omega) only [zlet_ok, zcl_ok, zl_lit, zl_m1, nI_add, zald_nI, nI_ltE, nI_leE, nI_eqE, zm1_lt', zm1_le', zm1_nlt', zm1_nle', zm1_ne, zm1_ne', zm1_add1, gwI, grI_rI, zrI_s, zrI_n, zrI_L, gwL, grL_rL, zrL_s, zrL_n, zrL_I, Nat.zero_add, ↓reduceIte, if_true, if_false, gB_0, gB_1, gB_01, zchk_t, gB_1e, eq_self, gcle, gcnle, gclt, gcnlt, gcne, not_true_eq_false, not_false_eq_true, true_or, or_true, false_or, or_false, true_and, and_true, false_and, and_false, mf_X3_allHeld_l4, mf_X3_allHeld_b29, ra, q2, c_isHeld hR hr hc hH hA hi, gbN, e, Bool.true_eq_false, gbN_or]
      try rw [if_neg (by omega)]
  · simp (disch := omega) only [zlet_ok, zcl_ok, zl_lit, zl_m1, nI_add, zald_nI, nI_ltE, nI_leE, nI_eqE, zm1_lt', zm1_le', zm1_nlt', zm1_nle', zm1_ne, zm1_ne', zm1_add1, gwI, grI_rI, zrI_s, zrI_n, zrI_L, gwL, grL_rL, zrL_s, zrL_n, zrL_I, Nat.zero_add, ↓reduceIte, if_true, if_false, gB_0, gB_1, gB_01, zchk_t, gB_1e, eq_self, gcle, gcnle, gclt, gcnlt, gcne, not_true_eq_false, not_false_eq_true, true_or, or_true, false_or, or_false, true_and, and_true, false_and, and_false, mf_X3_allHeld_l4, ra, q2, Nat.le_refl]
theorem c_openBaths {h a : zN} {z : Nat → Int32} {M : zMem} {a0 c : Nat} (hR : gLab a0 c) (hr : gRC h M) (hc : M.1 c = eC a z) (hH : gH h) (hA : gA h a) : mf_X3_openBaths gR a0 M = some (nI (gOp h a), M) := by
  obtain ⟨q0, q1, q2, q3, q4, q5, qh, ql, qp, qa⟩ := id hr
  obtain ⟨k0, k1, k2, k3, k4, k5, kh, kl, ka, kp⟩ := id hH
  obtain ⟨ra, rc, hcl⟩ := id hR
  unfold mf_X3_openBaths gOp
  refine gfor (G := fun f i => mf_X3_openBaths_l4 gR a0 f (nI (gbN (gOpen h a) i)) (nI i) M) (n := h 0) (fun f i hi => ?_) (fun f => ?_) _ (by first | (show _ < 5000; omega) | omega)
  · cases e : gOpen h a i
    · simp (disch := omega) only [zlet_ok, zcl_ok, zl_lit, zl_m1, nI_add, zald_nI, nI_ltE, nI_leE, nI_eqE, zm1_lt', zm1_le', zm1_nlt', zm1_nle', zm1_ne, zm1_ne', zm1_add1, gwI, grI_rI, zrI_s, zrI_n, zrI_L, gwL, grL_rL, zrL_s, zrL_n, zrL_I, Nat.zero_add, ↓reduceIte, if_true, if_false, gB_0, gB_1, gB_01, zchk_t, gB_1e, eq_self, gcle, gcnle, gclt, gcnlt, gcne, not_true_eq_false, not_false_eq_true, true_or, or_true, false_or, or_false, true_and, and_true, false_and, and_false, mf_X3_openBaths_l4, mf_X3_openBaths_b29, ra, q0, c_isOpen hR hr hc hH hA hi, gbN, e, Bool.false_eq_true, Nat.add_zero]
      try rw [if_neg (by omega)]
    · simp (disch := omega) only [zlet_ok, zcl_ok, zl_lit, zl_m1, nI_add, zald_nI, nI_ltE, nI_leE, nI_eqE, zm1_lt', zm1_le', zm1_nlt', zm1_nle', zm1_ne, zm1_ne', zm1_add1, gwI, grI_rI, zrI_s, zrI_n, zrI_L, gwL, grL_rL, zrL_s, zrL_n, zrL_I, Nat.zero_add, ↓reduceIte, if_true, if_false, gB_0, gB_1, gB_01, zchk_t, gB_1e, eq_self, gcle, gcnle, gclt, gcnlt, gcne, not_true_eq_false, not_false_eq_true, true_or, or_true, false_or, or_false, true_and, and_true, false_and, and_false, mf_X3_openBaths_l4, mf_X3_openBaths_b29, ra, q0, c_isOpen hR hr hc hH hA hi, gbN, e, Bool.true_eq_false, gbN_or]
      try rw [if_neg (by omega)]
  · simp (disch := omega) only [zlet_ok, zcl_ok, zl_lit, zl_m1, nI_add, zald_nI, nI_ltE, nI_leE, nI_eqE, zm1_lt', zm1_le', zm1_nlt', zm1_nle', zm1_ne, zm1_ne', zm1_add1, gwI, grI_rI, zrI_s, zrI_n, zrI_L, gwL, grL_rL, zrL_s, zrL_n, zrL_I, Nat.zero_add, ↓reduceIte, if_true, if_false, gB_0, gB_1, gB_01, zchk_t, gB_1e, eq_self, gcle, gcnle, gclt, gcnlt, gcne, not_true_eq_false, not_false_eq_true, true_or, or_true, false_or, or_false, true_and, and_true, false_and, and_false, mf_X3_openBaths_l4, ra, q0, Nat.le_refl]
