/-! PAPERS: near, through, gap -/
def gAq (h : zN) (p b : Nat) : Nat := h (18 + 6 * p + b)
theorem gaq_le {h : zN} {p b : Nat} (hH : gH h) (hp : p < h 1) (hb : b < h 0) : gAq h p b ≤ 30 := by
  obtain ⟨k0, k1, k2, k3, k4, k5, kh, kl, ka, kp⟩ := id hH
  exact ka p b hp hb
theorem c_aq {h : zN} {M : zMem} {p b : Nat} (hr : gRC h M) (hH : gH h) (hp : p < h 1) (hb : b < h 0) : mf_X7_asked gR 4 (nI p) (nI b) M = some (nI (gAq h p b), M) := c_asked hr hH hp hb
theorem m_aq {h a : zN} {t : Nat → Int32} {M : zMem} {p b : Nat} (hH : gH h) (hp : p < h 1) (hb : b < h 0) : mf_X12_asked gR 89 (nI p) (nI b) (zrowI M 91 (encM h a t)) = some (nI (gAq h p b), zrowI M 91 (encM h a t)) := by
  obtain ⟨k0, k1, k2, k3, k4, k5, kh, kl, ka, kp⟩ := id hH
  exact m_asked (by omega) (by omega)
def gThr (h : zN) (p n : Nat) : Nat := gsm (gAq h p) n
theorem gthr_le {h : zN} {p n : Nat} (hH : gH h) (hp : p < h 1) (hn : n ≤ h 0) : gThr h p n ≤ 180 := by
  obtain ⟨k0, k1, k2, k3, k4, k5, kh, kl, ka, kp⟩ := id hH
  have : gThr h p n ≤ n * 30 := gsm_le (fun k hk => gaq_le hH hp (by omega))
  omega
theorem q_through {h a : zN} {t : Nat → Int32} {M : zMem} (W : gW h a t M) (x : Int32) : ∃ r, mf_X11_through gR 0 x M = some (r, M) ∧ mf_X12_through gR 89 x M = some (r, zwI M 89 0 (nI 0)) := by
  obtain ⟨hr, hc0, hm, hH, hA⟩ := W
  obtain ⟨z, hc⟩ : ∃ z, M.1 17 = eC a z := ⟨_, hc0⟩
  have hc' : M.1 17 = encC a (gIn a) z := hc
  obtain ⟨q0, q1, q2, q3, q4, q5, qh, ql, qp, qa⟩ := id hr
  obtain ⟨k0, k1, k2, k3, k4, k5, kh, kl, ka, kp⟩ := id hH
  have hm0 : (zwI M 89 0 (nI 0)).1 91 = encM h a t := by rw [zwI_n (by decide)]; exact hm
  unfold mf_X11_through mf_X12_through
  simp only [zlet_ok, zl_lit]
  generalize zwI M 89 0 (nI 0) = M1 at hm0
  rw [← grI_id hm0]
  rcases gcase (n := h 1) (by omega) x with ⟨p, hp, rfl⟩ | ho
  · refine ⟨nI (gThr h p (h 0)), ?_, ?_⟩
    · have key : mf_X4_minutesOf_l17 gR 55 zF (nI p) (nI 0) (nI 0) M = some (nI (gThr h p (h 0)), M) := by
        refine gfor (G := fun f i => mf_X4_minutesOf_l17 gR 55 f (nI p) (nI (gThr h p i)) (nI i) M) (n := h 0) (fun f i hi => ?_) (fun f => ?_) _ (by first | (show _ < 5000; omega) | omega)
        · rw [show gThr h p (i + 1) = gThr h p i + gAq h p i from rfl]
          simp (disch := (first | assumption | omega | (refine gRC.row ?_ ?_ <;> first | assumption | omega | (refine gRC.row ?_ ?_ <;> first | assumption | omega)))) only [zlet_ok, zcl_ok, zl_lit, zl_m1, nI_add, zald_nI, nI_ltE, nI_leE, nI_eqE, zm1_lt', zm1_le', zm1_nlt', zm1_nle', zm1_ne, zm1_ne', zm1_add1, gwI, grI_rI, zrI_s, zrI_n, zrI_L, gwL, grL_rL, zrL_s, zrL_n, zrL_I, Nat.zero_add, ↓reduceIte, if_true, if_false, gB_0, gB_1, gB_01, zchk_t, gB_1e, eq_self, gcle, gcnle, gclt, gcnlt, gcne, not_true_eq_false, not_false_eq_true, true_or, or_true, false_or, or_false, true_and, and_true, false_and, and_false, r4_6, r4_7, r4_8, r4_9, r4_10, mf_X4_minutesOf_l17, r55_0, q0, c_aq hr hH hp hi]
        · simp (disch := (first | assumption | omega | (refine gRC.row ?_ ?_ <;> first | assumption | omega | (refine gRC.row ?_ ?_ <;> first | assumption | omega)))) only [zlet_ok, zcl_ok, zl_lit, zl_m1, nI_add, zald_nI, nI_ltE, nI_leE, nI_eqE, zm1_lt', zm1_le', zm1_nlt', zm1_nle', zm1_ne, zm1_ne', zm1_add1, gwI, grI_rI, zrI_s, zrI_n, zrI_L, gwL, grL_rL, zrL_s, zrL_n, zrL_I, Nat.zero_add, ↓reduceIte, if_true, if_false, gB_0, gB_1, gB_01, zchk_t, gB_1e, eq_self, gcle, gcnle, gclt, gcnlt, gcne, not_true_eq_false, not_false_eq_true, true_or, or_true, false_or, or_false, true_and, and_true, false_and, and_false, r4_6, r4_7, r4_8, r4_9, r4_10, mf_X4_minutesOf_l17, r55_0, q0]
      simp (disch := (first | assumption | omega | (refine gRC.row ?_ ?_ <;> first | assumption | omega | (refine gRC.row ?_ ?_ <;> first | assumption | omega)))) only [zlet_ok, zcl_ok, zl_lit, zl_m1, nI_add, zald_nI, nI_ltE, nI_leE, nI_eqE, zm1_lt', zm1_le', zm1_nlt', zm1_nle', zm1_ne, zm1_ne', zm1_add1, gwI, grI_rI, zrI_s, zrI_n, zrI_L, gwL, grL_rL, zrL_s, zrL_n, zrL_I, Nat.zero_add, ↓reduceIte, if_true, if_false, gB_0, gB_1, gB_01, zchk_t, gB_1e, eq_self, gcle, gcnle, gclt, gcnlt, gcne, not_true_eq_false, not_false_eq_true, true_or, or_true, false_or, or_false, true_and, and_true, false_and, and_false, r4_6, r4_7, r4_8, r4_9, r4_10, r0_10, mf_X4_minutesOf, r55_0, c_hasPaper hr hH hp, key]
    · have key : mf_X12_through_l19 gR 89 zF (nI p) (nI 0) (nI 0) (zrowI M1 91 (encM h a t)) = some (nI (gThr h p (h 0)), (zrowI M1 91 (encM h a t))) := by
        refine gfor (G := fun f i => mf_X12_through_l19 gR 89 f (nI p) (nI (gThr h p i)) (nI i) (zrowI M1 91 (encM h a t))) (n := h 0) (fun f i hi => ?_) (fun f => ?_) _ (by first | (show _ < 5000; omega) | omega)
        · rw [show gThr h p (i + 1) = gThr h p i + gAq h p i from rfl]
          simp (disch := omega) only [zlet_ok, zcl_ok, zl_lit, zl_m1, nI_add, zald_nI, nI_ltE, nI_leE, nI_eqE, zm1_lt', zm1_le', zm1_nlt', zm1_nle', zm1_ne, zm1_ne', zm1_add1, gwI, grI_rI, zrI_s, zrI_n, zrI_L, gwL, grL_rL, zrL_s, zrL_n, zrL_I, Nat.zero_add, ↓reduceIte, if_true, if_false, gB_0, gB_1, gB_01, zchk_t, gB_1e, eq_self, gcle, gcnle, gclt, gcnlt, gcne, not_true_eq_false, not_false_eq_true, true_or, or_true, false_or, or_false, true_and, and_true, false_and, and_false, mf_X12_through_l19, r89_14, eM_h, m_aq hH hp hi]
        · simp (disch := omega) only [zlet_ok, zcl_ok, zl_lit, zl_m1, nI_add, zald_nI, nI_ltE, nI_leE, nI_eqE, zm1_lt', zm1_le', zm1_nlt', zm1_nle', zm1_ne, zm1_ne', zm1_add1, gwI, grI_rI, zrI_s, zrI_n, zrI_L, gwL, grL_rL, zrL_s, zrL_n, zrL_I, Nat.zero_add, ↓reduceIte, if_true, if_false, gB_0, gB_1, gB_01, zchk_t, gB_1e, eq_self, gcle, gcnle, gclt, gcnlt, gcne, not_true_eq_false, not_false_eq_true, true_or, or_true, false_or, or_false, true_and, and_true, false_and, and_false, mf_X12_through_l19, r89_14, eM_h]
      simp (disch := omega) only [zlet_ok, zcl_ok, zl_lit, zl_m1, nI_add, zald_nI, nI_ltE, nI_leE, nI_eqE, zm1_lt', zm1_le', zm1_nlt', zm1_nle', zm1_ne, zm1_ne', zm1_add1, gwI, grI_rI, zrI_s, zrI_n, zrI_L, gwL, grL_rL, zrL_s, zrL_n, zrL_I, Nat.zero_add, ↓reduceIte, if_true, if_false, gB_0, gB_1, gB_01, zchk_t, gB_1e, eq_self, gcle, gcnle, gclt, gcnlt, gcne, not_true_eq_false, not_false_eq_true, true_or, or_true, false_or, or_false, true_and, and_true, false_and, and_false, m_isPaper hH hp, key]
  · refine ⟨zm1, ?_, ?_⟩
    · simp (disch := (first | assumption | omega | (refine gRC.row ?_ ?_ <;> first | assumption | omega | (refine gRC.row ?_ ?_ <;> first | assumption | omega)))) only [zlet_ok, zcl_ok, zl_lit, zl_m1, nI_add, zald_nI, nI_ltE, nI_leE, nI_eqE, zm1_lt', zm1_le', zm1_nlt', zm1_nle', zm1_ne, zm1_ne', zm1_add1, gwI, grI_rI, zrI_s, zrI_n, zrI_L, gwL, grL_rL, zrL_s, zrL_n, zrL_I, Nat.zero_add, ↓reduceIte, if_true, if_false, gB_0, gB_1, gB_01, zchk_t, gB_1e, eq_self, gcle, gcnle, gclt, gcnlt, gcne, not_true_eq_false, not_false_eq_true, true_or, or_true, false_or, or_false, true_and, and_true, false_and, and_false, r4_6, r4_7, r4_8, r4_9, r4_10, r0_10, mf_X4_minutesOf, r55_0, c_hasPaper_n hr ho]
    · simp (disch := omega) only [zlet_ok, zcl_ok, zl_lit, zl_m1, nI_add, zald_nI, nI_ltE, nI_leE, nI_eqE, zm1_lt', zm1_le', zm1_nlt', zm1_nle', zm1_ne, zm1_ne', zm1_add1, gwI, grI_rI, zrI_s, zrI_n, zrI_L, gwL, grL_rL, zrL_s, zrL_n, zrL_I, Nat.zero_add, ↓reduceIte, if_true, if_false, gB_0, gB_1, gB_01, zchk_t, gB_1e, eq_self, gcle, gcnle, gclt, gcnlt, gcne, not_true_eq_false, not_false_eq_true, true_or, or_true, false_or, or_false, true_and, and_true, false_and, and_false, m_isPaper_n hH ho]
def gDf (x y : Nat) : Nat := if y ≤ x then x - y else y - x
theorem gDf_neg {x y : Nat} (h : x < y) : nI x - nI y = -nI (y - x) := by rw [← nI_subE (Nat.le_of_lt h), Int32.neg_sub]
theorem gDf_lt {x y : Nat} (h : x < y) (hy : y < 2 ^ 30) : ¬ nI 0 ≤ nI x - nI y := by
  rw [gDf_neg h, Int32.le_iff_toInt_le, Int32.toInt_neg, nI_toInt (by omega), nI_toInt (by omega)]
  have : (Int.bmod (-((y - x : Nat) : Int)) (2 ^ 32)) = -((y - x : Nat) : Int) := by
    rw [Int.bmod_eq_of_le] <;> omega
  omega
theorem gDf_c {x y : Nat} (hx : x < 2 ^ 30) (hy : y < 2 ^ 30) : (if nI 0 ≤ nI x - nI y then nI x - nI y else nI 0 - (nI x - nI y)) = nI (gDf x y) := by
  unfold gDf
  by_cases e : y ≤ x
  · rw [if_pos e, nI_subE e, if_pos]
    rw [nI_leI (by omega) (by omega)]; omega
  · rw [if_neg e, if_neg (gDf_lt (by omega) hy), gDf_neg (by omega)]
    have : nI 0 = 0 := by decide +kernel
    rw [this, Int32.zero_sub, Int32.neg_neg]
theorem m_size {x y : Nat} {M : zMem} (hx : x < 2 ^ 30) (hy : y < 2 ^ 30) : mf_X12_size gR (nI x - nI y) M = some (nI (gDf x y), M) := by
  unfold mf_X12_size gDf
  rw [zl_lit]
  by_cases e : y ≤ x
  · rw [if_pos e, nI_subE e, if_pos]
    rw [nI_leI (by omega) (by omega)]; omega
  · rw [if_neg e, if_neg (gDf_lt (by omega) hy), gDf_neg (by omega), Int32.neg_neg]
def gUn (h : zN) (p q n : Nat) : Nat := gsm (fun b => gDf (gAq h p b) (gAq h q b)) n
theorem gun_le {h : zN} {p q n : Nat} (hH : gH h) (hp : p < h 1) (hq : q < h 1) (hn : n ≤ h 0) : gUn h p q n ≤ 180 := by
  obtain ⟨k0, k1, k2, k3, k4, k5, kh, kl, ka, kp⟩ := id hH
  have : gUn h p q n ≤ n * 30 := gsm_le (fun k hk => by
    have e1 := gaq_le hH hp (show k < h 0 by omega)
    have e2 := gaq_le hH hq (show k < h 0 by omega)
    unfold gDf
    split <;> omega)
  omega
theorem m_unlike {h a : zN} {t : Nat → Int32} {M : zMem} {p q : Nat} (hH : gH h) (hp : p < h 1) (hq : q < h 1) : mf_X12_unlike gR 89 (nI p) (nI q) (zrowI M 91 (encM h a t)) = some (nI (gUn h p q (h 0)), zrowI M 91 (encM h a t)) := by
  obtain ⟨k0, k1, k2, k3, k4, k5, kh, kl, ka, kp⟩ := id hH
  unfold mf_X12_unlike
  refine gfor (G := fun f i => mf_X12_unlike_l5 gR 89 f (nI p) (nI q) (nI (gUn h p q i)) (nI i) (zrowI M 91 (encM h a t))) (n := h 0) (fun f i hi => ?_) (fun f => ?_) _ (by first | (show _ < 5000; omega) | omega)
  · have l1 := gaq_le hH hp hi
    have l2 := gaq_le hH hq hi
    rw [show gUn h p q (i + 1) = gUn h p q i + gDf (gAq h p i) (gAq h q i) from rfl]
    simp (disch := omega) only [zlet_ok, zcl_ok, zl_lit, zl_m1, nI_add, zald_nI, nI_ltE, nI_leE, nI_eqE, zm1_lt', zm1_le', zm1_nlt', zm1_nle', zm1_ne, zm1_ne', zm1_add1, gwI, grI_rI, zrI_s, zrI_n, zrI_L, gwL, grL_rL, zrL_s, zrL_n, zrL_I, Nat.zero_add, ↓reduceIte, if_true, if_false, gB_0, gB_1, gB_01, zchk_t, gB_1e, eq_self, gcle, gcnle, gclt, gcnlt, gcne, not_true_eq_false, not_false_eq_true, true_or, or_true, false_or, or_false, true_and, and_true, false_and, and_false, mf_X12_unlike_l5, r89_14, eM_h, m_aq hH hp hi, m_aq hH hq hi, m_size]
  · simp (disch := omega) only [zlet_ok, zcl_ok, zl_lit, zl_m1, nI_add, zald_nI, nI_ltE, nI_leE, nI_eqE, zm1_lt', zm1_le', zm1_nlt', zm1_nle', zm1_ne, zm1_ne', zm1_add1, gwI, grI_rI, zrI_s, zrI_n, zrI_L, gwL, grL_rL, zrL_s, zrL_n, zrL_I, Nat.zero_add, ↓reduceIte, if_true, if_false, gB_0, gB_1, gB_01, zchk_t, gB_1e, eq_self, gcle, gcnle, gclt, gcnlt, gcne, not_true_eq_false, not_false_eq_true, true_or, or_true, false_or, or_false, true_and, and_true, false_and, and_false, mf_X12_unlike_l5, r89_14, eM_h]
theorem c_apart {h : zN} {M : zMem} {p q : Nat} {x y : Int32} {H7 : Int32 → Int32 → Int32 → Int32 → zMem → Option (Int32 × zMem)} (hr : gRC h M) (hH : gH h) (hp : p < h 1) (hq : q < h 1) : mf_X4_mostAlike_l36 gR 55 H7 zF (nI p) x y (nI q) (nI 0) (nI 0) M = if q = p then H7 (nI p) x y (nI (q + 1)) M else if x = zm1 then H7 (nI p) (nI q) (nI (gUn h p q (h 0))) (nI (q + 1)) M else if y ≤ nI (gUn h p q (h 0)) then H7 (nI p) x y (nI (q + 1)) M else H7 (nI p) (nI q) (nI (gUn h p q (h 0))) (nI (q + 1)) M := by
  obtain ⟨q0, q1, q2, q3, q4, q5, qh, ql, qp, qa⟩ := id hr
  obtain ⟨k0, k1, k2, k3, k4, k5, kh, kl, ka, kp⟩ := id hH
  refine gfor (G := fun f i => mf_X4_mostAlike_l36 gR 55 H7 f (nI p) x y (nI q) (nI (gUn h p q i)) (nI i) M) (n := h 0) (fun f i hi => ?_) (fun f => ?_) _ (by first | (show _ < 5000; omega) | omega)
  · have l1 := gaq_le hH hp hi
    have l2 := gaq_le hH hq hi
    rw [show gUn h p q (i + 1) = gUn h p q i + gDf (gAq h p i) (gAq h q i) from rfl]
    have e := gDf_c (x := gAq h p i) (y := gAq h q i) (by omega) (by omega)
    simp (disch := (first | assumption | omega | (refine gRC.row ?_ ?_ <;> first | assumption | omega | (refine gRC.row ?_ ?_ <;> first | assumption | omega)))) only [zlet_ok, zcl_ok, zl_lit, zl_m1, nI_add, zald_nI, nI_ltE, nI_leE, nI_eqE, zm1_lt', zm1_le', zm1_nlt', zm1_nle', zm1_ne, zm1_ne', zm1_add1, gwI, grI_rI, zrI_s, zrI_n, zrI_L, gwL, grL_rL, zrL_s, zrL_n, zrL_I, Nat.zero_add, ↓reduceIte, if_true, if_false, gB_0, gB_1, gB_01, zchk_t, gB_1e, eq_self, gcle, gcnle, gclt, gcnlt, gcne, not_true_eq_false, not_false_eq_true, true_or, or_true, false_or, or_false, true_and, and_true, false_and, and_false, r4_6, r4_7, r4_8, r4_9, r4_10, mf_X4_mostAlike_l36, r55_0, q0, c_aq hr hH hp hi, c_aq hr hH hq hi]
    rw [e, nI_add]
  · simp (disch := (first | assumption | omega | (refine gRC.row ?_ ?_ <;> first | assumption | omega | (refine gRC.row ?_ ?_ <;> first | assumption | omega)))) only [zlet_ok, zcl_ok, zl_lit, zl_m1, nI_add, zald_nI, nI_ltE, nI_leE, nI_eqE, zm1_lt', zm1_le', zm1_nlt', zm1_nle', zm1_ne, zm1_ne', zm1_add1, gwI, grI_rI, zrI_s, zrI_n, zrI_L, gwL, grL_rL, zrL_s, zrL_n, zrL_I, Nat.zero_add, ↓reduceIte, if_true, if_false, gB_0, gB_1, gB_01, zchk_t, gB_1e, eq_self, gcle, gcnle, gclt, gcnlt, gcne, not_true_eq_false, not_false_eq_true, true_or, or_true, false_or, or_false, true_and, and_true, false_and, and_false, r4_6, r4_7, r4_8, r4_9, r4_10, mf_X4_mostAlike_l36, r55_0, q0, mf_X4_mostAlike_b107, mf_X4_mostAlike_b101]
def gNs (h : zN) (p q w : Nat) : Nat := if q = p then w else if w = 0 then q + 1 else if gUn h p (w - 1) (h 0) ≤ gUn h p q (h 0) then w else q + 1
theorem gNs_le {h : zN} {p : Nat} : ∀ {n : Nat}, gFo (gNs h p) n 0 ≤ n
  | 0 => Nat.le_refl _
  | n + 1 => by
    have ih := gNs_le (h := h) (p := p) (n := n)
    show gNs h p n (gFo (gNs h p) n 0) ≤ _
    generalize gFo (gNs h p) n 0 = w at ih
    unfold gNs
    split
    · omega
    · split
      · omega
      · split <;> omega
theorem q_near {h a : zN} {t : Nat → Int32} {M : zMem} (W : gW h a t M) (x : Int32) : ∃ r, mf_X11_near gR 0 x M = some (r, M) ∧ mf_X12_near gR 89 x M = some (r, zwI M 89 0 (nI 0)) := by
  obtain ⟨hr, hc0, hm, hH, hA⟩ := W
  obtain ⟨z, hc⟩ : ∃ z, M.1 17 = eC a z := ⟨_, hc0⟩
  have hc' : M.1 17 = encC a (gIn a) z := hc
  obtain ⟨q0, q1, q2, q3, q4, q5, qh, ql, qp, qa⟩ := id hr
  obtain ⟨k0, k1, k2, k3, k4, k5, kh, kl, ka, kp⟩ := id hH
  have hm0 : (zwI M 89 0 (nI 0)).1 91 = encM h a t := by rw [zwI_n (by decide)]; exact hm
  unfold mf_X11_near mf_X12_near
  simp only [zlet_ok, zl_lit]
  generalize zwI M 89 0 (nI 0) = M1 at hm0
  rw [← grI_id hm0]
  rcases gcase (n := h 1) (by omega) x with ⟨p, hp, rfl⟩ | ho
  · refine ⟨enI (gFo (gNs h p) (h 1) 0), ?_, ?_⟩
    · have key : mf_X4_mostAlike_l7 gR 55 zF (nI p) zm1 (nI 0) (nI 0) M = some (enI (gFo (gNs h p) (h 1) 0), M) := by
        rw [← enI_0]
        refine gfor (G := fun f i => mf_X4_mostAlike_l7 gR 55 f (nI p) (enI (gFo (gNs h p) i 0)) (nI (if gFo (gNs h p) i 0 = 0 then 0 else gUn h p (gFo (gNs h p) i 0 - 1) (h 0))) (nI i) M) (n := h 1) (fun f i hi => ?_) (fun f => ?_) _ (by first | (show _ < 5000; omega) | omega)
        · have l1 := gNs_le (h := h) (p := p) (n := i)
          have l2 := gun_le hH hp hi (Nat.le_refl _)
          rw [show gFo (gNs h p) (i + 1) 0 = gNs h p i (gFo (gNs h p) i 0) from rfl]
          generalize gFo (gNs h p) i 0 = w at l1
          unfold gNs
          simp (disch := (first | assumption | omega | (refine gRC.row ?_ ?_ <;> first | assumption | omega | (refine gRC.row ?_ ?_ <;> first | assumption | omega)))) only [zlet_ok, zcl_ok, zl_lit, zl_m1, nI_add, zald_nI, nI_ltE, nI_leE, nI_eqE, zm1_lt', zm1_le', zm1_nlt', zm1_nle', zm1_ne, zm1_ne', zm1_add1, gwI, grI_rI, zrI_s, zrI_n, zrI_L, gwL, grL_rL, zrL_s, zrL_n, zrL_I, Nat.zero_add, ↓reduceIte, if_true, if_false, gB_0, gB_1, gB_01, zchk_t, gB_1e, eq_self, gcle, gcnle, gclt, gcnlt, gcne, not_true_eq_false, not_false_eq_true, true_or, or_true, false_or, or_false, true_and, and_true, false_and, and_false, r4_6, r4_7, r4_8, r4_9, r4_10, mf_X4_mostAlike_l7, r55_0, q1, c_hasPaper hr hH hp, c_apart hr hH hp hi]
          by_cases e0 : i = p
          · rw [if_pos e0, if_pos e0]
          · rw [if_neg e0, if_neg e0]
            by_cases e1 : w = 0
            · subst e1
              rw [enI_0, if_pos rfl, if_pos rfl, if_neg (by omega), enI_s, Nat.add_sub_cancel]
            · obtain ⟨v, rfl⟩ : ∃ v, w = v + 1 := ⟨w - 1, by omega⟩
              have l3 := gun_le hH hp (show v < h 1 by omega) (Nat.le_refl _)
              by_cases e2 : gUn h p v (h 0) ≤ gUn h p i (h 0)
              · simp (disch := omega) only [zlet_ok, zcl_ok, zl_lit, zl_m1, nI_add, zald_nI, nI_ltE, nI_leE, nI_eqE, zm1_lt', zm1_le', zm1_nlt', zm1_nle', zm1_ne, zm1_ne', zm1_add1, gwI, grI_rI, zrI_s, zrI_n, zrI_L, gwL, grL_rL, zrL_s, zrL_n, zrL_I, Nat.zero_add, ↓reduceIte, if_true, if_false, gB_0, gB_1, gB_01, zchk_t, gB_1e, eq_self, gcle, gcnle, gclt, gcnlt, gcne, not_true_eq_false, not_false_eq_true, true_or, or_true, false_or, or_false, true_and, and_true, false_and, and_false, enI_s, e2, Nat.add_sub_cancel]
              · simp (disch := omega) only [zlet_ok, zcl_ok, zl_lit, zl_m1, nI_add, zald_nI, nI_ltE, nI_leE, nI_eqE, zm1_lt', zm1_le', zm1_nlt', zm1_nle', zm1_ne, zm1_ne', zm1_add1, gwI, grI_rI, zrI_s, zrI_n, zrI_L, gwL, grL_rL, zrL_s, zrL_n, zrL_I, Nat.zero_add, ↓reduceIte, if_true, if_false, gB_0, gB_1, gB_01, zchk_t, gB_1e, eq_self, gcle, gcnle, gclt, gcnlt, gcne, not_true_eq_false, not_false_eq_true, true_or, or_true, false_or, or_false, true_and, and_true, false_and, and_false, enI_s, e2, Nat.add_sub_cancel]
        · simp (disch := (first | assumption | omega | (refine gRC.row ?_ ?_ <;> first | assumption | omega | (refine gRC.row ?_ ?_ <;> first | assumption | omega)))) only [zlet_ok, zcl_ok, zl_lit, zl_m1, nI_add, zald_nI, nI_ltE, nI_leE, nI_eqE, zm1_lt', zm1_le', zm1_nlt', zm1_nle', zm1_ne, zm1_ne', zm1_add1, gwI, grI_rI, zrI_s, zrI_n, zrI_L, gwL, grL_rL, zrL_s, zrL_n, zrL_I, Nat.zero_add, ↓reduceIte, if_true, if_false, gB_0, gB_1, gB_01, zchk_t, gB_1e, eq_self, gcle, gcnle, gclt, gcnlt, gcne, not_true_eq_false, not_false_eq_true, true_or, or_true, false_or, or_false, true_and, and_true, false_and, and_false, r4_6, r4_7, r4_8, r4_9, r4_10, mf_X4_mostAlike_l7, r55_0, q1]
      simp (disch := (first | assumption | omega | (refine gRC.row ?_ ?_ <;> first | assumption | omega | (refine gRC.row ?_ ?_ <;> first | assumption | omega)))) only [zlet_ok, zcl_ok, zl_lit, zl_m1, nI_add, zald_nI, nI_ltE, nI_leE, nI_eqE, zm1_lt', zm1_le', zm1_nlt', zm1_nle', zm1_ne, zm1_ne', zm1_add1, gwI, grI_rI, zrI_s, zrI_n, zrI_L, gwL, grL_rL, zrL_s, zrL_n, zrL_I, Nat.zero_add, ↓reduceIte, if_true, if_false, gB_0, gB_1, gB_01, zchk_t, gB_1e, eq_self, gcle, gcnle, gclt, gcnlt, gcne, not_true_eq_false, not_false_eq_true, true_or, or_true, false_or, or_false, true_and, and_true, false_and, and_false, r4_6, r4_7, r4_8, r4_9, r4_10, r0_10, mf_X4_mostAlike, key]
    · have key : mf_X12_near_l19 gR 89 zF (nI p) zm1 (nI 0) (zrowI M1 91 (encM h a t)) = some (enI (gFo (gNs h p) (h 1) 0), (zrowI M1 91 (encM h a t))) := by
        rw [← enI_0]
        refine gfor (G := fun f i => mf_X12_near_l19 gR 89 f (nI p) (enI (gFo (gNs h p) i 0)) (nI i) (zrowI M1 91 (encM h a t))) (n := h 1) (fun f i hi => ?_) (fun f => ?_) _ (by first | (show _ < 5000; omega) | omega)
        · have l1 := gNs_le (h := h) (p := p) (n := i)
          have l2 := gun_le hH hp hi (Nat.le_refl _)
          rw [show gFo (gNs h p) (i + 1) 0 = gNs h p i (gFo (gNs h p) i 0) from rfl]
          generalize gFo (gNs h p) i 0 = w at l1
          unfold gNs
          by_cases e0 : i = p
          · simp (disch := omega) only [zlet_ok, zcl_ok, zl_lit, zl_m1, nI_add, zald_nI, nI_ltE, nI_leE, nI_eqE, zm1_lt', zm1_le', zm1_nlt', zm1_nle', zm1_ne, zm1_ne', zm1_add1, gwI, grI_rI, zrI_s, zrI_n, zrI_L, gwL, grL_rL, zrL_s, zrL_n, zrL_I, Nat.zero_add, ↓reduceIte, if_true, if_false, gB_0, gB_1, gB_01, zchk_t, gB_1e, eq_self, gcle, gcnle, gclt, gcnlt, gcne, not_true_eq_false, not_false_eq_true, true_or, or_true, false_or, or_false, true_and, and_true, false_and, and_false, mf_X12_near_l19, r89_14, eM_h, e0, mf_X12_near_b56]
          · by_cases e1 : w = 0
            · subst e1
              simp (disch := omega) only [zlet_ok, zcl_ok, zl_lit, zl_m1, nI_add, zald_nI, nI_ltE, nI_leE, nI_eqE, zm1_lt', zm1_le', zm1_nlt', zm1_nle', zm1_ne, zm1_ne', zm1_add1, gwI, grI_rI, zrI_s, zrI_n, zrI_L, gwL, grL_rL, zrL_s, zrL_n, zrL_I, Nat.zero_add, ↓reduceIte, if_true, if_false, gB_0, gB_1, gB_01, zchk_t, gB_1e, eq_self, gcle, gcnle, gclt, gcnlt, gcne, not_true_eq_false, not_false_eq_true, true_or, or_true, false_or, or_false, true_and, and_true, false_and, and_false, mf_X12_near_l19, r89_14, eM_h, e0, mf_X12_near_b56, mf_X12_near_b54, enI_0, enI_s]
            · obtain ⟨v, rfl⟩ : ∃ v, w = v + 1 := ⟨w - 1, by omega⟩
              have l3 := gun_le hH hp (show v < h 1 by omega) (Nat.le_refl _)
              by_cases e2 : gUn h p v (h 0) ≤ gUn h p i (h 0)
              · simp (disch := omega) only [zlet_ok, zcl_ok, zl_lit, zl_m1, nI_add, zald_nI, nI_ltE, nI_leE, nI_eqE, zm1_lt', zm1_le', zm1_nlt', zm1_nle', zm1_ne, zm1_ne', zm1_add1, gwI, grI_rI, zrI_s, zrI_n, zrI_L, gwL, grL_rL, zrL_s, zrL_n, zrL_I, Nat.zero_add, ↓reduceIte, if_true, if_false, gB_0, gB_1, gB_01, zchk_t, gB_1e, eq_self, gcle, gcnle, gclt, gcnlt, gcne, not_true_eq_false, not_false_eq_true, true_or, or_true, false_or, or_false, true_and, and_true, false_and, and_false, mf_X12_near_l19, r89_14, eM_h, e0, mf_X12_near_b56, mf_X12_near_b54, enI_s, m_unlike hH hp hi, m_unlike hH hp (show v < h 1 by omega), e2, Nat.add_sub_cancel]
              · simp (disch := omega) only [zlet_ok, zcl_ok, zl_lit, zl_m1, nI_add, zald_nI, nI_ltE, nI_leE, nI_eqE, zm1_lt', zm1_le', zm1_nlt', zm1_nle', zm1_ne, zm1_ne', zm1_add1, gwI, grI_rI, zrI_s, zrI_n, zrI_L, gwL, grL_rL, zrL_s, zrL_n, zrL_I, Nat.zero_add, ↓reduceIte, if_true, if_false, gB_0, gB_1, gB_01, zchk_t, gB_1e, eq_self, gcle, gcnle, gclt, gcnlt, gcne, not_true_eq_false, not_false_eq_true, true_or, or_true, false_or, or_false, true_and, and_true, false_and, and_false, mf_X12_near_l19, r89_14, eM_h, e0, mf_X12_near_b56, mf_X12_near_b54, enI_s, m_unlike hH hp hi, m_unlike hH hp (show v < h 1 by omega), e2, Nat.add_sub_cancel]
        · simp (disch := omega) only [zlet_ok, zcl_ok, zl_lit, zl_m1, nI_add, zald_nI, nI_ltE, nI_leE, nI_eqE, zm1_lt', zm1_le', zm1_nlt', zm1_nle', zm1_ne, zm1_ne', zm1_add1, gwI, grI_rI, zrI_s, zrI_n, zrI_L, gwL, grL_rL, zrL_s, zrL_n, zrL_I, Nat.zero_add, ↓reduceIte, if_true, if_false, gB_0, gB_1, gB_01, zchk_t, gB_1e, eq_self, gcle, gcnle, gclt, gcnlt, gcne, not_true_eq_false, not_false_eq_true, true_or, or_true, false_or, or_false, true_and, and_true, false_and, and_false, mf_X12_near_l19, r89_14, eM_h]
      simp (disch := omega) only [zlet_ok, zcl_ok, zl_lit, zl_m1, nI_add, zald_nI, nI_ltE, nI_leE, nI_eqE, zm1_lt', zm1_le', zm1_nlt', zm1_nle', zm1_ne, zm1_ne', zm1_add1, gwI, grI_rI, zrI_s, zrI_n, zrI_L, gwL, grL_rL, zrL_s, zrL_n, zrL_I, Nat.zero_add, ↓reduceIte, if_true, if_false, gB_0, gB_1, gB_01, zchk_t, gB_1e, eq_self, gcle, gcnle, gclt, gcnlt, gcne, not_true_eq_false, not_false_eq_true, true_or, or_true, false_or, or_false, true_and, and_true, false_and, and_false, m_isPaper hH hp, key]
  · refine ⟨zm1, ?_, ?_⟩
    · obtain ⟨k, hk⟩ : ∃ k, zF = k + 1 := ⟨4999, rfl⟩
      unfold mf_X4_mostAlike
      rw [hk]
      by_cases e : h 1 = 0
      · simp (disch := (first | assumption | omega | (refine gRC.row ?_ ?_ <;> first | assumption | omega | (refine gRC.row ?_ ?_ <;> first | assumption | omega)))) only [zlet_ok, zcl_ok, zl_lit, zl_m1, nI_add, zald_nI, nI_ltE, nI_leE, nI_eqE, zm1_lt', zm1_le', zm1_nlt', zm1_nle', zm1_ne, zm1_ne', zm1_add1, gwI, grI_rI, zrI_s, zrI_n, zrI_L, gwL, grL_rL, zrL_s, zrL_n, zrL_I, Nat.zero_add, ↓reduceIte, if_true, if_false, gB_0, gB_1, gB_01, zchk_t, gB_1e, eq_self, gcle, gcnle, gclt, gcnlt, gcne, not_true_eq_false, not_false_eq_true, true_or, or_true, false_or, or_false, true_and, and_true, false_and, and_false, r4_6, r4_7, r4_8, r4_9, r4_10, r0_10, mf_X4_mostAlike_l7, r55_0, q1, e]
      · simp (disch := (first | assumption | omega | (refine gRC.row ?_ ?_ <;> first | assumption | omega | (refine gRC.row ?_ ?_ <;> first | assumption | omega)))) only [zlet_ok, zcl_ok, zl_lit, zl_m1, nI_add, zald_nI, nI_ltE, nI_leE, nI_eqE, zm1_lt', zm1_le', zm1_nlt', zm1_nle', zm1_ne, zm1_ne', zm1_add1, gwI, grI_rI, zrI_s, zrI_n, zrI_L, gwL, grL_rL, zrL_s, zrL_n, zrL_I, Nat.zero_add, ↓reduceIte, if_true, if_false, gB_0, gB_1, gB_01, zchk_t, gB_1e, eq_self, gcle, gcnle, gclt, gcnlt, gcne, not_true_eq_false, not_false_eq_true, true_or, or_true, false_or, or_false, true_and, and_true, false_and, and_false, r4_6, r4_7, r4_8, r4_9, r4_10, r0_10, mf_X4_mostAlike_l7, r55_0, q1, e, c_hasPaper_n hr ho]
    · simp (disch := omega) only [zlet_ok, zcl_ok, zl_lit, zl_m1, nI_add, zald_nI, nI_ltE, nI_leE, nI_eqE, zm1_lt', zm1_le', zm1_nlt', zm1_nle', zm1_ne, zm1_ne', zm1_add1, gwI, grI_rI, zrI_s, zrI_n, zrI_L, gwL, grL_rL, zrL_s, zrL_n, zrL_I, Nat.zero_add, ↓reduceIte, if_true, if_false, gB_0, gB_1, gB_01, zchk_t, gB_1e, eq_self, gcle, gcnle, gclt, gcnlt, gcne, not_true_eq_false, not_false_eq_true, true_or, or_true, false_or, or_false, true_and, and_true, false_and, and_false, m_isPaper_n hH ho]
def gCnd (h : zN) (p q g b : Nat) : Bool := decide (0 < gAq h p b) && (decide (0 < gAq h q b) && (decide (gThr h p b < g + gThr h q b + gAq h q b) && decide (g + gThr h q b < gThr h p b + gAq h p b)))
def gPs (h : zN) (p q g : Nat) : Nat → Bool
  | 0 => true
  | n + 1 => gPs h p q g n && !gCnd h p q g n
theorem gPs_t {h : zN} {p q g : Nat} : ∀ {n : Nat}, (∀ b, b < n → gCnd h p q g b = false) → gPs h p q g n = true
  | 0, _ => rfl
  | n + 1, e => by rw [gPs, gPs_t (fun b hb => e b (by omega)), e n (by omega)]; rfl
theorem gPs_f {h : zN} {p q g b : Nat} (e : gCnd h p q g b = true) : ∀ {n : Nat}, b < n → gPs h p q g n = false
  | 0, hb => by omega
  | n + 1, hb => by
    rw [gPs]
    by_cases q2 : b = n
    · rw [← q2, e]; simp
    · rw [gPs_f e (by omega)]; rfl
theorem c_meet {h : zN} {M : zMem} {p q g : Nat} (hr : gRC h M) (hH : gH h) (hp : p < h 1) (hq : q < h 1) (hg : g < 1000) : mf_X4_meet gR 55 (nI p) (nI q) (nI g) M = some (gB (!gPs h p q g (h 0)), M) := by
  obtain ⟨q0, q1, q2, q3, q4, q5, qh, ql, qp, qa⟩ := id hr
  obtain ⟨k0, k1, k2, k3, k4, k5, kh, kl, ka, kp⟩ := id hH
  have lm := gff_le (gCnd h p q g) (h 0) 0
  unfold mf_X4_meet
  refine gfor (G := fun f i => mf_X4_meet_l9 gR 55 f (nI p) (nI q) (nI (gThr h p i)) (nI (g + gThr h q i)) (nI i) M) (n := gff (gCnd h p q g) (h 0) 0) (fun f i hi => ?_) (fun f => ?_) _ (by first | (show _ < 5000; omega) | omega)
  · have hi0 : i < h 0 := by omega
    have l1 := gaq_le hH hp hi0
    have l2 := gaq_le hH hq hi0
    have l3 := gthr_le hH hp (show i ≤ h 0 by omega)
    have l4 := gthr_le hH hq (show i ≤ h 0 by omega)
    have e := gff_n (p := gCnd h p q g) (n := h 0) (k := 0) i (by omega) hi
    unfold gCnd at e
    rw [show gThr h p (i + 1) = gThr h p i + gAq h p i from rfl, show gThr h q (i + 1) = gThr h q i + gAq h q i from rfl, ← Nat.add_assoc]
    by_cases e1 : gAq h p i ≤ 0
    · simp (disch := (first | assumption | omega | (refine gRC.row ?_ ?_ <;> first | assumption | omega | (refine gRC.row ?_ ?_ <;> first | assumption | omega)))) only [zlet_ok, zcl_ok, zl_lit, zl_m1, nI_add, zald_nI, nI_ltE, nI_leE, nI_eqE, zm1_lt', zm1_le', zm1_nlt', zm1_nle', zm1_ne, zm1_ne', zm1_add1, gwI, grI_rI, zrI_s, zrI_n, zrI_L, gwL, grL_rL, zrL_s, zrL_n, zrL_I, Nat.zero_add, ↓reduceIte, if_true, if_false, gB_0, gB_1, gB_01, zchk_t, gB_1e, eq_self, gcle, gcnle, gclt, gcnlt, gcne, not_true_eq_false, not_false_eq_true, true_or, or_true, false_or, or_false, true_and, and_true, false_and, and_false, r4_6, r4_7, r4_8, r4_9, r4_10, mf_X4_meet_l9, mf_X4_meet_b77, r55_0, q0, c_aq hr hH hp hi0, c_aq hr hH hq hi0, e1]
    · by_cases e2 : gAq h q i ≤ 0
      · simp (disch := (first | assumption | omega | (refine gRC.row ?_ ?_ <;> first | assumption | omega | (refine gRC.row ?_ ?_ <;> first | assumption | omega)))) only [zlet_ok, zcl_ok, zl_lit, zl_m1, nI_add, zald_nI, nI_ltE, nI_leE, nI_eqE, zm1_lt', zm1_le', zm1_nlt', zm1_nle', zm1_ne, zm1_ne', zm1_add1, gwI, grI_rI, zrI_s, zrI_n, zrI_L, gwL, grL_rL, zrL_s, zrL_n, zrL_I, Nat.zero_add, ↓reduceIte, if_true, if_false, gB_0, gB_1, gB_01, zchk_t, gB_1e, eq_self, gcle, gcnle, gclt, gcnlt, gcne, not_true_eq_false, not_false_eq_true, true_or, or_true, false_or, or_false, true_and, and_true, false_and, and_false, r4_6, r4_7, r4_8, r4_9, r4_10, mf_X4_meet_l9, mf_X4_meet_b77, r55_0, q0, c_aq hr hH hp hi0, c_aq hr hH hq hi0, e1, e2]
      · by_cases e3 : g + gThr h q i + gAq h q i ≤ gThr h p i
        · simp (disch := (first | assumption | omega | (refine gRC.row ?_ ?_ <;> first | assumption | omega | (refine gRC.row ?_ ?_ <;> first | assumption | omega)))) only [zlet_ok, zcl_ok, zl_lit, zl_m1, nI_add, zald_nI, nI_ltE, nI_leE, nI_eqE, zm1_lt', zm1_le', zm1_nlt', zm1_nle', zm1_ne, zm1_ne', zm1_add1, gwI, grI_rI, zrI_s, zrI_n, zrI_L, gwL, grL_rL, zrL_s, zrL_n, zrL_I, Nat.zero_add, ↓reduceIte, if_true, if_false, gB_0, gB_1, gB_01, zchk_t, gB_1e, eq_self, gcle, gcnle, gclt, gcnlt, gcne, not_true_eq_false, not_false_eq_true, true_or, or_true, false_or, or_false, true_and, and_true, false_and, and_false, r4_6, r4_7, r4_8, r4_9, r4_10, mf_X4_meet_l9, mf_X4_meet_b77, r55_0, q0, c_aq hr hH hp hi0, c_aq hr hH hq hi0, e1, e2, e3]
        · by_cases e4 : gThr h p i + gAq h p i ≤ g + gThr h q i
          · simp (disch := (first | assumption | omega | (refine gRC.row ?_ ?_ <;> first | assumption | omega | (refine gRC.row ?_ ?_ <;> first | assumption | omega)))) only [zlet_ok, zcl_ok, zl_lit, zl_m1, nI_add, zald_nI, nI_ltE, nI_leE, nI_eqE, zm1_lt', zm1_le', zm1_nlt', zm1_nle', zm1_ne, zm1_ne', zm1_add1, gwI, grI_rI, zrI_s, zrI_n, zrI_L, gwL, grL_rL, zrL_s, zrL_n, zrL_I, Nat.zero_add, ↓reduceIte, if_true, if_false, gB_0, gB_1, gB_01, zchk_t, gB_1e, eq_self, gcle, gcnle, gclt, gcnlt, gcne, not_true_eq_false, not_false_eq_true, true_or, or_true, false_or, or_false, true_and, and_true, false_and, and_false, r4_6, r4_7, r4_8, r4_9, r4_10, mf_X4_meet_l9, mf_X4_meet_b77, r55_0, q0, c_aq hr hH hp hi0, c_aq hr hH hq hi0, e1, e2, e3, e4]
          · rw [decide_eq_true (by omega), decide_eq_true (by omega), decide_eq_true (by omega), decide_eq_true (by omega)] at e
            cases e
  · by_cases e0 : gff (gCnd h p q g) (h 0) 0 = h 0
    · have e1 : gPs h p q g (h 0) = true := gPs_t (fun b hb => gff_n (p := gCnd h p q g) (n := h 0) (k := 0) b (by omega) (by omega))
      rw [e1, e0]
      simp (disch := (first | assumption | omega | (refine gRC.row ?_ ?_ <;> first | assumption | omega | (refine gRC.row ?_ ?_ <;> first | assumption | omega)))) only [zlet_ok, zcl_ok, zl_lit, zl_m1, nI_add, zald_nI, nI_ltE, nI_leE, nI_eqE, zm1_lt', zm1_le', zm1_nlt', zm1_nle', zm1_ne, zm1_ne', zm1_add1, gwI, grI_rI, zrI_s, zrI_n, zrI_L, gwL, grL_rL, zrL_s, zrL_n, zrL_I, Nat.zero_add, ↓reduceIte, if_true, if_false, gB_0, gB_1, gB_01, zchk_t, gB_1e, eq_self, gcle, gcnle, gclt, gcnlt, gcne, not_true_eq_false, not_false_eq_true, true_or, or_true, false_or, or_false, true_and, and_true, false_and, and_false, r4_6, r4_7, r4_8, r4_9, r4_10, mf_X4_meet_l9, r55_0, q0]
      try rfl
    · have e := gff_p (p := gCnd h p q g) (n := h 0) (k := 0) (by omega)
      have e9 : gPs h p q g (h 0) = false := gPs_f e (by omega)
      rw [e9]
      generalize gff (gCnd h p q g) (h 0) 0 = i at e e0 lm
      have hi0 : i < h 0 := by omega
      have l1 := gaq_le hH hp hi0
      have l2 := gaq_le hH hq hi0
      have l3 := gthr_le hH hp (show i ≤ h 0 by omega)
      have l4 := gthr_le hH hq (show i ≤ h 0 by omega)
      unfold gCnd at e
      simp only [Bool.and_eq_true, decide_eq_true_eq] at e
      obtain ⟨e1, e2, e3, e4⟩ := e
      simp (disch := (first | assumption | omega | (refine gRC.row ?_ ?_ <;> first | assumption | omega | (refine gRC.row ?_ ?_ <;> first | assumption | omega)))) only [zlet_ok, zcl_ok, zl_lit, zl_m1, nI_add, zald_nI, nI_ltE, nI_leE, nI_eqE, zm1_lt', zm1_le', zm1_nlt', zm1_nle', zm1_ne, zm1_ne', zm1_add1, gwI, grI_rI, zrI_s, zrI_n, zrI_L, gwL, grL_rL, zrL_s, zrL_n, zrL_I, Nat.zero_add, ↓reduceIte, if_true, if_false, gB_0, gB_1, gB_01, zchk_t, gB_1e, eq_self, gcle, gcnle, gclt, gcnlt, gcne, not_true_eq_false, not_false_eq_true, true_or, or_true, false_or, or_false, true_and, and_true, false_and, and_false, r4_6, r4_7, r4_8, r4_9, r4_10, mf_X4_meet_l9, r55_0, q0, c_aq hr hH hp hi0, c_aq hr hH hq hi0]
      try rfl
def gGap (h : zN) (p q : Nat) : Nat := gff (fun g => gPs h p q g (h 0)) 181 0
theorem gthr_mono {h : zN} {p : Nat} : ∀ {m n : Nat}, m ≤ n → gThr h p m ≤ gThr h p n
  | m, 0, hm => by rw [show m = 0 by omega]; omega
  | m, n + 1, hm => by
    by_cases e : m = n + 1
    · rw [e]; omega
    · have := gthr_mono (h := h) (p := p) (show m ≤ n by omega)
      show _ ≤ gThr h p n + gAq h p n
      omega
theorem gGap_lt {h : zN} {p q : Nat} (hH : gH h) (hp : p < h 1) : gGap h p q < 181 := by
  obtain ⟨k0, k1, k2, k3, k4, k5, kh, kl, ka, kp⟩ := id hH
  have l := gthr_le hH hp (Nat.le_refl (h 0))
  have e1 : gPs h p q (gThr h p (h 0)) (h 0) = true := gPs_t (fun b hb => by
    have l2 := gthr_mono (h := h) (p := p) (show b + 1 ≤ h 0 by omega)
    have l3 : gThr h p (b + 1) = gThr h p b + gAq h p b := rfl
    unfold gCnd
    rw [decide_eq_false (show ¬ gThr h p (h 0) + gThr h q b < gThr h p b + gAq h p b by omega)]
    simp)
  unfold gGap
  have l5 := gff_le (fun g => gPs h p q g (h 0)) 181 0
  rcases Nat.lt_or_ge (gff (fun g => gPs h p q g (h 0)) 181 0) 181 with z | z
  · exact z
  · have := gff_n (p := fun g => gPs h p q g (h 0)) (n := 181) (k := 0) (gThr h p (h 0)) (by omega) (by omega)
    rw [e1] at this; cases this
theorem c_gapOf {h : zN} {M : zMem} {p q : Nat} (hr : gRC h M) (hH : gH h) (hp : p < h 1) (hq : q < h 1) : mf_X4_gapOf gR 55 (nI p) (nI q) M = some (nI (gGap h p q), M) := by
  have lm := gGap_lt (q := q) hH hp
  unfold mf_X4_gapOf
  refine gfor (G := fun f i => mf_X4_gapOf_l2 gR 55 f (nI p) (nI q) (nI i) M) (n := gGap h p q) (fun f i hi => ?_) (fun f => ?_) _ (by first | (show _ < 5000; omega) | omega)
  · have e := gff_n (p := fun g => gPs h p q g (h 0)) (n := 181) (k := 0) i (by omega) hi
    have e1 : gPs h p q i (h 0) = false := e
    simp (disch := omega) only [zlet_ok, zcl_ok, zl_lit, zl_m1, nI_add, zald_nI, nI_ltE, nI_leE, nI_eqE, zm1_lt', zm1_le', zm1_nlt', zm1_nle', zm1_ne, zm1_ne', zm1_add1, gwI, grI_rI, zrI_s, zrI_n, zrI_L, gwL, grL_rL, zrL_s, zrL_n, zrL_I, Nat.zero_add, ↓reduceIte, if_true, if_false, gB_0, gB_1, gB_01, zchk_t, gB_1e, eq_self, gcle, gcnle, gclt, gcnlt, gcne, not_true_eq_false, not_false_eq_true, true_or, or_true, false_or, or_false, true_and, and_true, false_and, and_false, mf_X4_gapOf_l2, c_meet hr hH hp hq (show i < 1000 by omega), e1, Bool.not_false, Bool.true_eq_false]
  · have e := gff_p (p := fun g => gPs h p q g (h 0)) (n := 181) (k := 0) (by unfold gGap at lm; omega)
    have e1 : gPs h p q (gGap h p q) (h 0) = true := e
    simp (disch := omega) only [zlet_ok, zcl_ok, zl_lit, zl_m1, nI_add, zald_nI, nI_ltE, nI_leE, nI_eqE, zm1_lt', zm1_le', zm1_nlt', zm1_nle', zm1_ne, zm1_ne', zm1_add1, gwI, grI_rI, zrI_s, zrI_n, zrI_L, gwL, grL_rL, zrL_s, zrL_n, zrL_I, Nat.zero_add, ↓reduceIte, if_true, if_false, gB_0, gB_1, gB_01, zchk_t, gB_1e, eq_self, gcle, gcnle, gclt, gcnlt, gcne, not_true_eq_false, not_false_eq_true, true_or, or_true, false_or, or_false, true_and, and_true, false_and, and_false, mf_X4_gapOf_l2, c_meet hr hH hp hq (show gGap h p q < 1000 by omega), e1, Bool.not_true]
theorem m_arePast {h a : zN} {t : Nat → Int32} {M : zMem} {p q g : Nat} (hH : gH h) (hp : p < h 1) (hq : q < h 1) (hg : g < 1000) : mf_X12_arePast gR 89 (nI p) (nI q) (nI g) (zrowI M 91 (encM h a t)) = some (gB (gPs h p q g (h 0)), zrowI M 91 (encM h a t)) := by
  obtain ⟨k0, k1, k2, k3, k4, k5, kh, kl, ka, kp⟩ := id hH
  unfold mf_X12_arePast
  rw [show ((1 : Int32)) = gB (gPs h p q g 0) from rfl]
  refine gfor (G := fun f i => mf_X12_arePast_l12 gR 89 f (nI p) (nI q) (nI (gThr h p i)) (nI (g + gThr h q i)) (gB (gPs h p q g i)) (nI i) (zrowI M 91 (encM h a t))) (n := h 0) (fun f i hi => ?_) (fun f => ?_) _ (by first | (show _ < 5000; omega) | omega)
  · have l1 := gaq_le hH hp hi
    have l2 := gaq_le hH hq hi
    have l3 := gthr_le hH hp (show i ≤ h 0 by omega)
    have l4 := gthr_le hH hq (show i ≤ h 0 by omega)
    rw [show gThr h p (i + 1) = gThr h p i + gAq h p i from rfl, show gThr h q (i + 1) = gThr h q i + gAq h q i from rfl, ← Nat.add_assoc, show gPs h p q g (i + 1) = (gPs h p q g i && !gCnd h p q g i) from rfl]
    by_cases e1 : gAq h p i ≤ 0
    · have e9 : gCnd h p q g i = false := by unfold gCnd; rw [decide_eq_false (by omega)]; rfl
      simp (disch := omega) only [zlet_ok, zcl_ok, zl_lit, zl_m1, nI_add, zald_nI, nI_ltE, nI_leE, nI_eqE, zm1_lt', zm1_le', zm1_nlt', zm1_nle', zm1_ne, zm1_ne', zm1_add1, gwI, grI_rI, zrI_s, zrI_n, zrI_L, gwL, grL_rL, zrL_s, zrL_n, zrL_I, Nat.zero_add, ↓reduceIte, if_true, if_false, gB_0, gB_1, gB_01, zchk_t, gB_1e, eq_self, gcle, gcnle, gclt, gcnlt, gcne, not_true_eq_false, not_false_eq_true, true_or, or_true, false_or, or_false, true_and, and_true, false_and, and_false, mf_X12_arePast_l12, mf_X12_arePast_b84, r89_14, eM_h, m_aq hH hp hi, m_aq hH hq hi, e1, e9, Bool.not_false, Bool.and_true]
    · by_cases e2 : gAq h q i ≤ 0
      · have e9 : gCnd h p q g i = false := by unfold gCnd; rw [decide_eq_false (show ¬ 0 < gAq h q i by omega)]; simp
        simp (disch := omega) only [zlet_ok, zcl_ok, zl_lit, zl_m1, nI_add, zald_nI, nI_ltE, nI_leE, nI_eqE, zm1_lt', zm1_le', zm1_nlt', zm1_nle', zm1_ne, zm1_ne', zm1_add1, gwI, grI_rI, zrI_s, zrI_n, zrI_L, gwL, grL_rL, zrL_s, zrL_n, zrL_I, Nat.zero_add, ↓reduceIte, if_true, if_false, gB_0, gB_1, gB_01, zchk_t, gB_1e, eq_self, gcle, gcnle, gclt, gcnlt, gcne, not_true_eq_false, not_false_eq_true, true_or, or_true, false_or, or_false, true_and, and_true, false_and, and_false, mf_X12_arePast_l12, mf_X12_arePast_b84, r89_14, eM_h, m_aq hH hp hi, m_aq hH hq hi, e1, e2, e9, Bool.not_false, Bool.and_true]
      · by_cases e3 : g + gThr h q i + gAq h q i ≤ gThr h p i
        · have e9 : gCnd h p q g i = false := by unfold gCnd; rw [decide_eq_false (show ¬ gThr h p i < g + gThr h q i + gAq h q i by omega)]; simp
          simp (disch := omega) only [zlet_ok, zcl_ok, zl_lit, zl_m1, nI_add, zald_nI, nI_ltE, nI_leE, nI_eqE, zm1_lt', zm1_le', zm1_nlt', zm1_nle', zm1_ne, zm1_ne', zm1_add1, gwI, grI_rI, zrI_s, zrI_n, zrI_L, gwL, grL_rL, zrL_s, zrL_n, zrL_I, Nat.zero_add, ↓reduceIte, if_true, if_false, gB_0, gB_1, gB_01, zchk_t, gB_1e, eq_self, gcle, gcnle, gclt, gcnlt, gcne, not_true_eq_false, not_false_eq_true, true_or, or_true, false_or, or_false, true_and, and_true, false_and, and_false, mf_X12_arePast_l12, mf_X12_arePast_b84, r89_14, eM_h, m_aq hH hp hi, m_aq hH hq hi, e1, e2, e3, e9, Bool.not_false, Bool.and_true]
        · by_cases e4 : gThr h p i + gAq h p i ≤ g + gThr h q i
          · have e9 : gCnd h p q g i = false := by unfold gCnd; rw [decide_eq_false (show ¬ g + gThr h q i < gThr h p i + gAq h p i by omega)]; simp
            simp (disch := omega) only [zlet_ok, zcl_ok, zl_lit, zl_m1, nI_add, zald_nI, nI_ltE, nI_leE, nI_eqE, zm1_lt', zm1_le', zm1_nlt', zm1_nle', zm1_ne, zm1_ne', zm1_add1, gwI, grI_rI, zrI_s, zrI_n, zrI_L, gwL, grL_rL, zrL_s, zrL_n, zrL_I, Nat.zero_add, ↓reduceIte, if_true, if_false, gB_0, gB_1, gB_01, zchk_t, gB_1e, eq_self, gcle, gcnle, gclt, gcnlt, gcne, not_true_eq_false, not_false_eq_true, true_or, or_true, false_or, or_false, true_and, and_true, false_and, and_false, mf_X12_arePast_l12, mf_X12_arePast_b84, r89_14, eM_h, m_aq hH hp hi, m_aq hH hq hi, e1, e2, e3, e4, e9, Bool.not_false, Bool.and_true]
          · have e9 : gCnd h p q g i = true := by
              unfold gCnd
              rw [decide_eq_true (by omega), decide_eq_true (by omega), decide_eq_true (by omega), decide_eq_true (by omega)]; rfl
            simp (disch := omega) only [zlet_ok, zcl_ok, zl_lit, zl_m1, nI_add, zald_nI, nI_ltE, nI_leE, nI_eqE, zm1_lt', zm1_le', zm1_nlt', zm1_nle', zm1_ne, zm1_ne', zm1_add1, gwI, grI_rI, zrI_s, zrI_n, zrI_L, gwL, grL_rL, zrL_s, zrL_n, zrL_I, Nat.zero_add, ↓reduceIte, if_true, if_false, gB_0, gB_1, gB_01, zchk_t, gB_1e, eq_self, gcle, gcnle, gclt, gcnlt, gcne, not_true_eq_false, not_false_eq_true, true_or, or_true, false_or, or_false, true_and, and_true, false_and, and_false, mf_X12_arePast_l12, mf_X12_arePast_b84, r89_14, eM_h, m_aq hH hp hi, m_aq hH hq hi, e1, e2, e3, e4, e9, Bool.not_true, Bool.and_false, gB_f]
  · simp (disch := omega) only [zlet_ok, zcl_ok, zl_lit, zl_m1, nI_add, zald_nI, nI_ltE, nI_leE, nI_eqE, zm1_lt', zm1_le', zm1_nlt', zm1_nle', zm1_ne, zm1_ne', zm1_add1, gwI, grI_rI, zrI_s, zrI_n, zrI_L, gwL, grL_rL, zrL_s, zrL_n, zrL_I, Nat.zero_add, ↓reduceIte, if_true, if_false, gB_0, gB_1, gB_01, zchk_t, gB_1e, eq_self, gcle, gcnle, gclt, gcnlt, gcne, not_true_eq_false, not_false_eq_true, true_or, or_true, false_or, or_false, true_and, and_true, false_and, and_false, mf_X12_arePast_l12, r89_14, eM_h]
    exact zchk_ok (by cases gPs h p q g (h 0) <;> simp)
theorem m_gapOf {h a : zN} {t : Nat → Int32} {M : zMem} {p q : Nat} (hH : gH h) (hp : p < h 1) (hq : q < h 1) : mf_X12_gapOf gR 89 (nI p) (nI q) (zrowI M 91 (encM h a t)) = some (nI (gGap h p q), zrowI M 91 (encM h a t)) := by
  have lm := gGap_lt (q := q) hH hp
  unfold mf_X12_gapOf
  refine gfor (G := fun f i => mf_X12_gapOf_l2 gR 89 f (nI p) (nI q) (nI i) (zrowI M 91 (encM h a t))) (n := gGap h p q) (fun f i hi => ?_) (fun f => ?_) _ (by first | (show _ < 5000; omega) | omega)
  · have e := gff_n (p := fun g => gPs h p q g (h 0)) (n := 181) (k := 0) i (by omega) hi
    have e1 : gPs h p q i (h 0) = false := e
    simp (disch := omega) only [zlet_ok, zcl_ok, zl_lit, zl_m1, nI_add, zald_nI, nI_ltE, nI_leE, nI_eqE, zm1_lt', zm1_le', zm1_nlt', zm1_nle', zm1_ne, zm1_ne', zm1_add1, gwI, grI_rI, zrI_s, zrI_n, zrI_L, gwL, grL_rL, zrL_s, zrL_n, zrL_I, Nat.zero_add, ↓reduceIte, if_true, if_false, gB_0, gB_1, gB_01, zchk_t, gB_1e, eq_self, gcle, gcnle, gclt, gcnlt, gcne, not_true_eq_false, not_false_eq_true, true_or, or_true, false_or, or_false, true_and, and_true, false_and, and_false, mf_X12_gapOf_l2, m_arePast hH hp hq (show i < 1000 by omega), e1]
  · have e := gff_p (p := fun g => gPs h p q g (h 0)) (n := 181) (k := 0) (by unfold gGap at lm; omega)
    have e1 : gPs h p q (gGap h p q) (h 0) = true := e
    simp (disch := omega) only [zlet_ok, zcl_ok, zl_lit, zl_m1, nI_add, zald_nI, nI_ltE, nI_leE, nI_eqE, zm1_lt', zm1_le', zm1_nlt', zm1_nle', zm1_ne, zm1_ne', zm1_add1, gwI, grI_rI, zrI_s, zrI_n, zrI_L, gwL, grL_rL, zrL_s, zrL_n, zrL_I, Nat.zero_add, ↓reduceIte, if_true, if_false, gB_0, gB_1, gB_01, zchk_t, gB_1e, eq_self, gcle, gcnle, gclt, gcnlt, gcne, not_true_eq_false, not_false_eq_true, true_or, or_true, false_or, or_false, true_and, and_true, false_and, and_false, mf_X12_gapOf_l2, m_arePast hH hp hq (show gGap h p q < 1000 by omega), e1, Bool.true_eq_false]
theorem q_gap {h a : zN} {t : Nat → Int32} {M : zMem} (W : gW h a t M) (x y : Int32) : ∃ r, mf_X11_gap gR 0 x y M = some (r, M) ∧ mf_X12_gap gR 89 x y M = some (r, zwI M 89 0 (nI 0)) := by
  obtain ⟨hr, hc0, hm, hH, hA⟩ := W
  obtain ⟨z, hc⟩ : ∃ z, M.1 17 = eC a z := ⟨_, hc0⟩
  have hc' : M.1 17 = encC a (gIn a) z := hc
  obtain ⟨q0, q1, q2, q3, q4, q5, qh, ql, qp, qa⟩ := id hr
  obtain ⟨k0, k1, k2, k3, k4, k5, kh, kl, ka, kp⟩ := id hH
  have hm0 : (zwI M 89 0 (nI 0)).1 91 = encM h a t := by rw [zwI_n (by decide)]; exact hm
  unfold mf_X11_gap mf_X12_gap
  simp only [zlet_ok, zl_lit]
  generalize zwI M 89 0 (nI 0) = M1 at hm0
  rw [← grI_id hm0]
  rcases gcase (n := h 1) (by omega) x with ⟨p, hp, rfl⟩ | ho
  · rcases gcase (n := h 1) (by omega) y with ⟨q, hq, rfl⟩ | ho
    · refine ⟨nI (gGap h p q), ?_, ?_⟩
      · simp (disch := (first | assumption | omega | (refine gRC.row ?_ ?_ <;> first | assumption | omega | (refine gRC.row ?_ ?_ <;> first | assumption | omega)))) only [zlet_ok, zcl_ok, zl_lit, zl_m1, nI_add, zald_nI, nI_ltE, nI_leE, nI_eqE, zm1_lt', zm1_le', zm1_nlt', zm1_nle', zm1_ne, zm1_ne', zm1_add1, gwI, grI_rI, zrI_s, zrI_n, zrI_L, gwL, grL_rL, zrL_s, zrL_n, zrL_I, Nat.zero_add, ↓reduceIte, if_true, if_false, gB_0, gB_1, gB_01, zchk_t, gB_1e, eq_self, gcle, gcnle, gclt, gcnlt, gcne, not_true_eq_false, not_false_eq_true, true_or, or_true, false_or, or_false, true_and, and_true, false_and, and_false, r4_6, r4_7, r4_8, r4_9, r4_10, r0_1, r0_10, c_hasPaper hr hH hp, c_hasPaper hr hH hq, c_gapOf hr hH hp hq]
      · simp (disch := omega) only [zlet_ok, zcl_ok, zl_lit, zl_m1, nI_add, zald_nI, nI_ltE, nI_leE, nI_eqE, zm1_lt', zm1_le', zm1_nlt', zm1_nle', zm1_ne, zm1_ne', zm1_add1, gwI, grI_rI, zrI_s, zrI_n, zrI_L, gwL, grL_rL, zrL_s, zrL_n, zrL_I, Nat.zero_add, ↓reduceIte, if_true, if_false, gB_0, gB_1, gB_01, zchk_t, gB_1e, eq_self, gcle, gcnle, gclt, gcnlt, gcne, not_true_eq_false, not_false_eq_true, true_or, or_true, false_or, or_false, true_and, and_true, false_and, and_false, m_isPaper hH hp, m_isPaper hH hq, m_gapOf hH hp hq]
    · refine ⟨zm1, ?_, ?_⟩
      · simp (disch := (first | assumption | omega | (refine gRC.row ?_ ?_ <;> first | assumption | omega | (refine gRC.row ?_ ?_ <;> first | assumption | omega)))) only [zlet_ok, zcl_ok, zl_lit, zl_m1, nI_add, zald_nI, nI_ltE, nI_leE, nI_eqE, zm1_lt', zm1_le', zm1_nlt', zm1_nle', zm1_ne, zm1_ne', zm1_add1, gwI, grI_rI, zrI_s, zrI_n, zrI_L, gwL, grL_rL, zrL_s, zrL_n, zrL_I, Nat.zero_add, ↓reduceIte, if_true, if_false, gB_0, gB_1, gB_01, zchk_t, gB_1e, eq_self, gcle, gcnle, gclt, gcnlt, gcne, not_true_eq_false, not_false_eq_true, true_or, or_true, false_or, or_false, true_and, and_true, false_and, and_false, r4_6, r4_7, r4_8, r4_9, r4_10, r0_1, c_hasPaper hr hH hp, c_hasPaper_n hr ho]
      · simp (disch := omega) only [zlet_ok, zcl_ok, zl_lit, zl_m1, nI_add, zald_nI, nI_ltE, nI_leE, nI_eqE, zm1_lt', zm1_le', zm1_nlt', zm1_nle', zm1_ne, zm1_ne', zm1_add1, gwI, grI_rI, zrI_s, zrI_n, zrI_L, gwL, grL_rL, zrL_s, zrL_n, zrL_I, Nat.zero_add, ↓reduceIte, if_true, if_false, gB_0, gB_1, gB_01, zchk_t, gB_1e, eq_self, gcle, gcnle, gclt, gcnlt, gcne, not_true_eq_false, not_false_eq_true, true_or, or_true, false_or, or_false, true_and, and_true, false_and, and_false, m_isPaper hH hp, m_isPaper_n hH ho]
  · refine ⟨zm1, ?_, ?_⟩
    · simp (disch := (first | assumption | omega | (refine gRC.row ?_ ?_ <;> first | assumption | omega | (refine gRC.row ?_ ?_ <;> first | assumption | omega)))) only [zlet_ok, zcl_ok, zl_lit, zl_m1, nI_add, zald_nI, nI_ltE, nI_leE, nI_eqE, zm1_lt', zm1_le', zm1_nlt', zm1_nle', zm1_ne, zm1_ne', zm1_add1, gwI, grI_rI, zrI_s, zrI_n, zrI_L, gwL, grL_rL, zrL_s, zrL_n, zrL_I, Nat.zero_add, ↓reduceIte, if_true, if_false, gB_0, gB_1, gB_01, zchk_t, gB_1e, eq_self, gcle, gcnle, gclt, gcnlt, gcne, not_true_eq_false, not_false_eq_true, true_or, or_true, false_or, or_false, true_and, and_true, false_and, and_false, r4_6, r4_7, r4_8, r4_9, r4_10, r0_1, c_hasPaper_n hr ho]
    · simp (disch := omega) only [zlet_ok, zcl_ok, zl_lit, zl_m1, nI_add, zald_nI, nI_ltE, nI_leE, nI_eqE, zm1_lt', zm1_le', zm1_nlt', zm1_nle', zm1_ne, zm1_ne', zm1_add1, gwI, grI_rI, zrI_s, zrI_n, zrI_L, gwL, grL_rL, zrL_s, zrL_n, zrL_I, Nat.zero_add, ↓reduceIte, if_true, if_false, gB_0, gB_1, gB_01, zchk_t, gB_1e, eq_self, gcle, gcnle, gclt, gcnlt, gcne, not_true_eq_false, not_false_eq_true, true_or, or_true, false_or, or_false, true_and, and_true, false_and, and_false, m_isPaper_n hH ho]
