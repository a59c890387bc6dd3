/-! THE CLASS'S ROOM AND LAB -/
def gOut (n : Nat) (x : Int32) : Prop := x < nI 0 ∨ nI n ≤ x
theorem gcase {n : Nat} (hn : n < 2 ^ 30) (x : Int32) : (∃ s, s < n ∧ x = nI s) ∨ gOut n x := by
  by_cases hx : x < 0
  · exact Or.inr (Or.inl hx)
  · obtain ⟨j, hj, rfl⟩ := nI_of hx
    by_cases h : j < n
    · exact Or.inl ⟨j, h, rfl⟩
    · exact Or.inr (Or.inr ((nI_leI (by omega) hj).mpr (by omega)))
theorem gOut.not {n s : Nat} (hn : n < 2 ^ 30) (h : gOut n (nI s)) (hs : s < n) : False := by
  rcases h with h | h
  · rw [nI_ltI (by omega) (by omega)] at h; omega
  · rw [nI_leI (by omega) (by omega)] at h; omega
def enX (n b : Nat) : Int32 := if b = n then zm1 else nI b
theorem enX_m1 {n b : Nat} (hb : b < 2 ^ 30) : (enX n b = zm1) = (b = n) := by
  unfold enX
  split
  · rename_i e; simp [e]
  · rename_i e; rw [zm1_ne (by omega)]; exact (eq_false e).symm
theorem enX_ne {n b : Nat} (h : b ≠ n) : enX n b = nI b := if_neg h
theorem gask_le {h : zN} {s b : Nat} (hH : gH h) (hs : s < h 2) (hb : b < h 0) : gAsk h s b ≤ 30 := by
  obtain ⟨k0, k1, k2, k3, k4, k5, kh, kl, ka, kp⟩ := id hH
  exact ka _ _ (kp s hs) hb
theorem gnx_le {h : zN} {s k : Nat} (hk : k ≤ h 0) : k ≤ gNx h s k ∧ gNx h s k ≤ h 0 := by
  have := gff_le (fun b => decide (0 < gAsk h s b)) (h 0 - k) k
  unfold gNx; omega
theorem gNx_ask {h : zN} {s k : Nat} (hk : k ≤ h 0) (e : gNx h s k ≠ h 0) : 0 < gAsk h s (gNx h s k) := by
  have l1 := gnx_le (s := s) hk
  have h1 := gff_p (p := fun b => decide (0 < gAsk h s b)) (n := h 0 - k) (k := k) (by unfold gNx at e l1; omega)
  exact of_decide_eq_true h1
theorem gRC.ask {h : zN} {M : zMem} {s b : Nat} (hr : gRC h M) (hH : gH h) (hs : s < h 2) (hb : b < h 0) : M.1 9 (h (48 + s) * 6 + b) = nI (gAsk h s b) := by
  obtain ⟨k0, k1, k2, k3, k4, k5, kh, kl, ka, kp⟩ := id hH
  obtain ⟨q0, q1, q2, q3, q4, q5, qh, ql, qp, qa⟩ := id hr
  have e : h (48 + s) * 6 + b = 6 * h (48 + s) + b := by omega
  rw [e]
  exact qa _ _ (kp s hs) hb
theorem c_hasSheet {h : zN} {M : zMem} {s : Nat} (hr : gRC h M) (hH : gH h) (hs : s < h 2) : mf_X7_hasSheet gR 4 (nI s) M = some (nI 1, M) := by
  obtain ⟨q0, q1, q2, q3, q4, q5, qh, ql, qp, qa⟩ := id hr
  obtain ⟨k0, k1, k2, k3, k4, k5, kh, kl, ka, kp⟩ := id hH
  unfold mf_X7_hasSheet
  simp (disch := omega) only [zlet_ok, zcl_ok, zl_lit, zl_m1, nI_add, zald_nI, nI_ltE, nI_leE, nI_eqE, zm1_lt', zm1_le', zm1_nlt', zm1_nle', zm1_ne, zm1_ne', zm1_add1, gwI, grI_rI, zrI_s, zrI_n, zrI_L, gwL, grL_rL, zrL_s, zrL_n, zrL_I, Nat.zero_add, ↓reduceIte, if_true, if_false, gB_0, gB_1, gB_01, zchk_t, gB_1e, eq_self, gcle, gcnle, gclt, gcnlt, gcne, not_true_eq_false, not_false_eq_true, true_or, or_true, false_or, or_false, true_and, and_true, false_and, and_false, q2]
theorem c_hasSheet_n {h : zN} {M : zMem} {x : Int32} (hr : gRC h M) (hx : gOut (h 2) x) : mf_X7_hasSheet gR 4 x M = some (nI 0, M) := by
  obtain ⟨q0, q1, q2, q3, q4, q5, qh, ql, qp, qa⟩ := id hr
  unfold mf_X7_hasSheet
  simp (disch := omega) only [zlet_ok, zcl_ok, zl_lit, zl_m1, nI_add, zald_nI, nI_ltE, nI_leE, nI_eqE, zm1_lt', zm1_le', zm1_nlt', zm1_nle', zm1_ne, zm1_ne', zm1_add1, gwI, grI_rI, zrI_s, zrI_n, zrI_L, gwL, grL_rL, zrL_s, zrL_n, zrL_I, Nat.zero_add, ↓reduceIte, if_true, if_false, gB_0, gB_1, gB_01, zchk_t, gB_1e, eq_self, gcle, gcnle, gclt, gcnlt, gcne, not_true_eq_false, not_false_eq_true, true_or, or_true, false_or, or_false, true_and, and_true, false_and, and_false, q2]
  rcases hx with e | e
  · rw [if_pos e]
  · by_cases e2 : x < nI 0
    · rw [if_pos e2]
    · rw [if_neg e2, if_pos e]
theorem c_hasBath {h : zN} {M : zMem} {b : Nat} (hr : gRC h M) (hH : gH h) (hb : b < h 0) : mf_X7_hasBath gR 4 (nI b) M = some (nI 1, M) := by
  obtain ⟨q0, q1, q2, q3, q4, q5, qh, ql, qp, qa⟩ := id hr
  obtain ⟨k0, k1, k2, k3, k4, k5, kh, kl, ka, kp⟩ := id hH
  unfold mf_X7_hasBath
  simp (disch := omega) only [zlet_ok, zcl_ok, zl_lit, zl_m1, nI_add, zald_nI, nI_ltE, nI_leE, nI_eqE, zm1_lt', zm1_le', zm1_nlt', zm1_nle', zm1_ne, zm1_ne', zm1_add1, gwI, grI_rI, zrI_s, zrI_n, zrI_L, gwL, grL_rL, zrL_s, zrL_n, zrL_I, Nat.zero_add, ↓reduceIte, if_true, if_false, gB_0, gB_1, gB_01, zchk_t, gB_1e, eq_self, gcle, gcnle, gclt, gcnlt, gcne, not_true_eq_false, not_false_eq_true, true_or, or_true, false_or, or_false, true_and, and_true, false_and, and_false, q0]
theorem c_hasBath_n {h : zN} {M : zMem} {x : Int32} (hr : gRC h M) (hx : gOut (h 0) x) : mf_X7_hasBath gR 4 x M = some (nI 0, M) := by
  obtain ⟨q0, q1, q2, q3, q4, q5, qh, ql, qp, qa⟩ := id hr
  unfold mf_X7_hasBath
  simp (disch := omega) only [zlet_ok, zcl_ok, zl_lit, zl_m1, nI_add, zald_nI, nI_ltE, nI_leE, nI_eqE, zm1_lt', zm1_le', zm1_nlt', zm1_nle', zm1_ne, zm1_ne', zm1_add1, gwI, grI_rI, zrI_s, zrI_n, zrI_L, gwL, grL_rL, zrL_s, zrL_n, zrL_I, Nat.zero_add, ↓reduceIte, if_true, if_false, gB_0, gB_1, gB_01, zchk_t, gB_1e, eq_self, gcle, gcnle, gclt, gcnlt, gcne, not_true_eq_false, not_false_eq_true, true_or, or_true, false_or, or_false, true_and, and_true, false_and, and_false, q0]
  rcases hx with e | e
  · rw [if_pos e]
  · by_cases e2 : x < nI 0
    · rw [if_pos e2]
    · rw [if_neg e2, if_pos e]
theorem c_hasPaper {h : zN} {M : zMem} {p : Nat} (hr : gRC h M) (hH : gH h) (hp : p < h 1) : mf_X7_hasPaper gR 4 (nI p) M = some (nI 1, M) := by
  obtain ⟨q0, q1, q2, q3, q4, q5, qh, ql, qp, qa⟩ := id hr
  obtain ⟨k0, k1, k2, k3, k4, k5, kh, kl, ka, kp⟩ := id hH
  unfold mf_X7_hasPaper
  simp (disch := omega) only [zlet_ok, zcl_ok, zl_lit, zl_m1, nI_add, zald_nI, nI_ltE, nI_leE, nI_eqE, zm1_lt', zm1_le', zm1_nlt', zm1_nle', zm1_ne, zm1_ne', zm1_add1, gwI, grI_rI, zrI_s, zrI_n, zrI_L, gwL, grL_rL, zrL_s, zrL_n, zrL_I, Nat.zero_add, ↓reduceIte, if_true, if_false, gB_0, gB_1, gB_01, zchk_t, gB_1e, eq_self, gcle, gcnle, gclt, gcnlt, gcne, not_true_eq_false, not_false_eq_true, true_or, or_true, false_or, or_false, true_and, and_true, false_and, and_false, q1]
theorem c_hasPaper_n {h : zN} {M : zMem} {x : Int32} (hr : gRC h M) (hx : gOut (h 1) x) : mf_X7_hasPaper gR 4 x M = some (nI 0, M) := by
  obtain ⟨q0, q1, q2, q3, q4, q5, qh, ql, qp, qa⟩ := id hr
  unfold mf_X7_hasPaper
  simp (disch := omega) only [zlet_ok, zcl_ok, zl_lit, zl_m1, nI_add, zald_nI, nI_ltE, nI_leE, nI_eqE, zm1_lt', zm1_le', zm1_nlt', zm1_nle', zm1_ne, zm1_ne', zm1_add1, gwI, grI_rI, zrI_s, zrI_n, zrI_L, gwL, grL_rL, zrL_s, zrL_n, zrL_I, Nat.zero_add, ↓reduceIte, if_true, if_false, gB_0, gB_1, gB_01, zchk_t, gB_1e, eq_self, gcle, gcnle, gclt, gcnlt, gcne, not_true_eq_false, not_false_eq_true, true_or, or_true, false_or, or_false, true_and, and_true, false_and, and_false, q1]
  rcases hx with e | e
  · rw [if_pos e]
  · by_cases e2 : x < nI 0
    · rw [if_pos e2]
    · rw [if_neg e2, if_pos e]
theorem c_asked {h : zN} {M : zMem} {p b : Nat} (hr : gRC h M) (hH : gH h) (hp : p < h 1) (hb : b < h 0) : mf_X7_asked gR 4 (nI p) (nI b) M = some (nI (h (18 + 6 * p + b)), M) := by
  obtain ⟨q0, q1, q2, q3, q4, q5, qh, ql, qp, qa⟩ := id hr
  obtain ⟨k0, k1, k2, k3, k4, k5, kh, kl, ka, kp⟩ := id hH
  have e : M.1 9 (p * 6 + b) = nI (h (18 + 6 * p + b)) := by
    have e : p * 6 + b = 6 * p + b := by omega
    rw [e]
    exact qa p b hp hb
  unfold mf_X7_asked
  simp (disch := omega) only [zlet_ok, zcl_ok, zl_lit, zl_m1, nI_add, zald_nI, nI_ltE, nI_leE, nI_eqE, zm1_lt', zm1_le', zm1_nlt', zm1_nle', zm1_ne, zm1_ne', zm1_add1, gwI, grI_rI, zrI_s, zrI_n, zrI_L, gwL, grL_rL, zrL_s, zrL_n, zrL_I, Nat.zero_add, ↓reduceIte, if_true, if_false, gB_0, gB_1, gB_01, zchk_t, gB_1e, eq_self, gcle, gcnle, gclt, gcnlt, gcne, not_true_eq_false, not_false_eq_true, true_or, or_true, false_or, or_false, true_and, and_true, false_and, and_false, q0, q1, nI_mulE, r4_10, e]
theorem c_askedS {h : zN} {M : zMem} {s b : Nat} (hr : gRC h M) (hH : gH h) (hs : s < h 2) (hb : b < h 0) : mf_X7_asked gR 4 (nI (h (48 + s))) (nI b) M = some (nI (gAsk h s b), M) := by
  obtain ⟨k0, k1, k2, k3, k4, k5, kh, kl, ka, kp⟩ := id hH
  exact c_asked hr hH (kp s hs) hb
theorem c_after {h : zN} {M : zMem} {s k : Nat} {x : Int32} (hr : gRC h M) (hH : gH h) (hs : s < h 2) (hk : k ≤ h 0) (hx : x + nI 1 = nI k) (hx2 : zm1 ≤ x) : mf_X7_bathAfter gR 4 (nI s) x M = some (enX (h 0) (gNx h s k), M) := by
  obtain ⟨q0, q1, q2, q3, q4, q5, qh, ql, qp, qa⟩ := id hr
  obtain ⟨k0, k1, k2, k3, k4, k5, kh, kl, ka, kp⟩ := id hH
  have hx3 : (zm1 ≤ x) = True := eq_true hx2
  have hsp := kp s hs
  have l1 := gnx_le (s := s) hk
  unfold mf_X7_bathAfter
  simp (disch := omega) only [zlet_ok, zcl_ok, zl_lit, zl_m1, nI_add, zald_nI, nI_ltE, nI_leE, nI_eqE, zm1_lt', zm1_le', zm1_nlt', zm1_nle', zm1_ne, zm1_ne', zm1_add1, gwI, grI_rI, zrI_s, zrI_n, zrI_L, gwL, grL_rL, zrL_s, zrL_n, zrL_I, Nat.zero_add, ↓reduceIte, if_true, if_false, gB_0, gB_1, gB_01, zchk_t, gB_1e, eq_self, gcle, gcnle, gclt, gcnlt, gcne, not_true_eq_false, not_false_eq_true, true_or, or_true, false_or, or_false, true_and, and_true, false_and, and_false, c_hasSheet hr hH hs, hx3, hx]
  refine gfor (G := fun f i => mf_X7_bathAfter_l19 gR 4 f (nI s) (nI (k + i)) M) (n := gNx h s k - k) (fun f i hi => ?_) (fun f => ?_) _ (by first | (show _ < 5000; omega) | omega)
  · have e1 : gAsk h s (k + i) = 0 := by
      have := gff_n (p := fun b => decide (0 < gAsk h s b)) (n := h 0 - k) (k := k) (k + i) (by omega) (by unfold gNx at hi; omega)
      simp only [decide_eq_false_iff_not] at this
      omega
    rw [mf_X7_bathAfter_l19]
    simp (disch := omega) only [zlet_ok, zcl_ok, zl_lit, zl_m1, nI_add, zald_nI, nI_ltE, nI_leE, nI_eqE, zm1_lt', zm1_le', zm1_nlt', zm1_nle', zm1_ne, zm1_ne', zm1_add1, gwI, grI_rI, zrI_s, zrI_n, zrI_L, gwL, grL_rL, zrL_s, zrL_n, zrL_I, Nat.zero_add, ↓reduceIte, if_true, if_false, gB_0, gB_1, gB_01, zchk_t, gB_1e, eq_self, gcle, gcnle, gclt, gcnlt, gcne, not_true_eq_false, not_false_eq_true, true_or, or_true, false_or, or_false, true_and, and_true, false_and, and_false, q0, r4_8, r4_10, qp s hs, nI_mulE, hr.ask hH hs (show k + i < h 0 by omega), e1, Nat.le_refl, Nat.add_assoc]
  · rw [mf_X7_bathAfter_l19]
    have e2 : k + (gNx h s k - k) = gNx h s k := by omega
    rw [e2]
    by_cases e : gNx h s k = h 0
    · simp (disch := omega) only [zlet_ok, zcl_ok, zl_lit, zl_m1, nI_add, zald_nI, nI_ltE, nI_leE, nI_eqE, zm1_lt', zm1_le', zm1_nlt', zm1_nle', zm1_ne, zm1_ne', zm1_add1, gwI, grI_rI, zrI_s, zrI_n, zrI_L, gwL, grL_rL, zrL_s, zrL_n, zrL_I, Nat.zero_add, ↓reduceIte, if_true, if_false, gB_0, gB_1, gB_01, zchk_t, gB_1e, eq_self, gcle, gcnle, gclt, gcnlt, gcne, not_true_eq_false, not_false_eq_true, true_or, or_true, false_or, or_false, true_and, and_true, false_and, and_false, q0, e, Nat.le_refl]
      unfold enX; rw [if_pos rfl]
    · have e1 : 0 < gAsk h s (gNx h s k) := gNx_ask hk e
      have e3 : gAsk h s (gNx h s k) ≤ 30 := gask_le hH hs (by omega)
      simp (disch := omega) only [zlet_ok, zcl_ok, zl_lit, zl_m1, nI_add, zald_nI, nI_ltE, nI_leE, nI_eqE, zm1_lt', zm1_le', zm1_nlt', zm1_nle', zm1_ne, zm1_ne', zm1_add1, gwI, grI_rI, zrI_s, zrI_n, zrI_L, gwL, grL_rL, zrL_s, zrL_n, zrL_I, Nat.zero_add, ↓reduceIte, if_true, if_false, gB_0, gB_1, gB_01, zchk_t, gB_1e, eq_self, gcle, gcnle, gclt, gcnlt, gcne, not_true_eq_false, not_false_eq_true, true_or, or_true, false_or, or_false, true_and, and_true, false_and, and_false, q0, r4_8, r4_10, qp s hs, nI_mulE, hr.ask hH hs (show gNx h s k < h 0 by omega)]
      rw [enX_ne e]
theorem c_after0 {h : zN} {M : zMem} {s : Nat} (hr : gRC h M) (hH : gH h) (hs : s < h 2) : mf_X7_bathAfter gR 4 (nI s) zm1 M = some (enX (h 0) (gNx h s 0), M) := c_after hr hH hs (Nat.zero_le _) zm1_add1 (by decide +kernel)
theorem c_afterS {h : zN} {M : zMem} {s b : Nat} (hr : gRC h M) (hH : gH h) (hs : s < h 2) (hb : b < h 0) : mf_X7_bathAfter gR 4 (nI s) (nI b) M = some (enX (h 0) (gNx h s (b + 1)), M) := by
  obtain ⟨k0, k1, k2, k3, k4, k5, kh, kl, ka, kp⟩ := id hH
  exact c_after hr hH hs (by omega) (nI_add b 1) (zm1_le (by omega))
theorem c_bits {x : Nat} {M : zMem} (hx : x < 256) : mf_J6_bitCount_0f7a4 gR (nI x) M = some (nI (gpc x), M) := by
  have key : ∀ x, x < 256 → ((mf_J6_bitCount_0f7a4 gR (nI x) (fun _ _ => 0, fun _ _ => 0)).map Prod.fst) = some (nI (gpc x)) := by decide +kernel
  have h := key x hx
  unfold mf_J6_bitCount_0f7a4 zlet at h ⊢
  simp only [Option.map_some, Option.some.injEq] at h
  simp only [h]
theorem gIn_256 (a : zN) (b : Nat) : gIn a b < 256 := gbN_256 (Nat.le_refl 8)
theorem c_isOpen {h a : zN} {z : Nat → Int32} {M : zMem} {a0 c b : Nat} (hR : gLab a0 c) (hr : gRC h M) (hc : M.1 c = eC a z) (hH : gH h) (hA : gA h a) (hb : b < h 0) : mf_X3_isOpen gR a0 (nI b) M = some (gB (gOpen h a b), M) := by
  obtain ⟨q0, q1, q2, q3, q4, q5, qh, ql, qp, qa⟩ := id hr
  obtain ⟨k0, k1, k2, k3, k4, k5, kh, kl, ka, kp⟩ := id hH
  obtain ⟨ra, rc, hcl⟩ := id hR
  have l1 := gIn_256 a b
  have l2 := gpc_le (gIn a b)
  have l3 := hA.2.1 b hb
  have l4 := kl b hb
  have l5 := kh b hb
  unfold mf_X3_isOpen
  simp (disch := omega) only [zlet_ok, zcl_ok, zl_lit, zl_m1, nI_add, zald_nI, nI_ltE, nI_leE, nI_eqE, zm1_lt', zm1_le', zm1_nlt', zm1_nle', zm1_ne, zm1_ne', zm1_add1, gwI, grI_rI, zrI_s, zrI_n, zrI_L, gwL, grL_rL, zrL_s, zrL_n, zrL_I, Nat.zero_add, ↓reduceIte, if_true, if_false, gB_0, gB_1, gB_01, zchk_t, gB_1e, eq_self, gcle, gcnle, gclt, gcnlt, gcne, not_true_eq_false, not_false_eq_true, true_or, or_true, false_or, or_false, true_and, and_true, false_and, and_false, ra, rc, c_hasBath hr hH hb, hc, eC, eC_ins, c_bits, r4_6, r4_7, qh b hb, ql b hb, eC_had]
  unfold gOpen
  by_cases e1 : gpc (gIn a b) < h (6 + b)
  · by_cases e2 : a (2 + b) < h (12 + b)
    · rw [decide_eq_true e1, decide_eq_true e2, if_neg (Nat.not_le.mpr e1), if_neg (Nat.not_le.mpr e2), Bool.and_self, gB_t]
    · rw [decide_eq_true e1, decide_eq_false e2, if_neg (Nat.not_le.mpr e1), if_pos (Nat.not_lt.mp e2), Bool.and_false, gB_f]
  · rw [decide_eq_false e1, if_pos (Nat.not_lt.mp e1), Bool.false_and, gB_f]
theorem gGo_in {a : zN} {s how k : Nat} (hs : s < 8) (hk : k < 8) : gGo a s how (16 + k) = if k = s then 0 else a (16 + k) := by
  unfold gGo
  rw [uN_n (by omega), uN_n (by omega)]
  by_cases e : k = s
  · rw [if_pos e, e, uN_s]
  · rw [if_neg e, uN_n (by omega), uN_n (by omega)]
theorem gIn_go0 {a : zN} {s how : Nat} (hs : s < 8) (h0 : a (16 + s) = 0) : gIn (gGo a s how) = gIn a := by
  funext b
  refine gbN_cong (fun k hk => ?_)
  rw [gGo_in hs hk]
  by_cases e : k = s
  · rw [if_pos e, e, h0]
  · rw [if_neg e]
theorem gIn_goS {a : zN} {s how b : Nat} (hs : s < 8) (h0 : a (16 + s) = b + 1) : gIn (gGo a s how) = uN (gIn a) b (gIn a b &&& (255 - 2 ^ s)) := by
  funext b'
  by_cases eb : b' = b
  · subst eb
    rw [uN_s]
    refine (gbN_clr hs (fun k hk => ?_)).symm
    rw [gGo_in hs hk]
    by_cases e : k = s
    · simp [e]
    · simp [e]
  · rw [uN_n eb]
    refine gbN_cong (fun k hk => ?_)
    rw [gGo_in hs hk]
    by_cases e : k = s
    · rw [if_pos e, e, h0]
      try simp
      omega
    · rw [if_neg e]
theorem c_settle {a : zN} {z : Nat → Int32} {M : zMem} {a0 c s how : Nat} (hR : gLab a0 c) (hc : M.1 c = eC a z) (hs : s < 8) (hi : a (16 + s) ≤ 6) : mf_X3_settle gR a0 (nI s) (nI how) M = some ((), zrowI M c (eC (gGo a s how) z)) := by
  obtain ⟨ra, rc, hcl⟩ := id hR
  have l1 : ∀ b, gIn a b < 256 := gIn_256 a
  unfold mf_X3_settle
  by_cases e : a (16 + s) = 0
  · simp (disch := omega) only [zlet_ok, zcl_ok, zl_lit, zl_m1, nI_add, zald_nI, nI_ltE, nI_leE, nI_eqE, zm1_lt', zm1_le', zm1_nlt', zm1_nle', zm1_ne, zm1_ne', zm1_add1, gwI, grI_rI, zrI_s, zrI_n, zrI_L, gwL, grL_rL, zrL_s, zrL_n, zrL_I, Nat.zero_add, ↓reduceIte, if_true, if_false, gB_0, gB_1, gB_01, zchk_t, gB_1e, eq_self, gcle, gcnle, gclt, gcnlt, gcne, not_true_eq_false, not_false_eq_true, true_or, or_true, false_or, or_false, true_and, and_true, false_and, and_false, rc, hc, eC, eC_whe, e, enI_0, mf_X3_settle_b31, wC_how, wC_out, wC_left, wC_here]
    rw [gIn_go0 hs e]
    try rfl
  · obtain ⟨b, hb⟩ : ∃ b, a (16 + s) = b + 1 := ⟨a (16 + s) - 1, by omega⟩
    simp (disch := omega) only [zlet_ok, zcl_ok, zl_lit, zl_m1, nI_add, zald_nI, nI_ltE, nI_leE, nI_eqE, zm1_lt', zm1_le', zm1_nlt', zm1_nle', zm1_ne, zm1_ne', zm1_add1, gwI, grI_rI, zrI_s, zrI_n, zrI_L, gwL, grL_rL, zrL_s, zrL_n, zrL_I, Nat.zero_add, ↓reduceIte, if_true, if_false, gB_0, gB_1, gB_01, zchk_t, gB_1e, eq_self, gcle, gcnle, gclt, gcnlt, gcne, not_true_eq_false, not_false_eq_true, true_or, or_true, false_or, or_false, true_and, and_true, false_and, and_false, rc, hc, eC, eC_whe, hb, enI_s, eC_ins, gclr8 s hs _ (l1 b), wC_ins, mf_X3_settle_b31, wC_how, wC_out, wC_left, wC_here]
    rw [gIn_goS hs hb]
    try rfl
theorem gEnt_in {h a : zN} {s b k : Nat} (hs : s < 8) (hk : k < 8) (hb : b < 6) : gEnt h a s b (16 + k) = if k = s then b + 1 else a (16 + k) := by
  unfold gEnt
  rw [uN_n (by omega), uN_n (by omega), uN_n (by omega)]
  by_cases e : k = s
  · rw [if_pos e, e, uN_s]
  · rw [if_neg e, uN_n (by omega), uN_n (by omega)]
theorem gIn_ent {h a : zN} {s how b : Nat} (hs : s < 8) (hb : b < 6) : gIn (gEnt h a s b) = uN (gIn (gGo a s how)) b (gIn (gGo a s how) b ||| 2 ^ s) := by
  funext b'
  by_cases eb : b' = b
  · subst eb
    rw [uN_s]
    refine (gbN_setb hs (fun k hk => ?_)).symm
    rw [gGo_in hs hk, gEnt_in hs hk hb]
    by_cases e : k = s
    · simp [e]
    · simp [e]
  · rw [uN_n eb]
    refine gbN_cong (fun k hk => ?_)
    rw [gGo_in hs hk, gEnt_in hs hk hb]
    by_cases e : k = s
    · simp [e]
      omega
    · simp [e]
theorem gEnt_eq {h a : zN} {s b w : Nat} (hs : s < 8) (hb : b < 6) (hw : w = gAsk h s b + if 2 * a (2 + b) < h (12 + b) then 0 else h 4) : uN (uN (uN (gGo a s 1) (16 + s) (b + 1)) (24 + s) w) (2 + b) (a (2 + b) + 1) = gEnt h a s b := by
  funext j
  unfold gEnt gGo uN
  rw [hw]
  by_cases e1 : j = 2 + b
  · simp [e1]
  · by_cases e2 : j = 24 + s
    · simp [e1, e2]
    · by_cases e3 : j = 16 + s
      · simp [e1, e2, e3]
      · by_cases e4 : j = 32 + s
        · simp [e1, e2, e3, e4]
        · simp [e1, e2, e3, e4]
theorem c_enter {h a : zN} {z : Nat → Int32} {M : zMem} {a0 c s b : Nat} (hR : gLab a0 c) (hr : gRC h M) (hc : M.1 c = eC a z) (hH : gH h) (hA : gA h a) (hs : s < h 2) (hb : b < h 0) : mf_X3_enter gR a0 (nI s) (nI b) M = some ((), zrowI M c (eC (gEnt h a s b) z)) := by
  obtain ⟨q0, q1, q2, q3, q4, q5, qh, ql, qp, qa⟩ := id hr
  obtain ⟨k0, k1, k2, k3, k4, k5, kh, kl, ka, kp⟩ := id hH
  obtain ⟨ra, rc, hcl⟩ := id hR
  have hs8 : s < 8 := by omega
  have l1 := (hA.2.2 s hs8).2.1
  have l2 := hA.2.1 b hb
  have l3 := kl b hb
  have l5 : ∀ b, gIn (gGo a s 1) b < 256 := gIn_256 _
  have hg : gGo a s 1 (2 + b) = a (2 + b) := by
    unfold gGo
    rw [uN_n (by omega), uN_n (by omega), uN_n (by omega), uN_n (by omega)]
  unfold mf_X3_enter
  simp (disch := (first | assumption | omega | (refine gRC.row ?_ ?_ <;> first | assumption | omega | (refine gRC.row ?_ ?_ <;> first | assumption | omega)))) only [zlet_ok, zcl_ok, zl_lit, zl_m1, nI_add, zald_nI, nI_ltE, nI_leE, nI_eqE, zm1_lt', zm1_le', zm1_nlt', zm1_nle', zm1_ne, zm1_ne', zm1_add1, gwI, grI_rI, zrI_s, zrI_n, zrI_L, gwL, grL_rL, zrL_s, zrL_n, zrL_I, Nat.zero_add, ↓reduceIte, if_true, if_false, gB_0, gB_1, gB_01, zchk_t, gB_1e, eq_self, gcle, gcnle, gclt, gcnlt, gcne, not_true_eq_false, not_false_eq_true, true_or, or_true, false_or, or_false, true_and, and_true, false_and, and_false, r4_6, r4_7, r4_8, r4_9, r4_10, ra, rc, c_settle hR hc hs8 (how := 1) (by omega), eC, eC_had, hg, ql b hb, nI_mulE]
  have fin : ∀ w, w = gAsk h s b + (if 2 * a (2 + b) < h (12 + b) then 0 else h 4) → (zrowI M c (encC (uN (uN (uN (gGo a s 1) (16 + s) (b + 1)) (24 + s) w) (2 + b) (a (2 + b) + 1)) (uN (gIn (gGo a s 1)) b (gIn (gGo a s 1) b ||| 2 ^ s)) z)) = zrowI M c (encC (gEnt h a s b) (gIn (gEnt h a s b)) z) := fun w hw => by
    rw [gEnt_eq hs8 (by omega) hw, gIn_ent (h := h) (how := 1) hs8 (by omega)]
  by_cases e : 2 * a (2 + b) < h (12 + b)
  · rw [if_pos e] at fin ⊢
    simp (disch := (first | assumption | omega | (refine gRC.row ?_ ?_ <;> first | assumption | omega | (refine gRC.row ?_ ?_ <;> first | assumption | omega)))) only [zlet_ok, zcl_ok, zl_lit, zl_m1, nI_add, zald_nI, nI_ltE, nI_leE, nI_eqE, zm1_lt', zm1_le', zm1_nlt', zm1_nle', zm1_ne, zm1_ne', zm1_add1, gwI, grI_rI, zrI_s, zrI_n, zrI_L, gwL, grL_rL, zrL_s, zrL_n, zrL_I, Nat.zero_add, ↓reduceIte, if_true, if_false, gB_0, gB_1, gB_01, zchk_t, gB_1e, eq_self, gcle, gcnle, gclt, gcnlt, gcne, not_true_eq_false, not_false_eq_true, true_or, or_true, false_or, or_false, true_and, and_true, false_and, and_false, r4_6, r4_7, r4_8, r4_9, r4_10, mf_X3_enter_b33, mf_X3_enter_b84, ra, rc, wC_into, qp s hs, c_askedS (h := h), wC_left, eC_ins, gset8 s hs8 _ (l5 b), wC_ins, eC_had, uN_n, hg, wC_had, Nat.add_zero]
    rw [fin _ (by rw [Nat.add_zero])]
  · rw [if_neg e] at fin ⊢
    simp (disch := (first | assumption | omega | (refine gRC.row ?_ ?_ <;> first | assumption | omega | (refine gRC.row ?_ ?_ <;> first | assumption | omega)))) only [zlet_ok, zcl_ok, zl_lit, zl_m1, nI_add, zald_nI, nI_ltE, nI_leE, nI_eqE, zm1_lt', zm1_le', zm1_nlt', zm1_nle', zm1_ne, zm1_ne', zm1_add1, gwI, grI_rI, zrI_s, zrI_n, zrI_L, gwL, grL_rL, zrL_s, zrL_n, zrL_I, Nat.zero_add, ↓reduceIte, if_true, if_false, gB_0, gB_1, gB_01, zchk_t, gB_1e, eq_self, gcle, gcnle, gclt, gcnlt, gcne, not_true_eq_false, not_false_eq_true, true_or, or_true, false_or, or_false, true_and, and_true, false_and, and_false, r4_6, r4_7, r4_8, r4_9, r4_10, mf_X3_enter_b33, mf_X3_enter_b84, ra, rc, wC_into, qp s hs, c_askedS (h := h), q4, wC_left, eC_ins, gset8 s hs8 _ (l5 b), wC_ins, eC_had, uN_n, hg, wC_had]
    rw [fin _ rfl]
