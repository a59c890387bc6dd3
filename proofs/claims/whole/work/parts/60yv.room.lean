/-! ROOM: the class's new room and lab -/
theorem cpyI {g g' : Nat → Int32} {n k : Nat} (hn : n < 1000) (hk : k < n) : va_cpy g g' (nI 0).toNatClampNeg (nI 0).toNatClampNeg (nI n).toNatClampNeg k = g k := by
  have e0 : (nI 0).toNatClampNeg = 0 := rfl
  have en : (nI n).toNatClampNeg = n := by
    show (nI n).toInt.toNat = n
    rw [nI_toInt (by omega)]
    omega
  unfold va_cpy
  rw [e0, en, if_pos (by omega), Nat.zero_add, Nat.sub_zero]
theorem cpyL {g g' : Nat → Int64} {n k : Nat} (hn : n < 1000) (hk : k < n) : va_cpy g g' (nI 0).toNatClampNeg (nI 0).toNatClampNeg (nI n).toNatClampNeg k = g k := by
  have e0 : (nI 0).toNatClampNeg = 0 := rfl
  have en : (nI n).toNatClampNeg = n := by
    show (nI n).toInt.toNat = n
    rw [nI_toInt (by omega)]
    omega
  unfold va_cpy
  rw [e0, en, if_pos (by omega), Nat.zero_add, Nat.sub_zero]
/-- the ROOM comes out of the draft -/
theorem c_copyRoom {h : zN} {nu : Nat → List Nat} {oc : Int32} {M : zMem} (hH : gH h) (D : gDC h nu oc M) : ∃ M1, mf_X7_copyFrom gR 4 10 M = some ((), M1) ∧ gRC h M1 ∧ (∀ j, gTold h j → M1.2 8 j = M.2 14 j) ∧ gF [4, 5, 6, 7, 8, 9] [] M M1 := by
  obtain ⟨k0, k1, k2, k3, k4, k5, kh, kl, ka, kp⟩ := id hH
  obtain ⟨d1, d2, d3, d4, d5, d6⟩ := D
  unfold mf_X7_copyFrom
  simp only [zl_lit, zlet_ok, r4_6, r4_7, r4_8, r4_9, r4_10, r10_6, r10_7, r10_8, r10_9, r10_10]
  refine ⟨_, rfl, ⟨?_, ?_, ?_, ?_, ?_, ?_, ?_, ?_, ?_, ?_⟩, ?_, ?_⟩
  · simp (disch := decide) only [zrI_n, zrI_s, zrL_I, zrL_s, zrI_L, zwI_L, zwI_s, zwI_n, upd_s, upd_n]
    exact d1 0 (by omega)
  · simp (disch := decide) only [zrI_n, zrI_s, zrL_I, zrL_s, zrI_L, zwI_L, zwI_s, zwI_n, upd_s, upd_n]
    exact d1 1 (by omega)
  · simp (disch := decide) only [zrI_n, zrI_s, zrL_I, zrL_s, zrI_L, zwI_L, zwI_s, zwI_n, upd_s, upd_n]
    exact d1 2 (by omega)
  · simp (disch := decide) only [zrI_n, zrI_s, zrL_I, zrL_s, zrI_L, zwI_L, zwI_s, zwI_n, upd_s, upd_n]
    exact d1 3 (by omega)
  · simp (disch := decide) only [zrI_n, zrI_s, zrL_I, zrL_s, zrI_L, zwI_L, zwI_s, zwI_n, upd_s, upd_n]
    exact d1 4 (by omega)
  · simp (disch := decide) only [zrI_n, zrI_s, zrL_I, zrL_s, zrI_L, zwI_L, zwI_s, zwI_n, upd_s, upd_n]
    exact d1 5 (by omega)
  · intro b hb
    simp (disch := decide) only [zrI_n, zrI_s, zrL_I, zrL_s, zrI_L, zwI_L, zwI_s, zwI_n, upd_s, upd_n]
    rw [cpyI (by omega) (by omega)]
    exact (d3 b hb).1
  · intro b hb
    simp (disch := decide) only [zrI_n, zrI_s, zrL_I, zrL_s, zrI_L, zwI_L, zwI_s, zwI_n, upd_s, upd_n]
    rw [cpyI (by omega) (by omega)]
    exact (d3 b hb).2
  · intro s hs
    simp (disch := decide) only [zrI_n, zrI_s, zrL_I, zrL_s, zrI_L, zwI_L, zwI_s, zwI_n, upd_s, upd_n]
    rw [cpyI (by omega) (by omega)]
    exact d4 s hs
  · intro p b hp hb
    simp (disch := decide) only [zrI_n, zrI_s, zrL_I, zrL_s, zrI_L, zwI_L, zwI_s, zwI_n, upd_s, upd_n]
    rw [cpyI (by omega) (by omega)]
    exact d5 p b hp hb
  · intro j hj
    have : j < 19 := by unfold gTold at hj; omega
    simp (disch := decide) only [zrI_n, zrI_s, zrL_I, zrL_s, zrI_L, zwI_L, zwI_s, zwI_n, upd_s, upd_n]
    rw [cpyL (by omega) this]
  · exact gF.rI (gF.rL (gF.rI (gF.rI (gF.rI (gF.wI (gF.wI (gF.wI (gF.wI (gF.wI (gF.wI gF.r (by decide) (by decide)) (by decide) (by decide)) (by decide) (by decide)) (by decide) (by decide)) (by decide) (by decide)) (by decide) (by decide)) (by decide) (by decide)) (by decide) (by decide)) (by decide) (by decide)) (by decide)) (by decide) (by decide)
def gBg (h : zN) (i : Nat) (r : Nat → Int32) : Nat → Int32 := fun j => if j < i then (if 20 ≤ j ∧ j < 28 then zm1 else nI 0) else r j
theorem c_begin {h : zN} {M : zMem} (hr : gRC h M) : ∃ M1, mf_X3_begin gR 16 M = some ((), M1) ∧ M1.1 17 = eC (gA0 h) (M.1 17) ∧ gF [17] [] M M1 := by
  have st : ∀ (i : Nat) (v : Int32), v = (if 20 ≤ i ∧ i < 28 then zm1 else nI 0) → upd (gBg h i (M.1 17)) i v = gBg h (i + 1) (M.1 17) := fun i v hv => by
    funext j
    unfold upd gBg
    by_cases e : j = i
    · subst e; rw [if_pos rfl, if_pos (show j < j + 1 by omega), hv]
    · rw [if_neg e]
      by_cases w : j < i
      · rw [if_pos w, if_pos (show j < i + 1 by omega)]
      · rw [if_neg w, if_neg (show ¬ j < i + 1 by omega)]
  have g0 : zrowI M 17 (gBg h 0 (M.1 17)) = M := grI_id (by funext j; exact (if_neg (by omega)).symm)
  have key : mf_X3_begin_l2 gR 16 zF (nI 0) (zrowI M 17 (gBg h 0 (M.1 17))) = some ((), zrowI M 17 (upd (gBg h 62 (M.1 17)) 61 (nI (h 5)))) := by
    refine gfor (G := fun f i => mf_X3_begin_l2 gR 16 f (nI i) (zrowI M 17 (gBg h i (M.1 17)))) (n := 62) (fun f i hi => ?_) (fun f => ?_) _ (by first | (show _ < 5000; omega) | omega)
    · rw [mf_X3_begin_l2]
      unfold mf_X3_begin_b29 mf_X3_begin_b30
      simp only [zl_lit, zlet_ok, zl_m1]
      rw [if_neg (by rw [nI_leI (by omega) (by omega)]; omega), r16_1]
      simp (disch := omega) only [zald_nI, gwI, grI_rI, zrI_s, nI_add]
      by_cases w1 : i < 20
      · rw [if_pos ((nI_ltI (by omega) (by omega)).mpr w1), st i (nI 0) (if_neg (by omega)).symm]
      · rw [if_neg (by rw [nI_ltI (by omega) (by omega)]; exact w1)]
        by_cases w2 : 28 ≤ i
        · rw [if_pos ((nI_leI (by omega) (by omega)).mpr w2), st i (nI 0) (if_neg (by omega)).symm]
        · rw [if_neg (by rw [nI_leI (by omega) (by omega)]; exact w2), st i zm1 (if_pos (by omega)).symm]
    · rw [mf_X3_begin_l2]
      simp only [zl_lit, zlet_ok]
      rw [if_pos (by rw [nI_leI (by omega) (by omega)]; omega), zald_nI (by omega) (by omega), r16_1, r16_0, zrI_n (by decide), hr.2.2.2.2.2.1, gwI, grI_rI, zrI_s]
  rw [g0] at key
  refine ⟨zrowI M 17 (upd (gBg h 62 (M.1 17)) 61 (nI (h 5))), ?_, ?_, gF.rI gF.r (by decide) (by decide)⟩
  · unfold mf_X3_begin
    simp only [zl_lit]
    exact key
  · rw [zrI_s]
    have a0 : ∀ j, j ≠ 1 → gA0 h j = 0 := fun j hj => if_neg hj
    have gi : ∀ b, b < 6 → gIn (gA0 h) b = 0 := fun b hb => by
      unfold gIn
      rw [gbN_cong (q := fun _ => false) (fun k _ => by rw [a0 (16 + k) (by omega)]; exact decide_eq_false (by omega))]
      try rfl
    funext j
    unfold upd gBg eC encC
    by_cases z : j = 61
    · subst z
      rw [if_pos rfl]
      try rfl
    rw [if_neg z]
    by_cases w : j < 62
    · rw [if_pos w]
      by_cases w1 : j < 6
      · rw [if_pos w1, if_neg (by omega), a0 (2 + j) (by omega)]
      rw [if_neg w1]
      by_cases w2 : j < 12
      · rw [if_pos w2, if_neg (by omega), gi (j - 6) (by omega)]
      rw [if_neg w2]
      by_cases w3 : j < 20
      · rw [if_pos w3, if_neg (by omega), a0 (j - 4) (by omega)]
      rw [if_neg w3]
      by_cases w4 : j < 28
      · rw [if_pos w4, if_pos (by omega), a0 (j - 4) (by omega)]
        try rfl
      rw [if_neg w4]
      by_cases w5 : j < 60
      · rw [if_pos w5, if_neg (by omega), a0 (j - 4) (by omega)]
      rw [if_neg w5, if_neg (show ¬ (20 ≤ j ∧ j < 28) by omega), if_pos (show j = 60 by omega), a0 0 (by omega)]
    · rw [if_neg w, if_neg (by omega), if_neg (by omega), if_neg (by omega), if_neg (by omega), if_neg (by omega), if_neg (by omega), if_neg z]
