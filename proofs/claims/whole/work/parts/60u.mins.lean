/-! UNDO, MINUTES, DRAWN, ODDS -/
theorem q_undo {c : Nat} {h a : zN} {t : Nat → Int32} {sn : Nat → zN} {n : Nat} {M : zMem} (X : gX c h a t sn n M) : ∃ r M1 M2 a' sn' n', mf_X11_undo gR 0 M = some (r, M1) ∧ mf_X12_undo gR 89 M1 = some (r, M2) ∧ gF gIdA [0, 26] M M2 ∧ gX c h a' t sn' n' M2 := by
  have X0 := X
  obtain ⟨W, P1, P2, hn, hO, hS⟩ := X
  obtain ⟨hr, hc0, hm, hH, hA⟩ := W
  obtain ⟨nx, h1, h2, h3, h4⟩ := P1
  obtain ⟨p1, p2⟩ := P2
  unfold mf_X11_undo mf_X12_undo
  by_cases e0 : n = 0
  · subst e0
    have f2 : gF gIdA [0, 26] M (zwI M 89 0 (nI 0)) := gF.w9 gF.r (by decide)
    have f3 : gF [] [0] M (zwI M 89 0 (nI 0)) := gF.w9 gF.r (by decide)
    refine ⟨zm1, M, zwI M 89 0 (nI 0), a, sn, 0, ?_, ?_, f2, gX.fr f3 (by decide) (by decide) X0⟩
    · simp (disch := omega) only [zlet_ok, zcl_ok, zl_lit, zl_m1, nI_add, zald_nI, nI_ltE, nI_leE, nI_eqE, zm1_lt', zm1_le', zm1_nlt', zm1_nle', zm1_ne, zm1_ne', zm1_add1, gwI, grI_rI, zrI_s, zrI_n, zrI_L, gwL, grL_rL, zrL_s, zrL_n, zrL_I, Nat.zero_add, ↓reduceIte, if_true, if_false, gB_0, gB_1, gB_01, zchk_t, gB_1e, eq_self, gcle, gcnle, gclt, gcnlt, gcne, not_true_eq_false, not_false_eq_true, true_or, or_true, false_or, or_false, true_and, and_true, false_and, and_false, r0_8, r0_3, mf_X5_takeBack, h3]
    · simp only [zlet_ok, zl_lit]
      rw [zwI_s, upd_n (by decide), p1, if_pos rfl]
      try rfl
  · have hz := h4 0 (by omega)
    obtain ⟨z, hz⟩ := hz
    have hA0 := (hS 0 (by omega)).1
    have e35 : (35 + (nx + 8 - 0) % 9) = 35 + (if nx = 0 then 8 else nx - 1) := by split <;> omega
    rw [e35] at hz
    have l1 : (if nx = 0 then 8 else nx - 1) < 9 := by split <;> omega
    generalize hnx : (if nx = 0 then 8 else nx - 1) = ny at hz l1
    have fr : gF [17, 33] [] M (zrowI (zrowI M 33 (upd (upd (M.1 33) 1 (nI ny)) 2 (nI (n - 1)))) 17 (eC (sn 0) (M.1 17))) := gF.rI (gF.rI gF.r (by decide) (by decide)) (by decide) (by decide)
    have fr2 : gF gIdA [0, 26] M (zwI (zwI (zrowI (zrowI M 33 (upd (upd (M.1 33) 1 (nI ny)) 2 (nI (n - 1)))) 17 (eC (sn 0) (M.1 17))) 89 0 (nI 0)) 89 26 (nI (n - 1))) := gF.w9 (gF.w9 (fr.mono (by decide) (by decide)) (by decide)) (by decide)
    have hm2 : (zwI (zwI (zrowI (zrowI M 33 (upd (upd (M.1 33) 1 (nI ny)) 2 (nI (n - 1)))) 17 (eC (sn 0) (M.1 17))) 89 0 (nI 0)) 89 26 (nI (n - 1))).1 91 = encM h a t := by
      rw [zwI_n (by decide), zwI_n (by decide), fr.1 91 (by decide) (by decide)]; exact hm
    have h26 : (zwI (zrowI (zrowI M 33 (upd (upd (M.1 33) 1 (nI ny)) 2 (nI (n - 1)))) 17 (eC (sn 0) (M.1 17))) 89 0 (nI 0)).1 89 26 = nI n := by
      rw [zwI_s, upd_n (by decide), fr.2.2 26 (by decide)]; exact p1
    have h94 : ∀ k, k < 56 → (zwI (zwI (zrowI (zrowI M 33 (upd (upd (M.1 33) 1 (nI ny)) 2 (nI (n - 1)))) 17 (eC (sn 0) (M.1 17))) 89 0 (nI 0)) 89 26 (nI (n - 1))).1 94 (56 * (n - 1) + k) = encM h (sn 0) t (56 + k) := fun k hk => by
      rw [zwI_n (by decide), zwI_n (by decide), fr.1 94 (by decide) (by decide), encM_S hk]
      exact p2 0 (by omega) k hk
    refine ⟨nI (n - 1), zrowI (zrowI M 33 (upd (upd (M.1 33) 1 (nI ny)) 2 (nI (n - 1)))) 17 (eC (sn 0) (M.1 17)), zrowI (zwI (zwI (zrowI (zrowI M 33 (upd (upd (M.1 33) 1 (nI ny)) 2 (nI (n - 1)))) 17 (eC (sn 0) (M.1 17))) 89 0 (nI 0)) 89 26 (nI (n - 1))) 91 (encM h (sn 0) t), sn 0, fun i => sn (i + 1), n - 1, ?_, ?_, gF.rI fr2 (by decide) (by decide), ?_⟩
    · have htf := c_takeFrom (M := zrowI M 33 (upd (upd (M.1 33) 1 (nI ny)) 2 (nI (n - 1)))) (c := 35 + ny) (a := sn 0) (z := z) (by rw [zrI_n (by omega)]; exact hz)
      rw [zrI_n (by decide)] at htf
      by_cases e : nx = 0
      · rw [if_pos e] at hnx
        subst hnx
        simp (disch := omega) only [zlet_ok, zcl_ok, zl_lit, zl_m1, nI_add, zald_nI, nI_ltE, nI_leE, nI_eqE, zm1_lt', zm1_le', zm1_nlt', zm1_nle', zm1_ne, zm1_ne', zm1_add1, gwI, grI_rI, zrI_s, zrI_n, zrI_L, gwL, grL_rL, zrL_s, zrL_n, zrL_I, Nat.zero_add, ↓reduceIte, if_true, if_false, gB_0, gB_1, gB_01, zchk_t, gB_1e, eq_self, gcle, gcnle, gclt, gcnlt, gcne, not_true_eq_false, not_false_eq_true, true_or, or_true, false_or, or_false, true_and, and_true, false_and, and_false, r0_8, r0_3, mf_X5_takeBack, mf_X5_takeBack_b28, h3, h2, e, upd_n, upd_s, nI_subE, r33_0, r34, htf]
      · rw [if_neg e] at hnx
        simp (disch := omega) only [zlet_ok, zcl_ok, zl_lit, zl_m1, nI_add, zald_nI, nI_ltE, nI_leE, nI_eqE, zm1_lt', zm1_le', zm1_nlt', zm1_nle', zm1_ne, zm1_ne', zm1_add1, gwI, grI_rI, zrI_s, zrI_n, zrI_L, gwL, grL_rL, zrL_s, zrL_n, zrL_I, Nat.zero_add, ↓reduceIte, if_true, if_false, gB_0, gB_1, gB_01, zchk_t, gB_1e, eq_self, gcle, gcnle, gclt, gcnlt, gcne, not_true_eq_false, not_false_eq_true, true_or, or_true, false_or, or_false, true_and, and_true, false_and, and_false, r0_8, r0_3, mf_X5_takeBack, mf_X5_takeBack_b28, h3, h2, e, upd_n, upd_s, nI_subE, hnx, r33_0, r34, htf]
    · simp only [zlet_ok, zl_lit]
      rw [h26, if_neg (by rw [nI_eq (by omega) (by omega)]; exact e0), nI_subE (by omega), zwI_s (k := 26), upd_s, nI_mulE, r89_17]
      rw [← grI_id hm2, m_backs (h := h) (t' := t) (a0 := sn 0) (A := 94) (n1 := 448) (off := 56 * (n - 1)) (by decide) (by omega) (by decide) h94, zcl_ok]
      rw [grI_id hm2, zrI_n (by decide), zwI_s, upd_s]
    · have fr3 : gF [17, 33, 91] [0, 26] M (zrowI (zwI (zwI (zrowI (zrowI M 33 (upd (upd (M.1 33) 1 (nI ny)) 2 (nI (n - 1)))) 17 (eC (sn 0) (M.1 17))) 89 0 (nI 0)) 89 26 (nI (n - 1))) 91 (encM h (sn 0) t)) := gF.rI (gF.w9 (gF.w9 (fr.mono (by decide) (by decide)) (by decide)) (by decide)) (by decide) (by decide)
      refine ⟨gW.mk (gRC.fr fr3 (by decide) hr) (z := M.1 17) ?_ zrI_s hH hA0, ⟨ny, l1, ?_, ?_, fun i hi => ?_⟩, ⟨?_, fun i hi k hk => ?_⟩, by omega, (hS 0 (by omega)).2, fun i hi => hS (i + 1) (by omega)⟩
      · rw [zrI_n (by decide), zwI_n (by decide), zwI_n (by decide), zrI_s]
      · rw [zrI_n (by decide), zwI_n (by decide), zwI_n (by decide), zrI_n (by decide), zrI_s, upd_n (by decide), upd_s]
      · rw [zrI_n (by decide), zwI_n (by decide), zwI_n (by decide), zrI_n (by decide), zrI_s, upd_s]
      · obtain ⟨z', hz'⟩ := h4 (i + 1) (by omega)
        have e36 : (ny + 8 - i) % 9 = (nx + 8 - (i + 1)) % 9 := by
          rw [← hnx]
          split <;> omega
        refine ⟨z', ?_⟩
        rw [e36]
        have l9 : (nx + 8 - (i + 1)) % 9 < 9 := Nat.mod_lt _ (by decide)
        rw [zrI_n (by omega), zwI_n (by omega), zwI_n (by omega), zrI_n (by omega), zrI_n (by omega)]
        exact hz'
      · rw [zrI_n (by decide), zwI_s, upd_s]
      · rw [fr3.1 94 (by decide) (by decide), show n - 1 - 1 - i = n - 1 - (i + 1) by omega]
        exact p2 (i + 1) (by omega) k hk
theorem gX_step {c d : Nat} {h a a' : zN} {t : Nat → Int32} {sn : Nat → zN} {n : Nat} {z : Nat → Int32} {M M3 M5 : zMem} (X : gX c h a t sn n M) (hcd : c ≤ d) (hA' : gA h a') (hO' : gO d a') (f3 : gF [17, 19, 33, 35, 36, 37, 38, 39, 40, 41, 42, 43, 59] [] M M3) (h17 : M3.1 17 = eC a' z) (pc : gPC (gPush a sn) (gN8 n) M3) (f5 : gF [94] [0, 26, 42] M3 M5) (pm : gPM (gPush a sn) (gN8 n) M5) : gF (19 :: 59 :: gIdA) [0, 26, 42] M (zrowI M5 91 (encM h a' t)) ∧ gX d h a' t (gPush a sn) (gN8 n) (zrowI M5 91 (encM h a' t)) := by
  obtain ⟨W, P1, P2, hn, hO, hS⟩ := X
  obtain ⟨hr, hc0, hm, hH, hA⟩ := W
  have f6 : gF (19 :: 59 :: gIdA) [0, 26, 42] M (zrowI M5 91 (encM h a' t)) := gF.rI (gF.trans (f3.mono (by decide) (by decide)) (f5.mono (by decide) (by decide))) (by decide) (by decide)
  have f7 : gF [94, 91] [0, 26, 42] M3 (zrowI M5 91 (encM h a' t)) := gF.rI (f5.mono (by decide) (by decide)) (by decide) (by decide)
  have f8 : gF [91] [] M5 (zrowI M5 91 (encM h a' t)) := gF.rI gF.r (by decide) (by decide)
  refine ⟨f6, gW.mk (gRC.fr f6 (by decide) hr) (z := z) ?_ zrI_s hH hA', gPC.fr f7 (by decide) pc, gPM.fr f8 (by decide) (by decide) pm, gN8_le hn, hO', gPush_all (P := fun b => gA h b ∧ gO d b) ⟨hA, hO.mono hcd⟩ (fun i hi => ⟨(hS i hi).1, (hS i hi).2.mono hcd⟩) hn⟩
  rw [f7.1 17 (by decide) (by decide)]; exact h17
theorem c_keptAny {g : Nat} {a : zN} {M : zMem} {sn : Nat → zN} {n : Nat} (P : gPK a sn n M) (hn : n ≤ 8) (hg : 0 < g) (hg2 : g < 2000) : ∃ M1, mf_X11_keptIfAny gR 0 (nI g) M = some (nI g, M1) ∧ gF [33] [] M M1 ∧ gPC (gPush a sn) (gN8 n) M1 := by
  obtain ⟨M3, e3, f3, p3⟩ := c_keepM P hn
  refine ⟨M3, ?_, f3, p3⟩
  unfold mf_X11_keptIfAny
  rw [zl_lit, if_neg (by rw [nI_leI (by omega) (by omega)]; omega), r0_8, e3]
  try rfl
theorem m_isInY {k lo hi : Nat} {M : zMem} (h1 : lo ≤ k) (h2 : k ≤ hi) (h3 : hi < 2 ^ 30) : mf_X12_isIn gR (nI k) (nI lo) (nI hi) M = some (nI 1, M) := by
  unfold mf_X12_isIn
  simp (disch := omega) only [zlet_ok, zcl_ok, zl_lit, zl_m1, nI_add, zald_nI, nI_ltE, nI_leE, nI_eqE, zm1_lt', zm1_le', zm1_nlt', zm1_nle', zm1_ne, zm1_ne', zm1_add1, gwI, grI_rI, zrI_s, zrI_n, zrI_L, gwL, grL_rL, zrL_s, zrL_n, zrL_I, Nat.zero_add, ↓reduceIte, if_true, if_false, gB_0, gB_1, gB_01, zchk_t, gB_1e, eq_self, gcle, gcnle, gclt, gcnlt, gcne, not_true_eq_false, not_false_eq_true, true_or, or_true, false_or, or_false, true_and, and_true, false_and, and_false]
theorem m_isInN {k lo hi : Nat} {M : zMem} (h1 : k < lo) (h3 : lo < 2 ^ 30) : mf_X12_isIn gR (nI k) (nI lo) (nI hi) M = some (nI 0, M) := by
  unfold mf_X12_isIn
  simp (disch := omega) only [zlet_ok, zcl_ok, zl_lit, zl_m1, nI_add, zald_nI, nI_ltE, nI_leE, nI_eqE, zm1_lt', zm1_le', zm1_nlt', zm1_nle', zm1_ne, zm1_ne', zm1_add1, gwI, grI_rI, zrI_s, zrI_n, zrI_L, gwL, grL_rL, zrL_s, zrL_n, zrL_I, Nat.zero_add, ↓reduceIte, if_true, if_false, gB_0, gB_1, gB_01, zchk_t, gB_1e, eq_self, gcle, gcnle, gclt, gcnlt, gcne, not_true_eq_false, not_false_eq_true, true_or, or_true, false_or, or_false, true_and, and_true, false_and, and_false]
theorem gOut1 {n : Nat} {x : Int32} (hn : n + 1 < 2 ^ 30) (h : gOut (n + 1) x) : x < nI 1 ∨ (¬ x < nI 1 ∧ ¬ x ≤ nI n ∧ nI n < x) := by
  rcases h with e | e
  · refine Or.inl ?_
    rw [Int32.lt_iff_toInt_lt, nI_toInt (by omega)] at e ⊢
    omega
  · rw [Int32.le_iff_toInt_le, nI_toInt (by omega)] at e
    by_cases q : x < nI 1
    · exact Or.inl q
    · refine Or.inr ⟨q, ?_, ?_⟩
      · rw [Int32.le_iff_toInt_le, nI_toInt (by omega)]; omega
      · rw [Int32.lt_iff_toInt_lt, nI_toInt (by omega)]; omega
theorem m_isInO {n : Nat} {x : Int32} {M : zMem} (hn : n + 1 < 2 ^ 30) (h : gOut (n + 1) x) : mf_X12_isIn gR x (nI 1) (nI n) M = some (nI 0, M) := by
  unfold mf_X12_isIn
  rcases gOut1 hn h with e | ⟨e1, e2, e3⟩
  · simp (disch := omega) only [zlet_ok, zcl_ok, zl_lit, zl_m1, nI_add, zald_nI, nI_ltE, nI_leE, nI_eqE, zm1_lt', zm1_le', zm1_nlt', zm1_nle', zm1_ne, zm1_ne', zm1_add1, gwI, grI_rI, zrI_s, zrI_n, zrI_L, gwL, grL_rL, zrL_s, zrL_n, zrL_I, Nat.zero_add, ↓reduceIte, if_true, if_false, gB_0, gB_1, gB_01, zchk_t, gB_1e, eq_self, gcle, gcnle, gclt, gcnlt, gcne, not_true_eq_false, not_false_eq_true, true_or, or_true, false_or, or_false, true_and, and_true, false_and, and_false, e]
  · simp (disch := omega) only [zlet_ok, zcl_ok, zl_lit, zl_m1, nI_add, zald_nI, nI_ltE, nI_leE, nI_eqE, zm1_lt', zm1_le', zm1_nlt', zm1_nle', zm1_ne, zm1_ne', zm1_add1, gwI, grI_rI, zrI_s, zrI_n, zrI_L, gwL, grL_rL, zrL_s, zrL_n, zrL_I, Nat.zero_add, ↓reduceIte, if_true, if_false, gB_0, gB_1, gB_01, zchk_t, gB_1e, eq_self, gcle, gcnle, gclt, gcnlt, gcne, not_true_eq_false, not_false_eq_true, true_or, or_true, false_or, or_false, true_and, and_true, false_and, and_false, e1, e3]
def gMn (k m : Nat) : Nat := if 1000 - m < k then 1000 - m else k
theorem c_min {k m : Nat} (hk : k < 100) (hm : m ≤ 1000) : (if nI 1000 - nI m < nI k then nI 1000 - nI m else nI k) = nI (gMn k m) := by
  unfold gMn
  rw [nI_subE hm]
  by_cases e : 1000 - m < k
  · rw [if_pos e, if_pos ((nI_ltI (by omega) (by omega)).mpr e)]
  · rw [if_neg e, if_neg (fun q => e ((nI_ltI (by omega) (by omega)).mp q))]
theorem m_least {k m : Nat} {M : zMem} (hk : k < 100) (hm : m ≤ 1000) : mf_X12_least gR (nI k) (nI 1000 - nI m) M = some (nI (gMn k m), M) := by
  unfold mf_X12_least gMn
  rw [nI_subE hm]
  by_cases e : 1000 - m < k
  · rw [if_pos e, if_pos ((nI_leI (by omega) (by omega)).mpr (by omega))]
  · rw [if_neg e]
    by_cases e2 : 1000 - m ≤ k
    · rw [if_pos ((nI_leI (by omega) (by omega)).mpr e2), show 1000 - m = k by omega]
    · rw [if_neg (fun q => e2 ((nI_leI (by omega) (by omega)).mp q))]
theorem q_minutes {c : Nat} {h a : zN} {t : Nat → Int32} {sn : Nat → zN} {n : Nat} {M : zMem} (X : gX c h a t sn n M) (x : Int32) : ∃ r M1 M2 a' sn' n', mf_X11_minutes gR 0 x M = some (r, M1) ∧ mf_X12_minutes gR 89 x M1 = some (r, M2) ∧ gF (19 :: 59 :: gIdA) [0, 26, 42] M M2 ∧ gX c h a' t sn' n' M2 := by
  have X0 := X
  obtain ⟨W, P1, P2, hn, hO, hS⟩ := X
  obtain ⟨hr, hc0, hm, hH, hA⟩ := W
  have fz : gF (19 :: 59 :: gIdA) [0, 26, 42] M (zwI M 89 0 (nI 0)) := gF.w9 gF.r (by decide)
  have fz2 : gF [] [0] M (zwI M 89 0 (nI 0)) := gF.w9 gF.r (by decide)
  have Xz := gX.fr fz2 (by decide) (by decide) X0
  unfold mf_X11_minutes mf_X12_minutes
  rcases gcase (n := 61) (by omega) x with ⟨k, hk, rfl⟩ | ho
  · by_cases e0 : k = 0
    · subst e0
      refine ⟨zm1, M, _, a, sn, n, ?_, ?_, fz, Xz⟩
      · simp (disch := omega) only [zlet_ok, zcl_ok, zl_lit, zl_m1, nI_add, zald_nI, nI_ltE, nI_leE, nI_eqE, zm1_lt', zm1_le', zm1_nlt', zm1_nle', zm1_ne, zm1_ne', zm1_add1, gwI, grI_rI, zrI_s, zrI_n, zrI_L, gwL, grL_rL, zrL_s, zrL_n, zrL_I, Nat.zero_add, ↓reduceIte, if_true, if_false, gB_0, gB_1, gB_01, zchk_t, gB_1e, eq_self, gcle, gcnle, gclt, gcnlt, gcne, not_true_eq_false, not_false_eq_true, true_or, or_true, false_or, or_false, true_and, and_true, false_and, and_false]
      · simp only [zlet_ok, zl_lit]
        rw [m_isInN (by omega) (by omega), zcl_ok, if_pos rfl]
        try rfl
    · have o1 := hO.1
      obtain ⟨M1, e1, f1, k1⟩ := c_mark hc0 P1 hn
      have hr1 := gRC.fr f1 (by decide) hr
      have h17 : M1.1 17 = eC a (M.1 17) := by rw [f1.1 17 (by decide) (by decide)]; exact hc0
      have emin : mf_X3_minute gR 16 M1 = some (nI (a 0), M1) := by
        unfold mf_X3_minute
        rw [gLab_l.2.1, h17]
        simp (disch := omega) only [zlet_ok, zcl_ok, zl_lit, zl_m1, nI_add, zald_nI, nI_ltE, nI_leE, nI_eqE, zm1_lt', zm1_le', zm1_nlt', zm1_nle', zm1_ne, zm1_ne', zm1_add1, gwI, grI_rI, zrI_s, zrI_n, zrI_L, gwL, grL_rL, zrL_s, zrL_n, zrL_I, Nat.zero_add, ↓reduceIte, if_true, if_false, gB_0, gB_1, gB_01, zchk_t, gB_1e, eq_self, gcle, gcnle, gclt, gcnlt, gcne, not_true_eq_false, not_false_eq_true, true_or, or_true, false_or, or_false, true_and, and_true, false_and, and_false, eC, eC_min]
      have hm1 : (zwI M1 89 0 (nI 0)).1 91 = encM h a t := by rw [zwI_n (by decide), f1.1 91 (by decide) (by decide)]; exact hm
      have p1 := c_passes (n := gMn k (a 0)) (z := M.1 17) gLab_l hr1 hH hA (by unfold gMn; split <;> omega)
      have e17 : zrowI M1 17 (eC a (M.1 17)) = M1 := grI_id h17
      rw [e17] at p1
      by_cases em : a 0 = 1000
      · have eg : gMn k (a 0) = 0 := by unfold gMn; rw [em, if_pos (by omega)]
        rw [eg] at p1
        have p2 : zrowI M1 17 (eC (gPass h 0 a) (M.1 17)) = M1 := grI_id h17
        rw [p2] at p1
        have f2 : gF (19 :: 59 :: gIdA) [0, 26, 42] M (zwI M1 89 0 (nI 0)) := gF.w9 (f1.mono (by decide) (by decide)) (by decide)
        have f3 : gF [35, 36, 37, 38, 39, 40, 41, 42, 43] [0] M (zwI M1 89 0 (nI 0)) := gF.w9 (f1.mono (by decide) (by decide)) (by decide)
        have f4 : gF [] [0] M1 (zwI M1 89 0 (nI 0)) := gF.w9 gF.r (by decide)
        refine ⟨nI 0, M1, zwI M1 89 0 (nI 0), a, sn, n, ?_, ?_, f2, gW.fr f3 (by decide) X0.1, gPC.fr f4 (by decide) k1.pc, gPM.fr f3 (by decide) (by decide) P2, hn, hO, hS⟩
        · simp only [zlet_ok, zl_lit]
          rw [if_neg (by rw [nI_ltI (by omega) (by omega)]; omega), if_pos (by rw [nI_leI (by omega) (by omega)]; omega), r0_8, r0_3, e1, zcl_ok, emin, zcl_ok, c_min (by omega) o1, eg, p1, zcl_ok]
          unfold mf_X11_keptIfAny
          simp (disch := omega) only [zlet_ok, zcl_ok, zl_lit, zl_m1, nI_add, zald_nI, nI_ltE, nI_leE, nI_eqE, zm1_lt', zm1_le', zm1_nlt', zm1_nle', zm1_ne, zm1_ne', zm1_add1, gwI, grI_rI, zrI_s, zrI_n, zrI_L, gwL, grL_rL, zrL_s, zrL_n, zrL_I, Nat.zero_add, ↓reduceIte, if_true, if_false, gB_0, gB_1, gB_01, zchk_t, gB_1e, eq_self, gcle, gcnle, gclt, gcnlt, gcne, not_true_eq_false, not_false_eq_true, true_or, or_true, false_or, or_false, true_and, and_true, false_and, and_false, Nat.le_refl]
        · simp only [zlet_ok, zl_lit]
          rw [← grI_id hm1, m_isInY (by omega) (by omega) (by omega)]
          simp (disch := omega) only [zlet_ok, zcl_ok, zl_lit, zl_m1, nI_add, zald_nI, nI_ltE, nI_leE, nI_eqE, zm1_lt', zm1_le', zm1_nlt', zm1_nle', zm1_ne, zm1_ne', zm1_add1, gwI, grI_rI, zrI_s, zrI_n, zrI_L, gwL, grL_rL, zrL_s, zrL_n, zrL_I, Nat.zero_add, ↓reduceIte, if_true, if_false, gB_0, gB_1, gB_01, zchk_t, gB_1e, eq_self, gcle, gcnle, gclt, gcnlt, gcne, not_true_eq_false, not_false_eq_true, true_or, or_true, false_or, or_false, true_and, and_true, false_and, and_false, r89_14, eM_min, em]
      · have hg : 0 < gMn k (a 0) := by unfold gMn; split <;> omega
        have hg2 : a 0 + gMn k (a 0) ≤ 1000 := by unfold gMn; split <;> omega
        have k2 : gPK a sn n (zrowI M1 17 (eC (gPass h (gMn k (a 0)) a) (M.1 17))) := gPK.fr hn (zrI_n (by decide)) (fun j hj => zrI_n (by omega)) k1
        obtain ⟨M3, e3, f3, p3⟩ := c_keptAny (g := gMn k (a 0)) k2 hn hg (by omega)
        have f13 : gF [17, 19, 33, 35, 36, 37, 38, 39, 40, 41, 42, 43, 59] [] M M3 := gF.trans (gF.rI (f1.mono (by decide) (by decide)) (by decide) (by decide)) (f3.mono (by decide) (by decide))
        have h173 : M3.1 17 = eC (gPass h (gMn k (a 0)) a) (M.1 17) := by rw [f3.1 17 (by decide) (by decide), zrI_s]
        have hm3 : (zwI M3 89 0 (nI 0)).1 91 = encM h a t := by rw [zwI_n (by decide), f13.1 91 (by decide) (by decide)]; exact hm
        have f14 : gF [17, 19, 33, 35, 36, 37, 38, 39, 40, 41, 42, 43, 59] [0] M (zwI M3 89 0 (nI 0)) := gF.w9 (f13.mono (by decide) (by decide)) (by decide)
        obtain ⟨M4, e4, f4, p4⟩ := m_snap (h := h) (a := a) (t := t) (gPM.fr f14 (by decide) (by decide) P2) hn
        have f5 : gF [94] [0, 26, 42] M3 M4 := gF.trans (M1 := zwI M3 89 0 (nI 0)) (gF.w9 gF.r (by decide)) (f4.mono (by decide) (by decide))
        obtain ⟨z1, z2⟩ := gX_step (a' := gPass h (gMn k (a 0)) a) X0 (Nat.le_refl c) (gA_pass hH hA) (gO_pass hH hO hg2) f13 h173 p3 f5 p4
        refine ⟨nI (gMn k (a 0)), M3, _, gPass h (gMn k (a 0)) a, gPush a sn, gN8 n, ?_, ?_, z1, z2⟩
        · simp only [zlet_ok, zl_lit]
          rw [if_neg (by rw [nI_ltI (by omega) (by omega)]; omega), if_pos (by rw [nI_leI (by omega) (by omega)]; omega), r0_8, r0_3, e1, zcl_ok, emin, zcl_ok, c_min (by omega) o1, p1, zcl_ok, e3, zcl_ok]
        · simp only [zlet_ok, zl_lit]
          rw [← grI_id hm3, m_isInY (by omega) (by omega) (by omega), zcl_ok, if_neg (by decide +kernel), zald_nI (by omega) (by omega), r89_14, zrI_s, eM_min, if_neg (by rw [nI_eq (by omega) (by omega)]; exact em), e4, zcl_ok]
          unfold mf_X12_passMinutes
          simp only [zl_lit]
          rw [zald_nI (by omega) (by omega), r89_14, zrI_s, eM_min, m_least (by omega) o1, zcl_ok, m_goOn (n := gMn k (a 0)) hH hA (by omega), zcl_ok, zcl_ok]
  · refine ⟨zm1, M, _, a, sn, n, ?_, ?_, fz, Xz⟩
    · rcases gOut1 (n := 60) (by omega) ho with e | ⟨e1, e2, e3⟩
      · simp (disch := omega) only [zlet_ok, zcl_ok, zl_lit, zl_m1, nI_add, zald_nI, nI_ltE, nI_leE, nI_eqE, zm1_lt', zm1_le', zm1_nlt', zm1_nle', zm1_ne, zm1_ne', zm1_add1, gwI, grI_rI, zrI_s, zrI_n, zrI_L, gwL, grL_rL, zrL_s, zrL_n, zrL_I, Nat.zero_add, ↓reduceIte, if_true, if_false, gB_0, gB_1, gB_01, zchk_t, gB_1e, eq_self, gcle, gcnle, gclt, gcnlt, gcne, not_true_eq_false, not_false_eq_true, true_or, or_true, false_or, or_false, true_and, and_true, false_and, and_false, e]
      · simp (disch := omega) only [zlet_ok, zcl_ok, zl_lit, zl_m1, nI_add, zald_nI, nI_ltE, nI_leE, nI_eqE, zm1_lt', zm1_le', zm1_nlt', zm1_nle', zm1_ne, zm1_ne', zm1_add1, gwI, grI_rI, zrI_s, zrI_n, zrI_L, gwL, grL_rL, zrL_s, zrL_n, zrL_I, Nat.zero_add, ↓reduceIte, if_true, if_false, gB_0, gB_1, gB_01, zchk_t, gB_1e, eq_self, gcle, gcnle, gclt, gcnlt, gcne, not_true_eq_false, not_false_eq_true, true_or, or_true, false_or, or_false, true_and, and_true, false_and, and_false, e1, e2]
    · simp only [zlet_ok, zl_lit]
      rw [m_isInO (n := 60) (by omega) ho, zcl_ok, if_pos rfl]
      try rfl
theorem q_drawn {c : Nat} {h a : zN} {t : Nat → Int32} {sn : Nat → zN} {n : Nat} {M : zMem} (X : gX c h a t sn n M) (x y : Int32) : ∃ r M1 M2 a' sn' n', mf_X11_drawn gR 0 x y M = some (r, M1) ∧ mf_X12_drawn gR 89 x y M1 = some (r, M2) ∧ gF (19 :: 59 :: gIdA) [0, 26, 42] M M2 ∧ gX (c + 60) h a' t sn' n' M2 := by
  have X0 := X
  obtain ⟨W, P1, P2, hn, hO, hS⟩ := X
  obtain ⟨hr, hc0, hm, hH, hA⟩ := W
  have fz : gF (19 :: 59 :: gIdA) [0, 26, 42] M (zwI M 89 0 (nI 0)) := gF.w9 gF.r (by decide)
  have fz2 : gF [] [0] M (zwI M 89 0 (nI 0)) := gF.w9 gF.r (by decide)
  have Xz := (gX.fr fz2 (by decide) (by decide) X0).mono (show c ≤ c + 60 by omega)
  unfold mf_X11_drawn mf_X12_drawn
  rcases gcase (n := 61) (by omega) x with ⟨k, hk, rfl⟩ | ho
  · by_cases e0 : k = 0
    · subst e0
      refine ⟨zm1, M, _, a, sn, n, ?_, ?_, fz, Xz⟩
      · simp (disch := omega) only [zlet_ok, zcl_ok, zl_lit, zl_m1, nI_add, zald_nI, nI_ltE, nI_leE, nI_eqE, zm1_lt', zm1_le', zm1_nlt', zm1_nle', zm1_ne, zm1_ne', zm1_add1, gwI, grI_rI, zrI_s, zrI_n, zrI_L, gwL, grL_rL, zrL_s, zrL_n, zrL_I, Nat.zero_add, ↓reduceIte, if_true, if_false, gB_0, gB_1, gB_01, zchk_t, gB_1e, eq_self, gcle, gcnle, gclt, gcnlt, gcne, not_true_eq_false, not_false_eq_true, true_or, or_true, false_or, or_false, true_and, and_true, false_and, and_false]
      · simp only [zlet_ok, zl_lit]
        rw [m_isInN (by omega) (by omega), zcl_ok, if_pos rfl]
        try rfl
    · have o1 := hO.1
      have hg2 : a 0 + gMn k (a 0) ≤ 1000 := by unfold gMn; split <;> omega
      have hg3 : gMn k (a 0) ≤ k := by unfold gMn; split <;> omega
      obtain ⟨a', x', d1, d2, d3, d4, d5⟩ := cm_live hH (gMn k (a 0)) c a y hA hO hg2
      obtain ⟨M1, e1, f1, k1⟩ := c_mark hc0 P1 hn
      have hr1 := gRC.fr f1 (by decide) hr
      have h17 : M1.1 17 = eC a (M.1 17) := by rw [f1.1 17 (by decide) (by decide)]; exact hc0
      have hm1 : (zwI M1 89 0 (nI 0)).1 91 = encM h a t := by rw [zwI_n (by decide), f1.1 91 (by decide) (by decide)]; exact hm
      have p1 : mf_X1_liveMinutes gR 59 16 (nI k) y M1 = some (nI (gMn k (a 0)), zrowI (zwI M1 59 0 x') 17 (eC a' (M.1 17))) := by
        have q := d4 M1 16 17 (M.1 17) k 0 zF gLab_l (by decide) hr1 (by omega) (by unfold gMn; split <;> omega) (by omega) (by show _ < 5000; omega)
        rw [Nat.zero_add] at q
        rw [← q]
        unfold mf_X1_liveMinutes
        rw [zlet_ok, grI_id (M := zwI M1 59 0 y) (o := 17) (by rw [zwI_n (by decide)]; exact h17)]
        try rfl
      by_cases em : a 0 = 1000
      · have eg : gMn k (a 0) = 0 := by unfold gMn; rw [em, if_pos (by omega)]
        rw [eg] at p1
        obtain ⟨a2, x2, w1, w2, w3, w4, w5⟩ := cm_live hH 0 c a y hA hO (by omega)
        have p9 : mf_X1_liveMinutes gR 59 16 (nI k) y M1 = some (nI 0, zwI M1 59 0 y) := by
          unfold mf_X1_liveMinutes
          rw [zlet_ok]
          obtain ⟨f, hf⟩ : ∃ f, zF = f + 1 := ⟨4999, rfl⟩
          rw [hf]
          have e60 : (zwI M1 59 0 y).1 17 60 = nI (a 0) := by rw [zwI_n (by decide), h17]; exact eC_min
          rw [mf_X1_liveMinutes_l8]
          unfold mf_X3_minute
          rw [gLab_l.2.1]
          simp only [zl_lit]
          rw [if_neg (by rw [nI_leI (by omega) (by omega)]; omega), zald_nI (by omega) (by omega), e60, zcl_ok, if_pos (by rw [nI_leI (by omega) (by omega)]; omega)]
        have f2 : gF (19 :: 59 :: gIdA) [0, 26, 42] M (zwI (zwI M1 59 0 y) 89 0 (nI 0)) := gF.w9 (gF.wI (f1.mono (by decide) (by decide)) (by decide) (by decide)) (by decide)
        have f3 : gF [59, 35, 36, 37, 38, 39, 40, 41, 42, 43] [0] M (zwI (zwI M1 59 0 y) 89 0 (nI 0)) := gF.w9 (gF.wI (f1.mono (by decide) (by decide)) (by decide) (by decide)) (by decide)
        have f4 : gF [59] [0] M1 (zwI (zwI M1 59 0 y) 89 0 (nI 0)) := gF.w9 (gF.wI gF.r (by decide) (by decide)) (by decide)
        have hm2 : (zwI (zwI M1 59 0 y) 89 0 (nI 0)).1 91 = encM h a t := by rw [f3.1 91 (by decide) (by decide)]; exact hm
        refine ⟨nI 0, zwI M1 59 0 y, zwI (zwI M1 59 0 y) 89 0 (nI 0), a, sn, n, ?_, ?_, f2, gX.mono ⟨gW.fr f3 (by decide) X0.1, gPC.fr f4 (by decide) k1.pc, gPM.fr f3 (by decide) (by decide) P2, hn, hO, hS⟩ (by omega)⟩
        · simp only [zlet_ok, zl_lit]
          rw [if_neg (by rw [nI_ltI (by omega) (by omega)]; omega), if_pos (by rw [nI_leI (by omega) (by omega)]; omega), r0_8, r0_3, r0_11, e1, zcl_ok, p9, zcl_ok]
          unfold mf_X11_keptIfAny
          simp (disch := omega) only [zlet_ok, zcl_ok, zl_lit, zl_m1, nI_add, zald_nI, nI_ltE, nI_leE, nI_eqE, zm1_lt', zm1_le', zm1_nlt', zm1_nle', zm1_ne, zm1_ne', zm1_add1, gwI, grI_rI, zrI_s, zrI_n, zrI_L, gwL, grL_rL, zrL_s, zrL_n, zrL_I, Nat.zero_add, ↓reduceIte, if_true, if_false, gB_0, gB_1, gB_01, zchk_t, gB_1e, eq_self, gcle, gcnle, gclt, gcnlt, gcne, not_true_eq_false, not_false_eq_true, true_or, or_true, false_or, or_false, true_and, and_true, false_and, and_false, Nat.le_refl]
        · simp only [zlet_ok, zl_lit]
          rw [← grI_id hm2, m_isInY (by omega) (by omega) (by omega)]
          simp (disch := omega) only [zlet_ok, zcl_ok, zl_lit, zl_m1, nI_add, zald_nI, nI_ltE, nI_leE, nI_eqE, zm1_lt', zm1_le', zm1_nlt', zm1_nle', zm1_ne, zm1_ne', zm1_add1, gwI, grI_rI, zrI_s, zrI_n, zrI_L, gwL, grL_rL, zrL_s, zrL_n, zrL_I, Nat.zero_add, ↓reduceIte, if_true, if_false, gB_0, gB_1, gB_01, zchk_t, gB_1e, eq_self, gcle, gcnle, gclt, gcnlt, gcne, not_true_eq_false, not_false_eq_true, true_or, or_true, false_or, or_false, true_and, and_true, false_and, and_false, r89_14, eM_min, em]
      · have hg : 0 < gMn k (a 0) := by unfold gMn; split <;> omega
        have k2 : gPK a sn n (zrowI (zwI M1 59 0 x') 17 (eC a' (M.1 17))) := gPK.fr hn (by rw [zrI_n (by decide), zwI_n (by decide)]) (fun j hj => by rw [zrI_n (by omega), zwI_n (by omega)]) k1
        obtain ⟨M3, e3, f3, p3⟩ := c_keptAny (g := gMn k (a 0)) k2 hn hg (by omega)
        have f13 : gF [17, 19, 33, 35, 36, 37, 38, 39, 40, 41, 42, 43, 59] [] M M3 := gF.trans (gF.rI (gF.wI (f1.mono (by decide) (by decide)) (by decide) (by decide)) (by decide) (by decide)) (f3.mono (by decide) (by decide))
        have h173 : M3.1 17 = eC a' (M.1 17) := by rw [f3.1 17 (by decide) (by decide), zrI_s]
        have hm3 : (zwI M3 89 0 (nI 0)).1 91 = encM h a t := by rw [zwI_n (by decide), f13.1 91 (by decide) (by decide)]; exact hm
        have f14 : gF [17, 19, 33, 35, 36, 37, 38, 39, 40, 41, 42, 43, 59] [0] M (zwI M3 89 0 (nI 0)) := gF.w9 (f13.mono (by decide) (by decide)) (by decide)
        obtain ⟨M4, e4, f4, p4⟩ := m_snap (h := h) (a := a) (t := t) (gPM.fr f14 (by decide) (by decide) P2) hn
        have f5 : gF [94] [0, 26, 42] M3 (zwI M4 89 42 x') := gF.w9 (gF.trans (M1 := zwI M3 89 0 (nI 0)) (gF.w9 gF.r (by decide)) (f4.mono (by decide) (by decide))) (by decide)
        have p5 : gPM (gPush a sn) (gN8 n) (zwI M4 89 42 x') := gPM.fr (ids := []) (ks := [42]) (gF.w9 gF.r (by decide)) (by decide) (by decide) p4
        obtain ⟨z1, z2⟩ := gX_step (a' := a') (d := c + 60) X0 (by omega) d1 (d2.mono (by omega)) f13 h173 p3 f5 p5
        have q2 := d5 M4 t 0 zF (by omega) (by show _ < 5000; omega)
        rw [Nat.zero_add] at q2
        have e42 : zwI (zrowI M4 91 (encM h a t)) 89 42 y = zrowI (zwI M4 89 42 y) 91 (encM h a t) := gw_91
        refine ⟨nI (gMn k (a 0)), M3, _, a', gPush a sn, gN8 n, ?_, ?_, z1, z2⟩
        · simp only [zlet_ok, zl_lit]
          rw [if_neg (by rw [nI_ltI (by omega) (by omega)]; omega), if_pos (by rw [nI_leI (by omega) (by omega)]; omega), r0_8, r0_3, r0_11, e1, zcl_ok, p1, zcl_ok, e3, zcl_ok]
        · simp only [zlet_ok, zl_lit]
          rw [← grI_id hm3, m_isInY (by omega) (by omega) (by omega), zcl_ok, if_neg (by decide +kernel), zald_nI (by omega) (by omega), r89_14, zrI_s, eM_min, if_neg (by rw [nI_eq (by omega) (by omega)]; exact em), e4, zcl_ok]
          unfold mf_X12_drawMinutes
          simp only [zlet_ok, zl_lit]
          rw [e42, zald_nI (by omega) (by omega), r89_14, zrI_s, eM_min, m_least (by omega) o1, zcl_ok, q2, zcl_ok]
  · refine ⟨zm1, M, _, a, sn, n, ?_, ?_, fz, Xz⟩
    · rcases gOut1 (n := 60) (by omega) ho with e | ⟨e1, e2, e3⟩
      · simp (disch := omega) only [zlet_ok, zcl_ok, zl_lit, zl_m1, nI_add, zald_nI, nI_ltE, nI_leE, nI_eqE, zm1_lt', zm1_le', zm1_nlt', zm1_nle', zm1_ne, zm1_ne', zm1_add1, gwI, grI_rI, zrI_s, zrI_n, zrI_L, gwL, grL_rL, zrL_s, zrL_n, zrL_I, Nat.zero_add, ↓reduceIte, if_true, if_false, gB_0, gB_1, gB_01, zchk_t, gB_1e, eq_self, gcle, gcnle, gclt, gcnlt, gcne, not_true_eq_false, not_false_eq_true, true_or, or_true, false_or, or_false, true_and, and_true, false_and, and_false, e]
      · simp (disch := omega) only [zlet_ok, zcl_ok, zl_lit, zl_m1, nI_add, zald_nI, nI_ltE, nI_leE, nI_eqE, zm1_lt', zm1_le', zm1_nlt', zm1_nle', zm1_ne, zm1_ne', zm1_add1, gwI, grI_rI, zrI_s, zrI_n, zrI_L, gwL, grL_rL, zrL_s, zrL_n, zrL_I, Nat.zero_add, ↓reduceIte, if_true, if_false, gB_0, gB_1, gB_01, zchk_t, gB_1e, eq_self, gcle, gcnle, gclt, gcnlt, gcne, not_true_eq_false, not_false_eq_true, true_or, or_true, false_or, or_false, true_and, and_true, false_and, and_false, e1, e2]
    · simp only [zlet_ok, zl_lit]
      rw [m_isInO (n := 60) (by omega) ho, zcl_ok, if_pos rfl]
      try rfl
