/-! WHAT CAN BE UNDONE -/
def enS (a : zN) (k : Nat) : Int32 := if 16 ≤ k ∧ k < 24 then enI (a k) else nI (a k)
theorem encM_S {h a : zN} {t : Nat → Int32} {k : Nat} (hk : k < 56) : encM h a t (56 + k) = enS a k := by
  unfold enS
  by_cases e : 16 ≤ k ∧ k < 24
  · rw [if_pos e]
    obtain ⟨s, rfl⟩ : ∃ s, k = 16 + s := ⟨k - 16, by omega⟩
    rw [show 56 + (16 + s) = 72 + s by omega, eM_in (by omega)]
  · rw [if_neg e, eM_a (by omega)]
def gPC (sn : Nat → zN) (n : Nat) (M : zMem) : Prop := ∃ nx, nx < 9 ∧ M.1 33 1 = nI nx ∧ M.1 33 2 = nI n ∧ ∀ i, i < n → ∃ z, M.1 (35 + (nx + 8 - i) % 9) = eC (sn i) z
def gPM (sn : Nat → zN) (n : Nat) (M : zMem) : Prop := M.1 89 26 = nI n ∧ ∀ i, i < n → ∀ k, k < 56 → M.1 94 (56 * (n - 1 - i) + k) = enS (sn i) k
def gPush (a : zN) (sn : Nat → zN) : Nat → zN := fun i => if i = 0 then a else sn (i - 1)
def gN8 (n : Nat) : Nat := if n = 8 then 8 else n + 1
theorem r34 : ∀ j, j < 9 → zrf gR 34 j = 35 + j := by decide +kernel
theorem gPC.fr {sn : Nat → zN} {n : Nat} {M M1 : zMem} {ids ks : List Nat} (hf : gF ids ks M M1) (hi : ∀ o ∈ [33, 35, 36, 37, 38, 39, 40, 41, 42, 43], o ∉ ids) (P : gPC sn n M) : gPC sn n M1 := by
  obtain ⟨nx, h1, h2, h3, h4⟩ := P
  refine ⟨nx, h1, ?_, ?_, fun i hi2 => ?_⟩
  · rw [hf.1 33 (hi 33 (by decide)) (by decide)]; exact h2
  · rw [hf.1 33 (hi 33 (by decide)) (by decide)]; exact h3
  · have hl : (nx + 8 - i) % 9 < 9 := Nat.mod_lt _ (by decide)
    obtain ⟨z, hz⟩ := h4 i hi2
    refine ⟨z, ?_⟩
    rw [hf.1 _ (hi _ ?_) (by omega)]
    · exact hz
    · revert hl
      generalize (nx + 8 - i) % 9 = j
      intro hl
      rcases (show j = 0 ∨ j = 1 ∨ j = 2 ∨ j = 3 ∨ j = 4 ∨ j = 5 ∨ j = 6 ∨ j = 7 ∨ j = 8 by omega) with rfl | rfl | rfl | rfl | rfl | rfl | rfl | rfl | rfl <;> decide
theorem gPM.fr {sn : Nat → zN} {n : Nat} {M M1 : zMem} {ids ks : List Nat} (hf : gF ids ks M M1) (hi : 94 ∉ ids) (hk : 26 ∉ ks) (P : gPM sn n M) : gPM sn n M1 := by
  refine ⟨?_, fun i hi2 k hk2 => ?_⟩
  · rw [hf.2.2 26 hk]; exact P.1
  · rw [hf.1 94 hi (by decide)]; exact P.2 i hi2 k hk2
theorem c_put {a : zN} {z : Nat → Int32} {M : zMem} {c : Nat} (hc : M.1 17 = eC a z) : mf_X3_putInto gR 16 c M = some ((), zrowI M c (eC a (M.1 c))) := by
  unfold mf_X3_putInto eC at *
  simp (disch := omega) only [zlet_ok, zcl_ok, zl_lit, zl_m1, nI_add, zald_nI, nI_ltE, nI_leE, nI_eqE, zm1_lt', zm1_le', zm1_nlt', zm1_nle', zm1_ne, zm1_ne', zm1_add1, gwI, grI_rI, zrI_s, zrI_n, zrI_L, gwL, grL_rL, zrL_s, zrL_n, zrL_I, Nat.zero_add, ↓reduceIte, if_true, if_false, gB_0, gB_1, gB_01, zchk_t, gB_1e, eq_self, gcle, gcnle, gclt, gcnlt, gcne, not_true_eq_false, not_false_eq_true, true_or, or_true, false_or, or_false, true_and, and_true, false_and, and_false, gLab_l.2.1, hc, Nat.lt_irrefl, cpy62]
theorem c_takeFrom {a : zN} {z : Nat → Int32} {M : zMem} {c : Nat} (hc : M.1 c = eC a z) : mf_X3_takeFrom gR 16 c M = some ((), zrowI M 17 (eC a (M.1 17))) := by
  unfold mf_X3_takeFrom eC at *
  simp (disch := omega) only [zlet_ok, zcl_ok, zl_lit, zl_m1, nI_add, zald_nI, nI_ltE, nI_leE, nI_eqE, zm1_lt', zm1_le', zm1_nlt', zm1_nle', zm1_ne, zm1_ne', zm1_add1, gwI, grI_rI, zrI_s, zrI_n, zrI_L, gwL, grL_rL, zrL_s, zrL_n, zrL_I, Nat.zero_add, ↓reduceIte, if_true, if_false, gB_0, gB_1, gB_01, zchk_t, gB_1e, eq_self, gcle, gcnle, gclt, gcnlt, gcne, not_true_eq_false, not_false_eq_true, true_or, or_true, false_or, or_false, true_and, and_true, false_and, and_false, gLab_l.2.1, hc, Nat.lt_irrefl, cpy62]
/-- the class's acts: marked, done, kept -/
theorem c_marked {h a a' : zN} {z : Nat → Int32} {M : zMem} {sn : Nat → zN} {n w : Nat} {op : zMem → Option (Int32 × zMem)} (hr : gRC h M) (hc : M.1 17 = eC a z) (P : gPC sn n M) (hn : n ≤ 8) (hw : w < 100) (hop : ∀ M', gRC h M' → M'.1 17 = eC a z → op M' = if w = 0 then some (nI 0, zrowI M' 17 (eC a' z)) else some (nI w, M')) : ∃ M1, (zcl (mf_X5_mark gR 33 16 M) fun _ M1 => zcl (op M1) fun r4 M3 => zcl (mf_X11_keptIfDone gR 0 r4 M3) fun r6 M5 => some (r6, M5)) = some (nI w, M1) ∧ gF [17, 33, 35, 36, 37, 38, 39, 40, 41, 42, 43] [] M M1 ∧ (w = 0 → M1.1 17 = eC a' z ∧ gPC (gPush a sn) (gN8 n) M1) ∧ (w ≠ 0 → M1.1 17 = eC a z ∧ gPC sn n M1) := by
  obtain ⟨nx, h1, h2, h3, h4⟩ := P
  have hm : 35 + nx ∈ [17, 33, 35, 36, 37, 38, 39, 40, 41, 42, 43] := by
    rcases (show nx = 0 ∨ nx = 1 ∨ nx = 2 ∨ nx = 3 ∨ nx = 4 ∨ nx = 5 ∨ nx = 6 ∨ nx = 7 ∨ nx = 8 by omega) with rfl | rfl | rfl | rfl | rfl | rfl | rfl | rfl | rfl <;> decide
  have f1 : gF [17, 33, 35, 36, 37, 38, 39, 40, 41, 42, 43] [] M (zrowI M (35 + nx) (eC a (M.1 (35 + nx)))) := gF.rI gF.r hm (by omega)
  have e1 : mf_X5_mark gR 33 16 M = some ((), zrowI M (35 + nx) (eC a (M.1 (35 + nx)))) := by
    unfold mf_X5_mark
    simp (disch := omega) only [zlet_ok, zcl_ok, zl_lit, zl_m1, nI_add, zald_nI, nI_ltE, nI_leE, nI_eqE, zm1_lt', zm1_le', zm1_nlt', zm1_nle', zm1_ne, zm1_ne', zm1_add1, gwI, grI_rI, zrI_s, zrI_n, zrI_L, gwL, grL_rL, zrL_s, zrL_n, zrL_I, Nat.zero_add, ↓reduceIte, if_true, if_false, gB_0, gB_1, gB_01, zchk_t, gB_1e, eq_self, gcle, gcnle, gclt, gcnlt, gcne, not_true_eq_false, not_false_eq_true, true_or, or_true, false_or, or_false, true_and, and_true, false_and, and_false, r33_0, h2, r34, c_put hc]
  have hr1 : gRC h (zrowI M (35 + nx) (eC a (M.1 (35 + nx)))) := gRC.row (by omega) hr
  have e2 := hop (zrowI M (35 + nx) (eC a (M.1 (35 + nx)))) hr1 (by rw [zrI_n (by omega)]; exact hc)
  rw [e1, zcl_ok, e2]
  by_cases ew : w = 0
  · subst ew
    have en : (zrowI (zrowI M (35 + nx) (eC a (M.1 (35 + nx)))) 17 (eC a' z)).1 33 = M.1 33 := by rw [zrI_n (by decide), zrI_n (by omega)]
    refine ⟨zrowI (zrowI (zrowI M (35 + nx) (eC a (M.1 (35 + nx)))) 17 (eC a' z)) 33 (upd (upd (M.1 33) 1 (nI ((nx + 1) % 9))) 2 (nI (gN8 n))), ?_, gF.rI (gF.rI f1 (by decide) (by decide)) (by decide) (by decide), fun _ => ⟨?_, (nx + 1) % 9, Nat.mod_lt _ (by decide), ?_, ?_, fun i hi => ?_⟩, fun q => absurd rfl q⟩
    · unfold gN8
      by_cases e9 : nx = 8
      · subst e9
        by_cases e8 : n = 8
        · simp (disch := omega) only [zlet_ok, zcl_ok, zl_lit, zl_m1, nI_add, zald_nI, nI_ltE, nI_leE, nI_eqE, zm1_lt', zm1_le', zm1_nlt', zm1_nle', zm1_ne, zm1_ne', zm1_add1, gwI, grI_rI, zrI_s, zrI_n, zrI_L, gwL, grL_rL, zrL_s, zrL_n, zrL_I, Nat.zero_add, ↓reduceIte, if_true, if_false, gB_0, gB_1, gB_01, zchk_t, gB_1e, eq_self, gcle, gcnle, gclt, gcnlt, gcne, not_true_eq_false, not_false_eq_true, true_or, or_true, false_or, or_false, true_and, and_true, false_and, and_false, mf_X11_keptIfDone, r0_8, mf_X5_keepMarked, mf_X5_keepMarked_b22, en, h2, upd_n, h3, e8]
        · simp (disch := omega) only [zlet_ok, zcl_ok, zl_lit, zl_m1, nI_add, zald_nI, nI_ltE, nI_leE, nI_eqE, zm1_lt', zm1_le', zm1_nlt', zm1_nle', zm1_ne, zm1_ne', zm1_add1, gwI, grI_rI, zrI_s, zrI_n, zrI_L, gwL, grL_rL, zrL_s, zrL_n, zrL_I, Nat.zero_add, ↓reduceIte, if_true, if_false, gB_0, gB_1, gB_01, zchk_t, gB_1e, eq_self, gcle, gcnle, gclt, gcnlt, gcne, not_true_eq_false, not_false_eq_true, true_or, or_true, false_or, or_false, true_and, and_true, false_and, and_false, mf_X11_keptIfDone, r0_8, mf_X5_keepMarked, mf_X5_keepMarked_b22, en, h2, upd_n, h3, e8]
      · have e10 : (nx + 1) % 9 = nx + 1 := Nat.mod_eq_of_lt (by omega)
        by_cases e8 : n = 8
        · simp (disch := omega) only [zlet_ok, zcl_ok, zl_lit, zl_m1, nI_add, zald_nI, nI_ltE, nI_leE, nI_eqE, zm1_lt', zm1_le', zm1_nlt', zm1_nle', zm1_ne, zm1_ne', zm1_add1, gwI, grI_rI, zrI_s, zrI_n, zrI_L, gwL, grL_rL, zrL_s, zrL_n, zrL_I, Nat.zero_add, ↓reduceIte, if_true, if_false, gB_0, gB_1, gB_01, zchk_t, gB_1e, eq_self, gcle, gcnle, gclt, gcnlt, gcne, not_true_eq_false, not_false_eq_true, true_or, or_true, false_or, or_false, true_and, and_true, false_and, and_false, mf_X11_keptIfDone, r0_8, mf_X5_keepMarked, mf_X5_keepMarked_b22, en, h2, upd_n, h3, e8, e10]
        · simp (disch := omega) only [zlet_ok, zcl_ok, zl_lit, zl_m1, nI_add, zald_nI, nI_ltE, nI_leE, nI_eqE, zm1_lt', zm1_le', zm1_nlt', zm1_nle', zm1_ne, zm1_ne', zm1_add1, gwI, grI_rI, zrI_s, zrI_n, zrI_L, gwL, grL_rL, zrL_s, zrL_n, zrL_I, Nat.zero_add, ↓reduceIte, if_true, if_false, gB_0, gB_1, gB_01, zchk_t, gB_1e, eq_self, gcle, gcnle, gclt, gcnlt, gcne, not_true_eq_false, not_false_eq_true, true_or, or_true, false_or, or_false, true_and, and_true, false_and, and_false, mf_X11_keptIfDone, r0_8, mf_X5_keepMarked, mf_X5_keepMarked_b22, en, h2, upd_n, h3, e8, e10]
    · rw [zrI_n (by decide), zrI_s]
    · rw [zrI_s, upd_n (by decide), upd_s]
    · rw [zrI_s, upd_s]
    · unfold gPush
      have hi8 : i < n + 1 ∧ i < 8 := by unfold gN8 at hi; split at hi <;> omega
      by_cases e0 : i = 0
      · subst e0
        refine ⟨M.1 (35 + nx), ?_⟩
        rw [show 35 + ((nx + 1) % 9 + 8 - 0) % 9 = 35 + nx by omega, zrI_n (by omega), zrI_n (by omega), zrI_s, if_pos rfl]
      · obtain ⟨z', hz'⟩ := h4 (i - 1) (by omega)
        refine ⟨z', ?_⟩
        rw [show 35 + ((nx + 1) % 9 + 8 - i) % 9 = 35 + (nx + 8 - (i - 1)) % 9 by omega, zrI_n (by omega), zrI_n (by omega), zrI_n (by omega), if_neg e0]
        exact hz'
  · rw [if_neg ew]
    refine ⟨zrowI M (35 + nx) (eC a (M.1 (35 + nx))), ?_, f1, fun q => absurd q ew, fun _ => ⟨by rw [zrI_n (by omega)]; exact hc, nx, h1, by rw [zrI_n (by omega)]; exact h2, by rw [zrI_n (by omega)]; exact h3, fun i hi => ?_⟩⟩
    · simp (disch := omega) only [zlet_ok, zcl_ok, zl_lit, zl_m1, nI_add, zald_nI, nI_ltE, nI_leE, nI_eqE, zm1_lt', zm1_le', zm1_nlt', zm1_nle', zm1_ne, zm1_ne', zm1_add1, gwI, grI_rI, zrI_s, zrI_n, zrI_L, gwL, grL_rL, zrL_s, zrL_n, zrL_I, Nat.zero_add, ↓reduceIte, if_true, if_false, gB_0, gB_1, gB_01, zchk_t, gB_1e, eq_self, gcle, gcnle, gclt, gcnlt, gcne, not_true_eq_false, not_false_eq_true, true_or, or_true, false_or, or_false, true_and, and_true, false_and, and_false, mf_X11_keptIfDone, ew]
    · obtain ⟨z', hz'⟩ := h4 i hi
      refine ⟨z', ?_⟩
      rw [zrI_n (by omega)]
      exact hz'
/-! the reference's row of them -/
theorem gw_91 {M : zMem} {E : Nat → Int32} {k : Nat} {v : Int32} : zwI (zrowI M 91 E) 89 k v = zrowI (zwI M 89 k v) 91 E := by
  rw [gwI, gwI, zrI_n (by decide), grI_comm (by decide)]
def gsh (r : Nat → Int32) (i : Nat) : Nat → Int32 := fun j => if j < i then r (j + 56) else r j
theorem gsh_s {r : Nat → Int32} {i : Nat} : upd (gsh r i) i (r (i + 56)) = gsh r (i + 1) := by
  funext j
  unfold upd gsh
  by_cases e : j = i
  · rw [if_pos e, if_pos (by omega), e]
  · rw [if_neg e]
    by_cases e2 : j < i
    · rw [if_pos e2, if_pos (by omega)]
    · rw [if_neg e2, if_neg (by omega)]
theorem gsh_r {r : Nat → Int32} {i : Nat} : gsh r i (i + 56) = r (i + 56) := by
  unfold gsh; rw [if_neg (by omega)]
theorem gsh_0 {r : Nat → Int32} : gsh r 0 = r := by
  funext j
  unfold gsh; rw [if_neg (by omega)]
theorem m_snap49 {h a : zN} {t : Nat → Int32} {M : zMem} {n : Nat} (h1 : M.1 89 26 = nI n) (hn : n < 8) : mf_X12_snap_b49 gR 89 (zrowI M 91 (encM h a t)) = some ((), zrowI (zwI (zrowI M 94 (gsv (encM h a t) (M.1 94) (56 * n) 56)) 89 26 (nI (n + 1))) 91 (encM h a t)) := by
  have e1 : (zrowI M 91 (encM h a t)).1 89 26 = nI n := by rw [zrI_n (by decide)]; exact h1
  have e2 : (zrowI (zrowI M 94 (gsv (encM h a t) (M.1 94) (56 * n) 56)) 91 (encM h a t)).1 89 26 = nI n := by rw [zrI_n (by decide), zrI_n (by decide)]; exact h1
  unfold mf_X12_snap_b49
  simp only [zl_lit]
  rw [e1, r89_17, nI_mulE, m_save (by decide) (by omega) (by decide), zcl_ok, e2, nI_add, zlet_ok, gw_91]
theorem m_snap {h a : zN} {t : Nat → Int32} {M : zMem} {sn : Nat → zN} {n : Nat} (P : gPM sn n M) (hn : n ≤ 8) : ∃ M1, mf_X12_snap gR 89 (zrowI M 91 (encM h a t)) = some ((), zrowI M1 91 (encM h a t)) ∧ gF [94] [26] M M1 ∧ gPM (gPush a sn) (gN8 n) M1 := by
  obtain ⟨h1, h2⟩ := P
  have e1 : (zrowI M 91 (encM h a t)).1 89 26 = nI n := by rw [zrI_n (by decide)]; exact h1
  unfold mf_X12_snap gN8
  by_cases e8 : n = 8
  · subst e8
    have key : mf_X12_snap_l11 gR 89 zF (nI 0) (zrowI M 91 (encM h a t)) = mf_X12_snap_b49 gR 89 (zrowI (zwI (zrowI M 94 (gsh (M.1 94) 392)) 89 26 (nI 7)) 91 (encM h a t)) := by
      have e0 : zrowI M 91 (encM h a t) = zrowI (zrowI M 94 (gsh (M.1 94) 0)) 91 (encM h a t) := by rw [gsh_0, grI_id rfl]
      rw [e0]
      refine gfor (G := fun f i => mf_X12_snap_l11 gR 89 f (nI i) (zrowI (zrowI M 94 (gsh (M.1 94) i)) 91 (encM h a t))) (n := 392) (fun f i hi => ?_) (fun f => ?_) _ (by first | (show _ < 5000; omega) | omega)
      · simp (disch := omega) only [zlet_ok, zcl_ok, zl_lit, zl_m1, nI_add, zald_nI, nI_ltE, nI_leE, nI_eqE, zm1_lt', zm1_le', zm1_nlt', zm1_nle', zm1_ne, zm1_ne', zm1_add1, gwI, grI_rI, zrI_s, zrI_n, zrI_L, gwL, grL_rL, zrL_s, zrL_n, zrL_I, Nat.zero_add, ↓reduceIte, if_true, if_false, gB_0, gB_1, gB_01, zchk_t, gB_1e, eq_self, gcle, gcnle, gclt, gcnlt, gcne, not_true_eq_false, not_false_eq_true, true_or, or_true, false_or, or_false, true_and, and_true, false_and, and_false, mf_X12_snap_l11, r89_17, gsh_r, grI_sw, gsh_s]
      · have e3 : (zrowI (zrowI M 94 (gsh (M.1 94) 392)) 91 (encM h a t)).1 89 26 = nI 8 := by rw [zrI_n (by decide), zrI_n (by decide)]; exact h1
        rw [mf_X12_snap_l11]
        simp only [zl_lit, zlet_ok]
        rw [if_pos (by rw [nI_leI (by omega) (by omega)]; omega), e3, gw_91, nI_subE (by decide)]
    have h3 : (zwI (zrowI M 94 (gsh (M.1 94) 392)) 89 26 (nI 7)).1 89 26 = nI 7 := by rw [zwI_s, upd_s]
    have h4 : (zwI (zrowI M 94 (gsh (M.1 94) 392)) 89 26 (nI 7)).1 94 = gsh (M.1 94) 392 := by rw [zwI_n (by decide), zrI_s]
    have key2 := m_snap49 (h := h) (a := a) (t := t) h3 (by decide)
    rw [h4] at key2
    refine ⟨zwI (zrowI (zwI (zrowI M 94 (gsh (M.1 94) 392)) 89 26 (nI 7)) 94 (gsv (encM h a t) (gsh (M.1 94) 392) (56 * 7) 56)) 89 26 (nI (7 + 1)), ?_, ?_, ?_, ?_⟩
    · simp only [zl_lit]
      rw [e1, if_pos rfl, key, key2]
    · exact gF.w9 (gF.rI (gF.w9 (gF.rI gF.r (by decide) (by decide)) (by decide)) (by decide) (by decide)) (by decide)
    · rw [zwI_s, upd_s, if_pos rfl]
    · intro i hi k hk
      rw [zwI_n (by decide), zrI_s, if_pos rfl]
      rw [if_pos rfl] at hi
      unfold gPush
      by_cases e0 : i = 0
      · subst e0
        rw [if_pos rfl, show 56 * (8 - 1 - 0) + k = 56 * 7 + k by omega, gsv_in hk, encM_S hk]
      · rw [if_neg e0, gsv_out (by omega)]
        unfold gsh
        rw [if_pos (by omega), show 56 * (8 - 1 - i) + k + 56 = 56 * (8 - 1 - (i - 1)) + k by omega]
        exact h2 (i - 1) (by omega) k hk
  · have key2 := m_snap49 (h := h) (a := a) (t := t) h1 (by omega)
    refine ⟨zwI (zrowI M 94 (gsv (encM h a t) (M.1 94) (56 * n) 56)) 89 26 (nI (n + 1)), ?_, ?_, ?_, ?_⟩
    · simp only [zl_lit]
      rw [e1, if_neg (by rw [nI_eq (by omega) (by omega)]; exact e8), key2]
    · exact gF.w9 (gF.rI gF.r (by decide) (by decide)) (by decide)
    · rw [zwI_s, upd_s, if_neg e8]
    · intro i hi k hk
      rw [zwI_n (by decide), zrI_s, if_neg e8]
      rw [if_neg e8] at hi
      unfold gPush
      by_cases e0 : i = 0
      · subst e0
        rw [if_pos rfl, show 56 * (n + 1 - 1 - 0) + k = 56 * n + k by omega, gsv_in hk, encM_S hk]
      · rw [if_neg e0, gsv_out (by omega), show 56 * (n + 1 - 1 - i) + k = 56 * (n - 1 - (i - 1)) + k by omega]
        exact h2 (i - 1) (by omega) k hk
theorem gWhy_le {h a : zN} {k x : Nat} : gWhy h a k x ≤ 3 := by
  unfold gWhy gWhyS gWhyR
  split
  · split
    · split
      · omega
      · split <;> omega
    · omega
  · split
    · split <;> omega
    · split
      · split <;> omega
      · split
        · omega
        · split
          · omega
          · split <;> omega
theorem m_act {h a : zN} {t : Nat → Int32} {M : zMem} {sn : Nat → zN} {n k x : Nat} (hH : gH h) (hA : gA h a) (P : gPM sn n M) (hn : n ≤ 8) (hk : k ≤ 3) (hv : gVal h k x) : ∃ M1, mf_X12_act gR 89 (nI k) (nI x) (nI 1) (zrowI M 91 (encM h a t)) = some (nI (gWhy h a k x), zrowI M1 91 (encM h (if gWhy h a k x = 0 then gLive h a k x else a) t)) ∧ gF [94] [26] M M1 ∧ (gWhy h a k x = 0 → gPM (gPush a sn) (gN8 n) M1) ∧ (gWhy h a k x ≠ 0 → gPM sn n M1) := by
  have lw := gWhy_le (h := h) (a := a) (k := k) (x := x)
  by_cases hw : gWhy h a k x = 0
  · obtain ⟨M1, e1, e2, e3⟩ := m_snap (h := h) (a := a) (t := t) P hn
    refine ⟨M1, ?_, e2, fun _ => e3, fun q => absurd hw q⟩
    unfold mf_X12_act
    simp (disch := omega) only [zlet_ok, zcl_ok, zl_lit, zl_m1, nI_add, zald_nI, nI_ltE, nI_leE, nI_eqE, zm1_lt', zm1_le', zm1_nlt', zm1_nle', zm1_ne, zm1_ne', zm1_add1, gwI, grI_rI, zrI_s, zrI_n, zrI_L, gwL, grL_rL, zrL_s, zrL_n, zrL_I, Nat.zero_add, ↓reduceIte, if_true, if_false, gB_0, gB_1, gB_01, zchk_t, gB_1e, eq_self, gcle, gcnle, gclt, gcnlt, gcne, not_true_eq_false, not_false_eq_true, true_or, or_true, false_or, or_false, true_and, and_true, false_and, and_false, m_why hH hA hk hv, hw, e1, m_live hH hA hk hv hw]
  · refine ⟨M, ?_, gF.r, fun q => absurd q hw, fun _ => P⟩
    unfold mf_X12_act
    simp (disch := omega) only [zlet_ok, zcl_ok, zl_lit, zl_m1, nI_add, zald_nI, nI_ltE, nI_leE, nI_eqE, zm1_lt', zm1_le', zm1_nlt', zm1_nle', zm1_ne, zm1_ne', zm1_add1, gwI, grI_rI, zrI_s, zrI_n, zrI_L, gwL, grL_rL, zrL_s, zrL_n, zrL_I, Nat.zero_add, ↓reduceIte, if_true, if_false, gB_0, gB_1, gB_01, zchk_t, gB_1e, eq_self, gcle, gcnle, gclt, gcnlt, gcne, not_true_eq_false, not_false_eq_true, true_or, or_true, false_or, or_false, true_and, and_true, false_and, and_false, m_why hH hA hk hv, hw]
