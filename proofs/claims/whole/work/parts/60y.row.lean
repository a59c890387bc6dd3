/-! ORDER: one row -/
def gE1 (h : zN) : zN → Nat → List Nat → Option (zN × Nat × List Nat)
  | a, g, [] => some (a, g, [])
  | a, g, s :: l => if gCA h a s = 61 then none else (gE1 h (gSt h (gPass h (gCA h a s) a) s) (g + gCA h a s) l).map (fun r => (r.1, r.2.1, (g + gCA h a s) :: r.2.2))
def gDn (a : zN) (l : List Nat) : Bool := l.all (fun s => decide (a (8 + s) = 2))
def gLs (h a : zN) (l : List Nat) : Nat := gff (fun k => gDn (gPass h k a) l) 201 0
def gEr (h : zN) (l : List Nat) : Option (zN × Nat × List Nat) → Int32
  | none => zm1
  | some r => if gLs h r.1 l = 201 then zm1 else nI (r.2.1 + gLs h r.1 l)
theorem gCA_clr {h a : zN} {s : Nat} (e : gCA h a s ≠ 61) : gCA h a s < 61 ∧ gWhyS h (gPass h (gCA h a s) a) s = 0 := by
  have l1 := gff_le (fun k => gClr h (gPass h k a) s) 61 0
  have l2 : gCA h a s < 61 := by unfold gCA at e ⊢; omega
  have l3 := gff_p (p := fun k => gClr h (gPass h k a) s) (n := 61) (k := 0) (by unfold gCA at l2; omega)
  refine ⟨l2, ?_⟩
  have l4 : gClr h (gPass h (gCA h a s) a) s = true := l3
  unfold gClr at l4
  simp only [Bool.and_eq_true, decide_eq_true_eq] at l4
  exact l4.1
theorem gLs_le {h a : zN} {l : List Nat} : gLs h a l ≤ 201 := by
  have := gff_le (fun k => gDn (gPass h k a) l) 201 0
  unfold gLs; omega
/-- all of some are done -/
theorem gDn_bits {h a : zN} {l : List Nat} (h2 : h 2 ≤ 8) (hl : ∀ s, s ∈ l → s < h 2) : (nI (gTh h a 2) &&& nI (gbN (fun j => decide (j ∈ l)) 8) = nI (gbN (fun j => decide (j ∈ l)) 8)) = (gDn a l = true) := by
  have l1 := gbN_256 (p := fun j => decide (j ∈ l)) (Nat.le_refl 8)
  have l2 : gTh h a 2 &&& gbN (fun j => decide (j ∈ l)) 8 < 256 := Nat.lt_of_le_of_lt Nat.and_le_right l1
  rw [nI_and, nI_eqE (by omega) (by omega)]
  refine propext ⟨fun e => ?_, fun e => ?_⟩
  · unfold gDn
    rw [List.all_eq_true]
    intro s hs
    have hs2 := hl s hs
    have e2 := congrArg (fun x => x.testBit s) e
    simp only [Nat.testBit_and] at e2
    unfold gTh at e2
    rw [gbN_bit, gbN_bit, decide_eq_true hs2, decide_eq_true (show s < 8 by omega), decide_eq_true hs] at e2
    simpa using e2
  · unfold gDn at e
    rw [List.all_eq_true] at e
    refine gb_ext l2 l1 (fun k hk => ?_)
    rw [Nat.testBit_and]
    unfold gTh
    rw [gbN_bit, gbN_bit]
    by_cases hm : k ∈ l
    · have e3 := of_decide_eq_true (e k hm)
      have e4 := hl k hm
      simp [hm, hk, e3, e4]
    · simp [hm]
theorem c_end108 {h a : zN} {z : Nat → Int32} {l : List Nat} {g : Nat} (hH : gH h) (hA : gA h a) (hl : ∀ s, s ∈ l → s < h 2) (hg : g < 10000) {M : zMem} (hr : gRC h M) : ∃ M1, mf_X6_endOfRow_l108 gR 44 zF (nI g) (nI (gbN (fun j => decide (j ∈ l)) 8)) (nI 0) (zrowI M 54 (eC a z)) = some ((if gLs h a l = 201 then zm1 else nI (g + gLs h a l)), M1) ∧ gF [54] [] M M1 := by
  obtain ⟨k0, k1, k2, k3, k4, k5, kh, kl, ka, kp⟩ := id hH
  have lm := gLs_le (h := h) (a := a) (l := l)
  refine ⟨zrowI M 54 (eC (gPass h (gLs h a l) a) z), ?_, gF.rI gF.r (by decide) (by decide)⟩
  refine gfor (G := fun f i => mf_X6_endOfRow_l108 gR 44 f (nI g) (nI (gbN (fun j => decide (j ∈ l)) 8)) (nI i) (zrowI M 54 (eC (gPass h i a) z))) (n := gLs h a l) (fun f i hi => ?_) (fun f => ?_) _ (by first | (show _ < 5000; omega) | omega)
  · have hA1 := gA_pass hH (n := i) hA
    have hr1 : gRC h (zrowI M 54 (eC (gPass h i a) z)) := gRC.row (by decide) hr
    have e1 : gDn (gPass h i a) l = false := gff_n (p := fun k => gDn (gPass h k a) l) (n := 201) (k := 0) i (by omega) hi
    rw [mf_X6_endOfRow_l108]
    simp only [zl_lit]
    rw [if_neg (by rw [nI_ltI (by omega) (by omega)]; omega), r44_4, c_all (how := 2) gLab_s hr1 zrI_s hH hA1 (by omega), zcl_ok, if_neg (by rw [gDn_bits k2 hl, e1]; exact Bool.false_ne_true), c_passes (n := 1) gLab_s hr hH hA1 (by omega), zcl_ok, nI_add, show gPass h (i + 1) a = gMin h (gPass h i a) from gPass_s]
    exact Eq.refl _
  · by_cases e : gLs h a l = 201
    · rw [e, mf_X6_endOfRow_l108]
      simp only [zl_lit, zl_m1]
      rw [if_pos (by rw [nI_ltI (by omega) (by omega)]; omega), if_pos trivial]
    · have hA1 := gA_pass hH (n := gLs h a l) hA
      have hr1 : gRC h (zrowI M 54 (eC (gPass h (gLs h a l) a) z)) := gRC.row (by decide) hr
      have e1 : gDn (gPass h (gLs h a l) a) l = true := gff_p (p := fun k => gDn (gPass h k a) l) (n := 201) (k := 0) (by unfold gLs at e lm; omega)
      rw [mf_X6_endOfRow_l108]
      simp only [zl_lit]
      rw [if_neg (by rw [nI_ltI (by omega) (by omega)]; omega), r44_4, c_all (how := 2) gLab_s hr1 zrI_s hH hA1 (by omega), zcl_ok, if_pos (by rw [gDn_bits k2 hl, e1]), if_neg e, nI_add]
theorem gbN_ins {l : List Nat} {s : Nat} (hs : s < 8) : nI (gbN (fun j => decide (j ∈ l)) 8) ||| (nI 1 <<< (nI s &&& nI 31)) = nI (gbN (fun j => decide (j ∈ l ++ [s])) 8) := by
  rw [gset8 s hs _ (gbN_256 (Nat.le_refl 8)), gbN_setb (q := fun j => decide (j ∈ l ++ [s])) hs (fun k hk => by simp)]
theorem c_end17 {h : zN} {z : Nat → Int32} {l : List Nat} {zr : Nat → Int32} (hH : gH h) (hl : ∀ s, s ∈ l → s < h 2) (h3 : l.length ≤ 3) : ∀ (suf pre : List Nat) (a : zN) (g : Nat) (st : List Nat) (f : Nat) (M : zMem), l = pre ++ suf → gA h a → g ≤ 60 * pre.length → suf.length < f → gRC h M → M.1 54 = eC a z → M.1 44 7 = nI l.length → M.1 45 = gRw l zr → st.length = pre.length → (∀ j, j < pre.length → M.1 46 j = nI (st.getD j 0)) → ∃ M1, mf_X6_endOfRow_l17 gR 44 f (nI g) (nI (gbN (fun j => decide (j ∈ pre)) 8)) (nI pre.length) M = some (gEr h l (gE1 h a g suf), M1) ∧ gF [19, 46, 50, 52, 54] [] M M1 ∧ ∀ r, gE1 h a g suf = some r → ∀ j, j < l.length → M1.1 46 j = nI ((st ++ r.2.2).getD j 0)
  | [], pre, a, g, st, f, M, hpl, hA, hg, hf, hr, h54, h44, h45, hst, h46 => by
    match f, hf with
    | f + 1, _ =>
      rw [List.append_nil] at hpl
      subst hpl
      obtain ⟨M1, e1, e2⟩ := c_end108 (z := z) (l := l) (g := g) hH hA hl (by omega) hr
      rw [grI_id h54] at e1
      refine ⟨M1, ?_, e2.mono (by decide) (by decide), fun r hr2 j hj => ?_⟩
      · rw [mf_X6_endOfRow_l17, h44, if_pos (by rw [nI_leI (by omega) (by omega)]; omega)]
        exact e1
      · cases hr2
        rw [List.append_nil, e2.1 46 (by decide) (by decide)]
        exact h46 j hj
  | s :: suf, pre, a, g, st, f, M, hpl, hA, hg, hf, hr, h54, h44, h45, hst, h46 => by
    obtain ⟨k0, k1, k2, k3, k4, k5, kh, kl, ka, kp⟩ := id hH
    match f, hf with
    | f + 1, hf =>
      have hlen : l.length = pre.length + (suf.length + 1) := by rw [hpl, List.length_append]; rfl
      have hs : s < h 2 := hl s (by rw [hpl]; simp)
      have hs8 : s < 8 := by omega
      have ed : l.getD pre.length 0 = s := by
        rw [hpl, List.getD_eq_getElem?_getD, List.getElem?_append_right (Nat.le_refl _)]
        try simp
      obtain ⟨M1, e1, f1⟩ := c_soonest gLab_s hr h54 (by decide) hH hA hs
      have e0 : mf_X6_endOfRow_l17 gR 44 (f + 1) (nI g) (nI (gbN (fun j => decide (j ∈ pre)) 8)) (nI pre.length) M = (if enX 61 (gCA h a s) = zm1 then some (zm1, M1) else zcl (mf_X3_pass gR 53 (enX 61 (gCA h a s)) M1) fun _ M9 => zald 3 (nI pre.length) fun j11 => zcl (mf_X3_startSheet gR 53 (M9.1 45 j11) M9) fun r13 M12 => zlet ((nI g + enX 61 (gCA h a s)) : Int32) fun x14 => zald 3 (nI pre.length) fun j15 => zlet (zwI M12 46 j15 x14) fun M16 => zald 3 (nI pre.length) fun j17 => zlet ((nI (gbN (fun j => decide (j ∈ pre)) 8) ||| (nI 1 <<< ((M16.1 45 j17) &&& nI 31))) : Int32) fun x18 => mf_X6_endOfRow_l17 gR 44 f x14 x18 (nI pre.length + nI 1) M16) := by
        rw [mf_X6_endOfRow_l17]
        simp only [zl_lit, zl_m1]
        rw [h44, if_neg (by rw [nI_leI (by omega) (by omega)]; omega), if_neg (by rw [nI_leI (by omega) (by omega)]; omega), zald_nI (by omega) (by omega), r44_4, r44_5, r44_6, h45, gRw_i (by omega), ed, e1, zcl_ok]
      rw [e0]
      unfold gE1
      by_cases ec : gCA h a s = 61
      · rw [ec, show enX 61 61 = zm1 from if_pos rfl, if_pos rfl, if_pos rfl]
        exact ⟨M1, rfl, f1.mono (by decide) (by decide), fun r hr2 => by cases hr2⟩
      · obtain ⟨lc, hw⟩ := gCA_clr ec
        have ex : enX 61 (gCA h a s) = nI (gCA h a s) := enX_ne ec
        have hA1 := gA_pass hH (n := gCA h a s) hA
        have hA2 := (gA_st hH hA1 hs hw).1
        have hr1 := gRC.fr f1 (by decide) hr
        have h541 : M1.1 54 = eC a z := by rw [f1.1 54 (by decide) (by decide)]; exact h54
        have p1 := c_passes (n := gCA h a s) (z := z) gLab_s hr1 hH hA (by omega)
        rw [grI_id h541] at p1
        have hr2 : gRC h (zrowI M1 54 (eC (gPass h (gCA h a s) a) z)) := gRC.row (by decide) hr1
        have p2 := c_start gLab_s hr2 zrI_s hH hA1 hs
        rw [if_pos hw, grI_rI] at p2
        have h452 : ∀ E, (zrowI M1 54 E).1 45 pre.length = nI s := fun E => by rw [zrI_n (by decide), f1.1 45 (by decide) (by decide), h45, gRw_i (by omega), ed]
        have f2 : gF [19, 46, 50, 52, 54] [] M (zwI (zrowI M1 54 (eC (gSt h (gPass h (gCA h a s) a) s) z)) 46 pre.length (nI (g + gCA h a s))) := gF.wI (gF.rI (f1.mono (by decide) (by decide)) (by decide) (by decide)) (by decide) (by decide)
        obtain ⟨M2, w1, w2, w3⟩ := c_end17 (z := z) hH hl h3 suf (pre ++ [s]) (gSt h (gPass h (gCA h a s) a) s) (g + gCA h a s) (st ++ [g + gCA h a s]) f (zwI (zrowI M1 54 (eC (gSt h (gPass h (gCA h a s) a) s) z)) 46 pre.length (nI (g + gCA h a s))) (by rw [hpl, List.append_assoc]; rfl) hA2 (by rw [List.length_append]; show _ ≤ 60 * (pre.length + 1); omega) (by have : (s :: suf).length = suf.length + 1 := rfl; omega) (gRC.fr f2 (by decide) hr) (by rw [zwI_n (by decide), zrI_s]) (by rw [f2.1 44 (by decide) (by decide)]; exact h44) (by rw [f2.1 45 (by decide) (by decide)]; exact h45) (by rw [List.length_append, List.length_append, hst]; rfl) (fun j hj => by
          rw [List.length_append] at hj
          have hj2 : j < pre.length + 1 := hj
          rw [zwI_s]
          by_cases q : j = pre.length
          · rw [q, upd_s, ← hst, getD_last]
          · rw [upd_n q, getD_app (by omega), zrI_n (by decide), f1.1 46 (by decide) (by decide)]
            exact h46 j (by omega))
        rw [List.length_append] at w1
        have w1' : mf_X6_endOfRow_l17 gR 44 f (nI (g + gCA h a s)) (nI (gbN (fun j => decide (j ∈ pre ++ [s])) 8)) (nI (pre.length + 1)) (zwI (zrowI M1 54 (eC (gSt h (gPass h (gCA h a s) a) s) z)) 46 pre.length (nI (g + gCA h a s))) = some (gEr h l (gE1 h (gSt h (gPass h (gCA h a s) a) s) (g + gCA h a s) suf), M2) := w1
        refine ⟨M2, ?_, f2.trans w2, fun r hr3 j hj => ?_⟩
        · rw [if_neg ec, ex, if_neg (by rw [zm1_ne (by omega)]; exact id), p1, zcl_ok, zald_nI (by omega) (by omega), h452, p2, zcl_ok]
          simp only [zlet_ok]
          rw [zald_nI (by omega) (by omega), zald_nI (by omega) (by omega), nI_add, zwI_n (by decide), h452, gbN_ins hs8, nI_add, w1']
          congr 2
          cases gE1 h (gSt h (gPass h (gCA h a s) a) s) (g + gCA h a s) suf <;> rfl
        · rw [if_neg ec] at hr3
          cases hq : gE1 h (gSt h (gPass h (gCA h a s) a) s) (g + gCA h a s) suf with
          | none => rw [hq] at hr3; cases hr3
          | some q =>
            rw [hq] at hr3
            cases hr3
            have := w3 q hq j hj
            rw [List.append_assoc] at this
            exact this
/-! the reference -/
theorem m_areDone {h a : zN} {t : Nat → Int32} {l : List Nat} {M : zMem} (hH : gH h) (hA : gA h a) (hl : ∀ s, s ∈ l → s < h 2) (h3 : l.length ≤ 3) (h102 : ∀ j, j < l.length → M.1 102 j = nI (l.getD j 0)) : mf_X12_areDone gR 89 (nI l.length) (zrowI M 91 (encM h a t)) = some (gB (gDn a l), zrowI M 91 (encM h a t)) := by
  obtain ⟨k0, k1, k2, k3, k4, k5, kh, kl, ka, kp⟩ := id hH
  unfold mf_X12_areDone
  have hmem : ∀ j, j < l.length → l.getD j 0 ∈ l := fun j hj => by
    rw [List.getD_eq_getElem?_getD, List.getElem?_eq_getElem hj]
    exact List.getElem_mem hj
  have key : ∀ (m i f : Nat), i + m = l.length → m < f → mf_X12_areDone_l2 gR 89 f (nI l.length) (nI i) (zrowI M 91 (encM h a t)) = some (gB ((l.drop i).all (fun s => decide (a (8 + s) = 2))), zrowI M 91 (encM h a t)) := by
    intro m
    induction m with
    | zero =>
      intro i f hi hf
      match f, hf with
      | f + 1, _ =>
        rw [mf_X12_areDone_l2, if_pos (by rw [nI_leI (by omega) (by omega)]; omega), List.drop_eq_nil_of_le (by omega)]
        try rfl
    | succ m ih =>
      intro i f hi hf
      match f, hf with
      | f + 1, hf =>
        have hx := hl _ (hmem i (by omega))
        have p1 := (hA.2.2 (l.getD i 0) (by omega)).1
        have ed : l.drop i = l.getD i 0 :: l.drop (i + 1) := by
          rw [List.drop_eq_getElem_cons (by omega : i < l.length), List.getD_eq_getElem?_getD, List.getElem?_eq_getElem (by omega : i < l.length)]
          try rfl
        rw [mf_X12_areDone_l2]
        simp only [zl_lit]
        rw [if_neg (by rw [nI_leI (by omega) (by omega)]; omega), zald_nI (by omega) (by omega), r89_27, zrI_n (by decide), h102 i (by omega), nI_add, zald_nI (by omega) (by omega), r89_14, zrI_s, eM_how (by omega), ed, List.all_cons]
        by_cases e : a (8 + l.getD i 0) = 2
        · rw [e, if_pos rfl, nI_add, ih (i + 1) f (by omega) (by omega), decide_eq_true rfl, Bool.true_and]
        · rw [if_neg (by rw [nI_eq (by omega) (by omega)]; exact e), decide_eq_false e, Bool.false_and, gB_f]
  have := key l.length 0 zF (by omega) (by show _ < 5000; omega)
  exact this
theorem m_last59 {h a : zN} {t : Nat → Int32} {l : List Nat} {M : zMem} {g : Nat} (hH : gH h) (hA : gA h a) (hl : ∀ s, s ∈ l → s < h 2) (h3 : l.length ≤ 3) (hg : g < 10000) (h102 : ∀ j, j < l.length → M.1 102 j = nI (l.getD j 0)) : ∃ a', mf_X12_lastOf_l59 gR 89 zF (nI l.length) (nI g) (nI 0) (zrowI M 91 (encM h a t)) = some ((if gLs h a l = 201 then zm1 else nI (g + gLs h a l)), zrowI M 91 (encM h a' t)) := by
  have lm := gLs_le (h := h) (a := a) (l := l)
  refine ⟨gPass h (gLs h a l) a, ?_⟩
  refine gfor (G := fun f i => mf_X12_lastOf_l59 gR 89 f (nI l.length) (nI g) (nI i) (zrowI M 91 (encM h (gPass h i a) t))) (n := gLs h a l) (fun f i hi => ?_) (fun f => ?_) _ (by first | (show _ < 5000; omega) | omega)
  · have hA1 := gA_pass hH (n := i) hA
    have e1 : gDn (gPass h i a) l = false := gff_n (p := fun k => gDn (gPass h k a) l) (n := 201) (k := 0) i (by omega) hi
    rw [mf_X12_lastOf_l59]
    simp only [zl_lit]
    rw [if_neg (by rw [nI_ltI (by omega) (by omega)]; omega), m_areDone hH hA1 hl h3 h102, zcl_ok, e1, if_pos gB_f, m_oneMinute hH hA1, zcl_ok, nI_add, gPass_s]
  · by_cases e : gLs h a l = 201
    · rw [e, mf_X12_lastOf_l59]
      simp only [zl_lit, zl_m1]
      rw [if_pos (by rw [nI_ltI (by omega) (by omega)]; omega), if_pos trivial]
    · have hA1 := gA_pass hH (n := gLs h a l) hA
      have e1 : gDn (gPass h (gLs h a l) a) l = true := gff_p (p := fun k => gDn (gPass h k a) l) (n := 201) (k := 0) (by unfold gLs at e lm; omega)
      rw [mf_X12_lastOf_l59]
      simp only [zl_lit]
      rw [if_neg (by rw [nI_ltI (by omega) (by omega)]; omega), m_areDone hH hA1 hl h3 h102, zcl_ok, e1, if_neg (by decide +kernel), if_neg e, nI_add]
theorem m_last4 {h : zN} {t : Nat → Int32} {l : List Nat} (hH : gH h) (hl : ∀ s, s ∈ l → s < h 2) (h3 : l.length ≤ 3) : ∀ (suf pre : List Nat) (a : zN) (g : Nat) (st : List Nat) (f : Nat) (M : zMem), l = pre ++ suf → gA h a → g ≤ 60 * pre.length → suf.length < f → (∀ j, j < l.length → M.1 102 j = nI (l.getD j 0)) → st.length = pre.length → (∀ j, j < pre.length → M.1 103 j = nI (st.getD j 0)) → ∃ M1 a', mf_X12_lastOf_l4 gR 89 f (nI l.length) (nI g) (nI pre.length) (zrowI M 91 (encM h a t)) = some (gEr h l (gE1 h a g suf), zrowI M1 91 (encM h a' t)) ∧ gF [95, 103] [] M M1 ∧ ∀ r, gE1 h a g suf = some r → ∀ j, j < l.length → M1.1 103 j = nI ((st ++ r.2.2).getD j 0)
  | [], pre, a, g, st, f, M, hpl, hA, hg, hf, h102, hst, h103 => by
    match f, hf with
    | f + 1, _ =>
      rw [List.append_nil] at hpl
      subst hpl
      obtain ⟨a', e1⟩ := m_last59 (t := t) (g := g) hH hA hl h3 (by omega) h102
      refine ⟨M, a', ?_, gF.r, fun r hr2 j hj => ?_⟩
      · rw [mf_X12_lastOf_l4, if_pos (by rw [nI_leI (by omega) (by omega)]; omega)]
        exact e1
      · cases hr2
        rw [List.append_nil]
        exact h103 j hj
  | s :: suf, pre, a, g, st, f, M, hpl, hA, hg, hf, h102, hst, h103 => by
    obtain ⟨k0, k1, k2, k3, k4, k5, kh, kl, ka, kp⟩ := id hH
    match f, hf with
    | f + 1, hf =>
      have hlen : l.length = pre.length + (suf.length + 1) := by rw [hpl, List.length_append]; rfl
      have hs : s < h 2 := hl s (by rw [hpl]; simp)
      have hs8 : s < 8 := by omega
      have ed : l.getD pre.length 0 = s := by
        rw [hpl, List.getD_eq_getElem?_getD, List.getElem?_append_right (Nat.le_refl _)]
        try simp
      obtain ⟨g95, e1⟩ := m_waitFor (t := t) (M := M) hH hA hs
      have h102' := h102 pre.length (by omega)
      rw [ed] at h102'
      unfold gE1
      by_cases ec : gCA h a s = 61
      · rw [if_pos ec]
        refine ⟨zrowI M 95 g95, gPass h (gCA h a s) a, ?_, gF.rI gF.r (by decide) (by decide), fun r hr2 => by cases hr2⟩
        rw [mf_X12_lastOf_l4]
        simp only [zl_lit, zl_m1]
        rw [if_neg (by rw [nI_leI (by omega) (by omega)]; omega), zald_nI (by omega) (by omega), r89_27, zrI_n (by decide), h102', e1, zcl_ok, ec]
        exact if_pos rfl
      · obtain ⟨lc, hw⟩ := gCA_clr ec
        have ex : enX 61 (gCA h a s) = nI (gCA h a s) := enX_ne ec
        have hA1 := gA_pass hH (n := gCA h a s) hA
        obtain ⟨hA2, hA2'⟩ := gA_st hH hA1 hs hw
        have f2 : gF [95, 103] [] M (zwI (zrowI M 95 g95) 103 pre.length (nI (g + gCA h a s))) := gF.wI (gF.rI gF.r (by decide) (by decide)) (by decide) (by decide)
        obtain ⟨M2, a', w1, w2, w3⟩ := m_last4 (t := t) hH hl h3 suf (pre ++ [s]) (gSt h (gPass h (gCA h a s) a) s) (g + gCA h a s) (st ++ [g + gCA h a s]) f (zwI (zrowI M 95 g95) 103 pre.length (nI (g + gCA h a s))) (by rw [hpl, List.append_assoc]; rfl) hA2 (by rw [List.length_append]; show _ ≤ 60 * (pre.length + 1); omega) (by have : (s :: suf).length = suf.length + 1 := rfl; omega) (fun j hj => by rw [f2.1 102 (by decide) (by decide)]; exact h102 j hj) (by rw [List.length_append, List.length_append, hst]; rfl) (fun j hj => by
          rw [List.length_append] at hj
          have hj2 : j < pre.length + 1 := hj
          rw [zwI_s]
          by_cases q : j = pre.length
          · rw [q, upd_s, ← hst, getD_last]
          · rw [upd_n q, getD_app (by omega), zrI_n (by decide)]
            exact h103 j (by omega))
        rw [List.length_append] at w1
        have w1' : mf_X12_lastOf_l4 gR 89 f (nI l.length) (nI (g + gCA h a s)) (nI (pre.length + 1)) (zrowI (zwI (zrowI M 95 g95) 103 pre.length (nI (g + gCA h a s))) 91 (encM h (gSt h (gPass h (gCA h a s) a) s) t)) = some (gEr h l (gE1 h (gSt h (gPass h (gCA h a s) a) s) (g + gCA h a s) suf), zrowI M2 91 (encM h a' t)) := w1
        have ew : ∀ E, zwI (zrowI (zrowI M 95 g95) 91 E) 103 pre.length (nI (g + gCA h a s)) = zrowI (zwI (zrowI M 95 g95) 103 pre.length (nI (g + gCA h a s))) 91 E := fun E => by
          rw [gwI, gwI, zrI_n (by decide), grI_comm (o := 91) (by decide)]
        refine ⟨M2, a', ?_, f2.trans w2, fun r hr3 j hj => ?_⟩
        · rw [mf_X12_lastOf_l4]
          simp only [zl_lit, zl_m1, zlet_ok]
          rw [if_neg (by rw [nI_leI (by omega) (by omega)]; omega), zald_nI (by omega) (by omega), r89_27, zrI_n (by decide), h102', e1, zcl_ok, ex, if_neg (by rw [zm1_ne (by omega)]; exact id), zald_nI (by omega) (by omega), zald_nI (by omega) (by omega), r89_28, nI_add, ew, zrI_n (by decide), zwI_n (by decide), zrI_n (by decide), h102', m_starts hH hA2' hs, zcl_ok, nI_add, w1', if_neg ec]
          congr 2
          cases gE1 h (gSt h (gPass h (gCA h a s) a) s) (g + gCA h a s) suf <;> rfl
        · rw [if_neg ec] at hr3
          cases hq : gE1 h (gSt h (gPass h (gCA h a s) a) s) (g + gCA h a s) suf with
          | none => rw [hq] at hr3; cases hr3
          | some q =>
            rw [hq] at hr3
            cases hr3
            have := w3 q hq j hj
            rw [List.append_assoc] at this
            exact this
