/-! ORDER: the call -/
theorem gO1_b : ((List.range 8).all fun a => decide (gIt 6 [a] = gEn 8 1 (fun j => decide (j ∈ [a])) [] ∧ gct (fun j => decide (j ∈ [a])) 8 = 1)) = true := by decide +kernel
theorem gO2_b : ((List.range 8).all fun a => (List.range 8).all fun b => !(decide (a < b)) || decide (gIt 6 [a, b] = gEn 8 2 (fun j => decide (j ∈ [a, b])) [] ∧ gct (fun j => decide (j ∈ [a, b])) 8 = 2)) = true := by decide +kernel
theorem gO3_b : ((List.range 8).all fun a => (List.range 8).all fun b => (List.range 8).all fun c => !(decide (a < b) && decide (b < c)) || decide (gIt 6 [a, b, c] = gEn 8 3 (fun j => decide (j ∈ [a, b, c])) [] ∧ gct (fun j => decide (j ∈ [a, b, c])) 8 = 3)) = true := by decide +kernel
theorem gO_all {L : List Nat} {n : Nat} (hn : L.length = n) (h0 : 0 < n) (h3 : n ≤ 3) (hs : gSo L) (ha : gAll (fun v => v < 8) L) : gIt 6 L = gEn 8 n (fun j => decide (j ∈ L)) [] ∧ gct (fun j => decide (j ∈ L)) 8 = n := by
  match L, hn with
  | [], hn => exact absurd hn (by show ¬ 0 = n; omega)
  | [a], hn =>
    have e : n = 1 := hn.symm
    subst e
    have a0 : a < 8 := ha 0 (by show 0 < 1; decide)
    have h := gO1_b
    rw [List.all_eq_true] at h
    exact of_decide_eq_true (h a (List.mem_range.mpr a0))
  | [a, b], hn =>
    have e : n = 2 := hn.symm
    subst e
    have a0 : a < 8 := ha 0 (by show 0 < 2; decide)
    have b0 : b < 8 := ha 1 (by show 1 < 2; decide)
    have ab : a < b := hs 0 1 (by decide) (by show 1 < 2; decide)
    have h := gO2_b
    rw [List.all_eq_true] at h
    have h1 := h a (List.mem_range.mpr a0)
    rw [List.all_eq_true] at h1
    have h2 := h1 b (List.mem_range.mpr b0)
    rw [decide_eq_true ab, Bool.not_true, Bool.false_or] at h2
    exact of_decide_eq_true h2
  | [a, b, c], hn =>
    have e : n = 3 := hn.symm
    subst e
    have a0 : a < 8 := ha 0 (by show 0 < 3; decide)
    have b0 : b < 8 := ha 1 (by show 1 < 3; decide)
    have c0 : c < 8 := ha 2 (by show 2 < 3; decide)
    have ab : a < b := hs 0 1 (by decide) (by show 1 < 3; decide)
    have bc : b < c := hs 1 2 (by decide) (by show 2 < 3; decide)
    have h := gO3_b
    rw [List.all_eq_true] at h
    have h1 := h a (List.mem_range.mpr a0)
    rw [List.all_eq_true] at h1
    have h2 := h1 b (List.mem_range.mpr b0)
    rw [List.all_eq_true] at h2
    have h3 := h2 c (List.mem_range.mpr c0)
    rw [decide_eq_true ab, decide_eq_true bc, Bool.and_self, Bool.not_true, Bool.false_or] at h3
    exact of_decide_eq_true h3
  | a :: b :: c :: d :: l, hn =>
    have : (a :: b :: c :: d :: l).length = l.length + 4 := rfl
    omega
theorem gIt_ao {h a : zN} {n : Nat} : ∀ (k : Nat) (l : List Nat) (b : Nat × List Nat × List Nat), l.length = n → (b.1 = 100000 ∨ b.2.1.length = n) → (((gIt k l).foldl (gBo h a) b).1 = 100000 ∨ ((gIt k l).foldl (gBo h a) b).2.1.length = n)
  | 0, l, b, _, hb => hb
  | k + 1, l, b, hl, hb => by
    have hb2 : (gBo h a b l).1 = 100000 ∨ (gBo h a b l).2.1.length = n := by
      unfold gBo
      cases gEd h a l with
      | none => exact hb
      | some r =>
        show (if r.1 < b.1 then (r.1, l, r.2) else b).1 = 100000 ∨ (if r.1 < b.1 then (r.1, l, r.2) else b).2.1.length = n
        split
        · exact Or.inr hl
        · exact hb
    show ((match gNr l with | none => [] | some l' => gIt k l').foldl (gBo h a) (gBo h a b l)).1 = 100000 ∨ ((match gNr l with | none => [] | some l' => gIt k l').foldl (gBo h a) (gBo h a b l)).2.1.length = n
    cases e : gNr l with
    | none => exact hb2
    | some l' => exact gIt_ao k l' _ (by rw [gNr_len e]; exact hl) hb2
theorem m_order121 {M : zMem} {n : Nat} (hn : n ≤ 3) : mf_X12_order_l121 gR 89 zF (nI n) (nI 0) M = some (M.1 89 32, zrowI (zrowI M 106 (gCp (M.1 104) (M.1 106) n)) 107 (gCp (M.1 105) (M.1 107) n)) := by
  have e0 : M = zrowI (zrowI M 106 (gCp (M.1 104) (M.1 106) 0)) 107 (gCp (M.1 105) (M.1 107) 0) := by
    rw [gCp_0, gCp_0, grI_id (M := M) (o := 106) rfl, grI_id rfl]
  rw [show mf_X12_order_l121 gR 89 zF (nI n) (nI 0) M = mf_X12_order_l121 gR 89 zF (nI n) (nI 0) (zrowI (zrowI M 106 (gCp (M.1 104) (M.1 106) 0)) 107 (gCp (M.1 105) (M.1 107) 0)) by rw [← e0]]
  refine gfor (G := fun f i => mf_X12_order_l121 gR 89 f (nI n) (nI i) (zrowI (zrowI M 106 (gCp (M.1 104) (M.1 106) i)) 107 (gCp (M.1 105) (M.1 107) i))) (n := n) (fun f i hi => ?_) (fun f => ?_) _ (by first | (show _ < 5000; omega) | omega)
  · simp (disch := omega) only [zlet_ok, zcl_ok, zl_lit, zl_m1, nI_add, zald_nI, nI_ltE, nI_leE, nI_eqE, zm1_lt', zm1_le', zm1_nlt', zm1_nle', zm1_ne, zm1_ne', zm1_add1, gwI, grI_rI, zrI_s, zrI_n, zrI_L, gwL, grL_rL, zrL_s, zrL_n, zrL_I, Nat.zero_add, ↓reduceIte, if_true, if_false, gB_0, gB_1, gB_01, zchk_t, gB_1e, eq_self, gcle, gcnle, gclt, gcnlt, gcne, not_true_eq_false, not_false_eq_true, true_or, or_true, false_or, or_false, true_and, and_true, false_and, and_false, mf_X12_order_l121, r89_29, r89_30, r89_33, r89_34, grI_sw, gCp_s]
  · rw [mf_X12_order_l121, if_pos (by rw [nI_leI (by omega) (by omega)]; omega), zrI_n (by decide), zrI_n (by decide)]
def gOI (M : zMem) : Prop := ∃ n, n ≤ 3 ∧ M.1 44 10 = nI n ∧ M.1 89 31 = nI n ∧ ∀ k, k < n → M.1 47 k = M.1 106 k ∧ M.1 48 k = M.1 107 k
theorem gOI.fr {M M1 : zMem} {ids ks : List Nat} (hf : gF ids ks M M1) (e44 : M1.1 44 10 = M.1 44 10) (hi : ∀ o ∈ [47, 48, 106, 107], o ∉ ids) (hk : 31 ∉ ks) (C : gOI M) : gOI M1 := by
  obtain ⟨n, h1, h2, h3, h4⟩ := C
  refine ⟨n, h1, by rw [e44]; exact h2, by rw [hf.2.2 31 hk]; exact h3, fun k hk2 => ?_⟩
  rw [hf.1 47 (hi 47 (by decide)) (by decide), hf.1 48 (hi 48 (by decide)) (by decide), hf.1 106 (hi 106 (by decide)) (by decide), hf.1 107 (hi 107 (by decide)) (by decide)]
  exact h4 k hk2
abbrev gIdO : List Nat := [1, 19, 44, 45, 46, 47, 48, 50, 52, 54, 95, 96, 102, 103, 104, 105, 106, 107]
theorem q_order {h a : zN} {t : Nat → Int32} {tl : Nat} {tb : Nat → Nat} {M : zMem} (W : gW h a t M) (T : gTp tl tb M) (O : gOI M) : ∃ r M1 M2, mf_X11_order gR 0 M = some (r, M1) ∧ mf_X12_order gR 89 M1 = some (r, M2) ∧ gF gIdO [0, 2, 31, 32] M M2 ∧ M2.1 1 = upd (M.1 1) 1 (nI 0) ∧ M2.1 89 2 = nI 0 ∧ gOI M2 := by
  have W0 := W
  have O0 := O
  obtain ⟨hr, hc0, hm, hH, hA⟩ := W
  obtain ⟨z, hc⟩ : ∃ z, M.1 17 = eC a z := ⟨_, hc0⟩
  have hc' : M.1 17 = encC a (gIn a) z := hc
  obtain ⟨q0, q1, q2, q3, q4, q5, qh, ql, qp, qa⟩ := id hr
  obtain ⟨k0, k1, k2, k3, k4, k5, kh, kl, ka, kp⟩ := id hH
  have hm0 : (zwI M 89 0 (nI 0)).1 91 = encM h a t := by rw [zwI_n (by decide)]; exact hm
  obtain ⟨t1, t2, t3, t4⟩ := T
  by_cases e0 : tl < 1 ∨ 3 < tl
  · have f1 : gF gIdO [0, 2, 31, 32] M (zwI M 1 1 (nI 0)) := gF.wI gF.r (by decide) (by decide)
    have f2 : gF gIdO [0, 2, 31, 32] M (zwI (zwI (zwI M 1 1 (nI 0)) 89 0 (nI 0)) 89 2 (nI 0)) := gF.w9 (gF.w9 f1 (by decide)) (by decide)
    have f3 : gF [1] [0, 2] M (zwI (zwI (zwI M 1 1 (nI 0)) 89 0 (nI 0)) 89 2 (nI 0)) := gF.w9 (gF.w9 (gF.wI gF.r (by decide) (by decide)) (by decide)) (by decide)
    refine ⟨zm1, zwI M 1 1 (nI 0), zwI (zwI (zwI M 1 1 (nI 0)) 89 0 (nI 0)) 89 2 (nI 0), ?_, ?_, f2, ?_, ?_, gOI.fr f3 (by rw [f3.1 44 (by decide) (by decide)]) (by decide) (by decide) O0⟩
    · unfold mf_X11_order mf_X6_readRow
      simp only [zl_lit, zl_m1, zlet_ok]
      rw [r0_9, r0_0, t2]
      rcases e0 with e | e
      · rw [if_pos (by rw [nI_ltI (by omega) (by omega)]; exact e), zcl_ok, if_pos rfl]
      · rw [if_neg (by rw [nI_ltI (by omega) (by omega)]; omega), if_neg (by rw [nI_leI (by omega) (by omega)]; omega), zcl_ok, if_pos rfl]
    · have e2 : (zwI (zwI M 1 1 (nI 0)) 89 0 (nI 0)).1 89 2 = nI tl := by rw [zwI_s, upd_n (by decide), zwI_n (by decide)]; exact t3
      unfold mf_X12_order mf_X12_take
      simp only [zl_lit, zl_m1, zlet_ok]
      rw [e2, zcl_ok]
      rcases e0 with e | e
      · rw [m_isInN e (by omega), zcl_ok, if_pos rfl]
      · rw [m_isInO (n := 3) (by omega) (Or.inr ((nI_leI (by omega) (by omega)).mpr (by omega))), zcl_ok, if_pos rfl]
    · rw [zwI_n (by decide), zwI_n (by decide), zwI_s]
    · rw [zwI_s, upd_s]
  · have ht : tl ≤ 3 := by omega
    have ht0 : 0 < tl := by omega
    have e20 : nI 0 = nI (gbN (fun j => decide (j ∈ ([] : List Nat))) 8) := by decide +kernel
    have e45 : zrowI M 45 (gRw [] (M.1 45)) = M := grI_id (by funext j; unfold gRw; rw [if_neg (by show ¬ j < 0; omega)])
    have hso : gSo [] := fun i j _ hj => by cases hj
    have hal : gAll (fun v => v < h 2) [] := fun j hj => by cases hj
    -- the reference's memory when it begins
    have hread : ∀ Mr : zMem, (∀ j, j < tl → tb j < 256 ∧ Mr.1 90 j = nI (tb j)) → _ := fun Mr hb => cm_read (t := t) (z := M.1 45) (zl := z) (Mr := Mr) hH hA ht hb tl 0 zF zF [] M (by omega) rfl hso hal (by show _ < 5000; omega) (by show _ < 5000; omega) hr hc t2 (fun j hj => (t4 j hj).2.1)
    have hcls : ∀ (r : Int32) (M1 : zMem), mf_X6_readRow_l20 gR 44 1 zF (nI 0) M = some (r, M1) → mf_X6_readRow gR 44 1 M = some (r, M1) := fun r M1 e => by
      unfold mf_X6_readRow
      rw [t2, if_neg (by rw [zl_lit, nI_ltI (by omega) (by omega)]; omega), if_pos (by rw [zl_lit, nI_leI (by omega) (by omega)]; omega)]
      exact e
    have hrefgo : ∀ M1 : zMem, M1.1 89 2 = nI tl → mf_X12_order gR 89 M1 = mf_X12_order_l25 gR 89 zF (nI tl) (nI 0) (nI 0) (zwI (zwI M1 89 0 (nI 0)) 89 2 (nI 0)) := fun M1 e => by
      have e2 : (zwI M1 89 0 (nI 0)).1 89 2 = nI tl := by rw [zwI_s, upd_n (by decide)]; exact e
      unfold mf_X12_order mf_X12_take
      simp only [zl_lit, zl_m1, zlet_ok]
      rw [e2, zcl_ok, m_isInY (by omega) (by omega) (by omega), zcl_ok, if_neg (by decide +kernel)]
    rcases hread M (fun j hj => ⟨(t4 j hj).1, (t4 j hj).2.2⟩) with ⟨M1, w1, w2, -⟩ | ⟨L, f3, w1, w2, w3, w4, w5, -⟩
    · rw [e45] at w1
      have f2 : gF [1, 45] [0, 2] M (zwI (zwI (zwI M1 1 1 (nI 0)) 89 0 (nI 0)) 89 2 (nI 0)) := gF.w9 (gF.w9 (gF.wI (w2.mono (by decide) (by decide)) (by decide) (by decide)) (by decide)) (by decide)
      have hm2 : (zwI (zwI (zwI M1 1 1 (nI 0)) 89 0 (nI 0)) 89 2 (nI 0)).1 91 = encM h a t := by rw [f2.1 91 (by decide) (by decide)]; exact hm
      have e11 : M1.1 1 = M.1 1 := w2.1 1 (by decide) (by decide)
      refine ⟨zm1, zwI M1 1 1 (nI 0), zwI (zwI (zwI M1 1 1 (nI 0)) 89 0 (nI 0)) 89 2 (nI 0), ?_, ?_, f2.mono (by decide) (by decide), ?_, ?_, gOI.fr f2 (by rw [f2.1 44 (by decide) (by decide)]) (by decide) (by decide) O0⟩
      · unfold mf_X11_order
        simp only [zl_lit, zl_m1, zlet_ok]
        rw [r0_9, r0_0, hcls _ _ w1, zcl_ok, if_pos rfl]
      · rw [hrefgo _ (by rw [zwI_n (by decide), w2.2.2 2 (by decide)]; exact t3), ← grI_id hm2]
        rcases hread (zwI (zwI (zwI M1 1 1 (nI 0)) 89 0 (nI 0)) 89 2 (nI 0)) (fun j hj => ⟨(t4 j hj).1, by rw [f2.1 90 (by decide) (by decide)]; exact (t4 j hj).2.2⟩) with ⟨M9, v1, v2, v3⟩ | ⟨L, f3, v1, v2, v3, v4, v5, -⟩
        · rw [← e20] at v3
          exact v3
        · rw [e45, w1] at v5
          have : nI 0 = nI 1 := by
            have := congrArg (fun q : Option (Int32 × zMem) => q.map Prod.fst) v5
            simpa using this
          exact absurd this (by decide +kernel)
      · rw [zwI_n (by decide), zwI_n (by decide), zwI_s, e11]
      · rw [zwI_s, upd_s]
    · rw [e45] at w5
      have hL8 : gAll (fun v => v < 8) L := fun j hj => by
        have := w3 j hj
        have : L.getD j 0 < h 2 := this
        show L.getD j 0 < 8
        omega
      obtain ⟨o1, o2⟩ := gO_all w1 ht0 ht w2 hL8
      have fM3 : gF [1, 44, 45] [] M (zwI (zwI (zrowI M 45 (gRw L (M.1 45))) 44 7 (nI tl)) 1 1 (nI 0)) := gF.wI (gF.wI (gF.rI gF.r (by decide) (by decide)) (by decide) (by decide)) (by decide) (by decide)
      have hc3 : (zwI (zwI (zrowI M 45 (gRw L (M.1 45))) 44 7 (nI tl)) 1 1 (nI 0)).1 17 = eC a z := by rw [fM3.1 17 (by decide) (by decide)]; exact hc
      obtain ⟨M4, x1, x2, x3⟩ := c_order6 (M0 := zwI (zwI (zrowI M 45 (gRw L (M.1 45))) 44 7 (nI tl)) 1 1 (nI 0)) (n := tl) hH hA ht ht0 6 0 zF L (100000, [], []) (zwI (zwI (zrowI M 45 (gRw L (M.1 45))) 44 7 (nI tl)) 1 1 (nI 0)) (by omega) (by show _ < 5000; omega) w1 w3 (Nat.le_refl _) (gRC.fr fM3 (by decide) hr) hc3 (by rw [zwI_n (by decide), zwI_s, upd_s]) (by rw [zwI_n (by decide), zwI_n (by decide), zrI_s]) (by
        unfold gQCo
        rw [if_pos rfl]
        exact ⟨rfl, rfl, rfl⟩)
      have hlen := gIt_ao (h := h) (a := a) (n := tl) 6 L (100000, [], []) w1 (Or.inl rfl)
      have f4 : gF gIdO [] M M4 := (fM3.mono (by decide) (by decide)).trans (x2.mono (by decide) (by decide))
      have f5 : gF gIdO [0, 2, 31, 32] M (zwI (zwI (zwI M4 89 0 (nI 0)) 89 2 (nI 0)) 89 32 (nI 100000)) := gF.w9 (gF.w9 (gF.w9 (f4.mono (by decide) (by decide)) (by decide)) (by decide)) (by decide)
      have hm5 : (zwI (zwI M4 89 0 (nI 0)) 89 2 (nI 0)).1 91 = encM h a t := by rw [zwI_n (by decide), zwI_n (by decide), f4.1 91 (by decide) (by decide)]; exact hm
      have hm6 : (zwI (zwI (zwI M4 89 0 (nI 0)) 89 2 (nI 0)) 89 32 (nI 100000)).1 91 = encM h a t := by rw [zwI_n (by decide)]; exact hm5
      obtain ⟨M7, y1, y2, y3, y4⟩ := m_rows (t := t) (n := tl) hH hA ht tl 64 (fun j => decide (j ∈ L)) [] (zwI (zwI (zwI M4 89 0 (nI 0)) 89 2 (nI 0)) 89 32 (nI 100000)) (100000, [], []) o2 (fun j hj => by
        have hj2 : j ∈ L := of_decide_eq_true hj
        obtain ⟨i, hi, e⟩ := List.mem_iff_getElem.mp hj2
        have := w3 i hi
        rw [List.getD_eq_getElem?_getD, List.getElem?_eq_getElem hi] at this
        rw [← e]; exact this) (by show 0 + tl = tl; omega) (fun s hs => by cases hs) (by omega) hm6 (fun j hj => by cases hj) ⟨by rw [zwI_s, upd_s], Nat.le_refl _, fun k hk => by cases hk⟩
      rw [← o1] at y4
      generalize hB : (gIt 6 L).foldl (gBo h a) (100000, [], []) = B at x1 x3 y4 hlen
      have e11 : M4.1 1 = upd (M.1 1) 1 (nI 0) := by rw [x2.1 1 (by decide) (by decide), zwI_s, zwI_n (by decide), zrI_n (by decide)]
      have f8 : gF gIdO [0, 2, 31, 32] M M7 := f5.trans (y2.mono (by decide) (by decide))
      have href : mf_X12_order gR 89 M4 = (if M7.1 89 32 = nI 100000 then some (zm1, M7) else mf_X12_order_l121 gR 89 zF (nI tl) (nI 0) (zwI M7 89 31 (nI tl))) := by
        rw [hrefgo _ (by rw [f4.2.2 2 (by decide)]; exact t3)]
        have hgo : mf_X12_order_l25 gR 89 zF (nI tl) (nI 0) (nI 0) (zwI (zwI M4 89 0 (nI 0)) 89 2 (nI 0)) = _ := rfl
        rcases hread (zwI (zwI M4 89 0 (nI 0)) 89 2 (nI 0)) (fun j hj => ⟨(t4 j hj).1, by rw [zwI_n (by decide), zwI_n (by decide), f4.1 90 (by decide) (by decide)]; exact (t4 j hj).2.2⟩) with ⟨M9, v1, v2, v3⟩ | ⟨L2, f9, v1, v2, v3, v4, v5, v6⟩
        · rw [e45, w5] at v1
          have : nI 1 = nI 0 := by
            have := congrArg (fun q : Option (Int32 × zMem) => q.map Prod.fst) v1
            simpa using this
          exact absurd this (by decide +kernel)
        · have eL : L2 = L := by
            rw [e45, w5] at v5
            have e1 := congrArg (fun q : Option (Int32 × zMem) => q.map (fun w => w.2.1 45)) v5
            simp only [Option.map_some, Option.some.injEq] at e1
            rw [zwI_n (by decide), zwI_n (by decide), zrI_s, zrI_s] at e1
            refine List.ext_getElem (by omega) (fun j h1 h2 => ?_)
            have e2 := congrFun e1 j
            rw [gRw_i h2, gRw_i h1] at e2
            have a1 := hL8 j h2
            have a1' : L.getD j 0 < 8 := a1
            have a2 := v3 j h1
            have a2' : L2.getD j 0 < h 2 := a2
            have e3 := (nI_eq (by omega) (by omega)).mp e2
            rw [List.getD_eq_getElem?_getD, List.getD_eq_getElem?_getD, List.getElem?_eq_getElem h1, List.getElem?_eq_getElem h2] at e3
            exact e3.symm
          subst eL
          rw [grI_id hm5, ← e20] at v6
          obtain ⟨f, rfl⟩ : ∃ f, f9 = f + 1 := ⟨f9 - 1, by omega⟩
          have y1' : mr_X12_tryRows zD gR 89 (nI 0) (nI tl) (nI (gbN (fun j => decide (j ∈ L2)) 8)) (zwI (zwI (zwI M4 89 0 (nI 0)) 89 2 (nI 0)) 89 32 (nI 100000)) = some ((), M7) := y1
          rw [v6, mf_X12_order_l25, if_pos (by rw [nI_leI (by omega) (by omega)]; omega)]
          simp only [zl_lit, zlet_ok, zl_m1]
          rw [y1', zcl_ok]
      have hcl : mf_X11_order gR 0 M = some (gBJ B, M4) := by
        unfold mf_X11_order mf_X6_bestOrder
        simp only [zl_lit, zl_m1, zlet_ok]
        have : gBJ (100000, [], []) = zm1 := if_pos rfl
        rw [r0_9, r0_0, hcls _ _ w5, zcl_ok, if_neg (by decide +kernel), ← this, x1, zcl_ok]
      rw [hcl]
      by_cases eB : B.1 = 100000
      · refine ⟨gBJ B, M4, M7, rfl, ?_, f8, ?_, ?_, ?_⟩
        · rw [href, y4.1, eB, if_pos rfl, show gBJ B = zm1 from if_pos eB]
        · rw [y2.1 1 (by decide) (by decide), zwI_n (by decide), zwI_n (by decide), zwI_n (by decide)]; exact e11
        · rw [y2.2.2 2 (by decide), zwI_s, upd_n (by decide), zwI_s, upd_s]
        · unfold gQCo at x3
          rw [if_pos eB] at x3
          obtain ⟨p1, p2, p3⟩ := x3
          obtain ⟨n0, h1, h2, h3, h4⟩ := O
          refine ⟨n0, h1, ?_, ?_, fun k hk => ?_⟩
          · rw [y2.1 44 (by decide) (by decide), zwI_n (by decide), zwI_n (by decide), zwI_n (by decide), p1, zwI_n (by decide), zwI_s, upd_n (by decide), zrI_n (by decide)]; exact h2
          · rw [y2.2.2 31 (by decide), zwI_s, upd_n (by decide), zwI_s, upd_n (by decide), zwI_s, upd_n (by decide), f4.2.2 31 (by decide)]; exact h3
          · have q47 : M7.1 47 = M.1 47 := by rw [y2.1 47 (by decide) (by decide), zwI_n (by decide), zwI_n (by decide), zwI_n (by decide), p2, zwI_n (by decide), zwI_n (by decide), zrI_n (by decide)]
            have q48 : M7.1 48 = M.1 48 := by rw [y2.1 48 (by decide) (by decide), zwI_n (by decide), zwI_n (by decide), zwI_n (by decide), p3, zwI_n (by decide), zwI_n (by decide), zrI_n (by decide)]
            have q106 : M7.1 106 = M.1 106 := by rw [y2.1 106 (by decide) (by decide), zwI_n (by decide), zwI_n (by decide), zwI_n (by decide), x2.1 106 (by decide) (by decide), fM3.1 106 (by decide) (by decide)]
            have q107 : M7.1 107 = M.1 107 := by rw [y2.1 107 (by decide) (by decide), zwI_n (by decide), zwI_n (by decide), zwI_n (by decide), x2.1 107 (by decide) (by decide), fM3.1 107 (by decide) (by decide)]
            rw [q47, q48, q106, q107]
            exact h4 k hk
      · have hBl : B.2.1.length = tl := by
          rcases hlen with q | q
          · exact absurd q eB
          · exact q
        unfold gQCo at x3
        rw [if_neg eB] at x3
        obtain ⟨p1, p2⟩ := x3
        have lb := y4.2.1
        have e31 : (zwI M7 89 31 (nI tl)).1 89 32 = nI B.1 := by rw [zwI_s, upd_n (by decide)]; exact y4.1
        refine ⟨gBJ B, M4, zrowI (zrowI (zwI M7 89 31 (nI tl)) 106 (gCp ((zwI M7 89 31 (nI tl)).1 104) ((zwI M7 89 31 (nI tl)).1 106) tl)) 107 (gCp ((zwI M7 89 31 (nI tl)).1 105) ((zwI M7 89 31 (nI tl)).1 107) tl), rfl, ?_, gF.rI (gF.rI (gF.w9 f8 (by decide)) (by decide) (by decide)) (by decide) (by decide), ?_, ?_, tl, ht, ?_, ?_, fun k hk => ⟨?_, ?_⟩⟩
        · rw [href, y4.1, if_neg (by rw [nI_eq (by omega) (by omega)]; exact eB), m_order121 ht, e31, show gBJ B = nI B.1 from if_neg eB]
        · rw [zrI_n (by decide), zrI_n (by decide), zwI_n (by decide), y2.1 1 (by decide) (by decide), zwI_n (by decide), zwI_n (by decide), zwI_n (by decide)]; exact e11
        · rw [zrI_n (by decide), zrI_n (by decide), zwI_s, upd_n (by decide), y2.2.2 2 (by decide), zwI_s, upd_n (by decide), zwI_s, upd_s]
        · rw [zrI_n (by decide), zrI_n (by decide), zwI_n (by decide), y2.1 44 (by decide) (by decide), zwI_n (by decide), zwI_n (by decide), zwI_n (by decide)]; exact p1
        · rw [zrI_n (by decide), zrI_n (by decide), zwI_s, upd_s]
        · rw [zrI_n (by decide), zrI_n (by decide), zwI_n (by decide), y2.1 47 (by decide) (by decide), zwI_n (by decide), zwI_n (by decide), zwI_n (by decide), (p2 k hk).1, zrI_n (by decide), zrI_s, gCp_i hk, zwI_n (by decide)]
          exact ((y4.2.2 k (by omega)).1).symm
        · rw [zrI_n (by decide), zrI_n (by decide), zwI_n (by decide), y2.1 48 (by decide) (by decide), zwI_n (by decide), zwI_n (by decide), zwI_n (by decide), (p2 k hk).2, zrI_s, gCp_i hk, zwI_n (by decide)]
          exact ((y4.2.2 k (by omega)).2).symm
theorem q_orderAt {M : zMem} (C : gOI M) (x : Int32) : ∃ r, mf_X11_orderAt gR 0 x M = some (r, M) ∧ mf_X12_orderAt gR 89 x M = some (r, zwI M 89 0 (nI 0)) := by
  obtain ⟨n, hn, h1, h2, h3⟩ := C
  have e38 : (zwI M 89 0 (nI 0)).1 89 31 = nI n := by rw [zwI_s, upd_n (by decide)]; exact h2
  unfold mf_X11_orderAt mf_X12_orderAt
  simp only [zlet_ok, zl_lit, zl_m1]
  rw [e38, r0_9, h1]
  rcases gcase (n := n) (by omega) x with ⟨k, hk, rfl⟩ | ho
  · refine ⟨M.1 47 k, ?_, ?_⟩
    · simp (disch := omega) only [zlet_ok, zcl_ok, zl_lit, zl_m1, nI_add, zald_nI, nI_ltE, nI_leE, nI_eqE, zm1_lt', zm1_le', zm1_nlt', zm1_nle', zm1_ne, zm1_ne', zm1_add1, gwI, grI_rI, zrI_s, zrI_n, zrI_L, gwL, grL_rL, zrL_s, zrL_n, zrL_I, Nat.zero_add, ↓reduceIte, if_true, if_false, gB_0, gB_1, gB_01, zchk_t, gB_1e, eq_self, gcle, gcnle, gclt, gcnlt, gcne, not_true_eq_false, not_false_eq_true, true_or, or_true, false_or, or_false, true_and, and_true, false_and, and_false, r44_8]
    · rw [m_isIn hk (by omega), zcl_ok, if_neg (by decide +kernel), zald_nI (by omega) (by omega), r89_33, zwI_n (by decide), (h3 k hk).1]
  · refine ⟨zm1, ?_, ?_⟩
    · rcases ho with e | e
      · rw [if_pos e]
      · by_cases e0 : x < nI 0
        · rw [if_pos e0]
        · rw [if_neg e0, if_pos e]
    · rw [m_isIn_n (by omega) ho, zcl_ok, if_pos rfl]
theorem q_orderWhen {M : zMem} (C : gOI M) (x : Int32) : ∃ r, mf_X11_orderWhen gR 0 x M = some (r, M) ∧ mf_X12_orderWhen gR 89 x M = some (r, zwI M 89 0 (nI 0)) := by
  obtain ⟨n, hn, h1, h2, h3⟩ := C
  have e38 : (zwI M 89 0 (nI 0)).1 89 31 = nI n := by rw [zwI_s, upd_n (by decide)]; exact h2
  unfold mf_X11_orderWhen mf_X12_orderWhen
  simp only [zlet_ok, zl_lit, zl_m1]
  rw [e38, r0_9, h1]
  rcases gcase (n := n) (by omega) x with ⟨k, hk, rfl⟩ | ho
  · refine ⟨M.1 48 k, ?_, ?_⟩
    · simp (disch := omega) only [zlet_ok, zcl_ok, zl_lit, zl_m1, nI_add, zald_nI, nI_ltE, nI_leE, nI_eqE, zm1_lt', zm1_le', zm1_nlt', zm1_nle', zm1_ne, zm1_ne', zm1_add1, gwI, grI_rI, zrI_s, zrI_n, zrI_L, gwL, grL_rL, zrL_s, zrL_n, zrL_I, Nat.zero_add, ↓reduceIte, if_true, if_false, gB_0, gB_1, gB_01, zchk_t, gB_1e, eq_self, gcle, gcnle, gclt, gcnlt, gcne, not_true_eq_false, not_false_eq_true, true_or, or_true, false_or, or_false, true_and, and_true, false_and, and_false, r44_9]
    · rw [m_isIn hk (by omega), zcl_ok, if_neg (by decide +kernel), zald_nI (by omega) (by omega), r89_34, zwI_n (by decide), (h3 k hk).2]
  · refine ⟨zm1, ?_, ?_⟩
    · rcases ho with e | e
      · rw [if_pos e]
      · by_cases e0 : x < nI 0
        · rw [if_pos e0]
        · rw [if_neg e0, if_pos e]
    · rw [m_isIn_n (by omega) ho, zcl_ok, if_pos rfl]
