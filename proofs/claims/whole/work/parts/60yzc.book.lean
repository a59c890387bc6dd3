/-! BOOK: the call, in both -/
theorem c_b79 {h a1 : zN} {z1 : Nat → Int32} {M : zMem} (hr : gRC h M) (hc : M.1 19 = eC a1 z1) (hH : gH h) (hA1 : gA h a1) : mf_X0_live_b79 gR 30 18 M = some ((), zwI (zwI (zwI M 30 3 (nI 1)) 30 6 (nI (a1 0))) 30 7 (nI (gTh h a1 2))) := by
  have f1 : gF [30] [] M (zwI M 30 3 (nI 1)) := gF.wI gF.r (by decide) (by decide)
  have f2 : gF [30] [] M (zwI (zwI M 30 3 (nI 1)) 30 6 (nI (a1 0))) := gF.wI f1 (by decide) (by decide)
  have emin : mf_X3_minute gR 18 (zwI M 30 3 (nI 1)) = some (nI (a1 0), zwI M 30 3 (nI 1)) := by
    unfold mf_X3_minute
    rw [gLab_t.2.1, f1.1 19 (by decide) (by decide), hc]
    simp (disch := omega) only [zlet_ok, zcl_ok, zl_lit, zl_m1, nI_add, zald_nI, nI_ltE, nI_leE, nI_eqE, zm1_lt', zm1_le', zm1_nlt', zm1_nle', zm1_ne, zm1_ne', zm1_add1, gwI, grI_rI, zrI_s, zrI_n, zrI_L, gwL, grL_rL, zrL_s, zrL_n, zrL_I, Nat.zero_add, ↓reduceIte, if_true, if_false, gB_0, gB_1, gB_01, zchk_t, gB_1e, eq_self, gcle, gcnle, gclt, gcnlt, gcne, not_true_eq_false, not_false_eq_true, true_or, or_true, false_or, or_false, true_and, and_true, false_and, and_false, eC, eC_min]
  have eall : mf_X3_allThatAre gR 18 (nI 2) (zwI (zwI M 30 3 (nI 1)) 30 6 (nI (a1 0))) = some (nI (gTh h a1 2), zwI (zwI M 30 3 (nI 1)) 30 6 (nI (a1 0))) := c_all gLab_t (gRC.fr f2 (by decide) hr) (by rw [f2.1 19 (by decide) (by decide)]; exact hc) hH hA1 (by omega)
  unfold mf_X0_live_b79
  simp only [zl_lit, zlet_ok]
  rw [emin, zcl_ok, eall, zcl_ok]
theorem cm_btail {c : Nat} {h a K X : zN} {z : Nat → Int32} {sn : Nat → zN} {nn n l : Nat} {Mc : zMem} (hl : l ≤ 1) (hn40 : n ≤ 40) (hH : gH h) (hA : gA h a) (hO : gO c a) (V : ∀ i, i < n → gBK h (K i) (X i)) (hS : ∀ i, i < nn → gA h (sn i) ∧ gO c (sn i)) (hnn : nn ≤ 8) (hr : gRC h Mc) (hc : Mc.1 17 = eC a z) (P : gPC sn nn Mc) (B : gBC n K X Mc) : ∃ (r : Int32) (a' : zN) (sn' : Nat → zN) (n' : Nat) (z' : Nat → Int32) (M1 : zMem), gBtail (nI l) Mc = some (r, M1) ∧ gF gItb [] Mc M1 ∧ M1.1 1 = upd (Mc.1 1) 1 (nI 0) ∧ M1.1 17 = eC a' z' ∧ gPC sn' n' M1 ∧ n' ≤ 8 ∧ gA h a' ∧ gO (c + 40) a' ∧ (∀ i, i < n' → gA h (sn' i) ∧ gO (c + 40) (sn' i)) ∧ M1.1 30 3 = nI 1 ∧ ∀ (Mr : zMem) (t : Nat → Int32), gBM n K X Mr → Mr.1 89 45 = nI n → gPM sn nn Mr → Mr.1 91 = encM h a t → ∃ M2, (zcl (mf_X12_save gR 89 97 56 (nI 0) Mr) fun _ M9 => mf_X12_book_l78 gR 89 zF (nI l) (nI 0) (nI 0) M9) = some (r, M2) ∧ gF [91, 94, 95, 97, 112] [26, 46] Mr M2 ∧ M2.1 91 = encM h a' t ∧ gPM sn' n' M2 ∧ M2.1 89 46 = nI 1 ∧ M1.1 30 4 = M2.1 112 0 ∧ M1.1 30 5 = M2.1 112 1 ∧ M1.1 30 6 = M2.1 112 2 ∧ M1.1 30 7 = M2.1 112 3 := by
  have hc5 : (zwI Mc 1 1 (nI 0)).1 17 = eC a z := by rw [zwI_n (by decide)]; exact hc
  have cp := c_copy (a0 := 18) (c := 19) gLab_t gLab_l hc5
  obtain ⟨M8, hM8⟩ : ∃ M8, M8 = zwI (zwI (zrowI (zwI Mc 1 1 (nI 0)) 19 (eC a ((zwI Mc 1 1 (nI 0)).1 19))) 30 4 (nI 0)) 30 5 (nI 0) := ⟨_, rfl⟩
  have f8 : gF [1, 19, 30] [] Mc M8 := by
    rw [hM8]
    exact gF.wI (gF.wI (gF.rI (gF.wI gF.r (by decide) (by decide)) (by decide) (by decide)) (by decide) (by decide)) (by decide) (by decide)
  have x81 : M8.1 1 = upd (Mc.1 1) 1 (nI 0) := by rw [hM8, zwI_n (by decide), zwI_n (by decide), zrI_n (by decide), zwI_s]
  have x819 : M8.1 19 = eC a ((zwI Mc 1 1 (nI 0)).1 19) := by rw [hM8, zwI_n (by decide), zwI_n (by decide), zrI_s]
  have B8 : gBC n K X M8 := by
    refine ⟨?_, fun i hi => ?_⟩
    · rw [hM8, zwI_s, upd_n (by decide), zwI_s, upd_n (by decide), zrI_n (by decide), zwI_n (by decide)]; exact B.1
    · rw [f8.1 31 (by decide) (by decide), f8.1 32 (by decide) (by decide)]; exact B.2 i hi
  have x84 : M8.1 30 4 = nI 0 := by rw [hM8, zwI_s, upd_n (by decide), zwI_s, upd_s]
  have x85 : M8.1 30 5 = nI 0 := by rw [hM8, zwI_s, upd_s]
  obtain ⟨i', w, a1, z1, Mx, u1, u2, u3, u4, u5, u6, u7, u8, u9, u10⟩ := cm_blive hH hn40 V n 0 c zF a _ M8 (by omega) (by show _ < 5000; omega) (gRC.fr f8 (by decide) hr) x819 B8 x85 x84 hA hO
  have hrx : gRC h Mx := gRC.fr u9 (by decide) (gRC.fr f8 (by decide) hr)
  have e79 := c_b79 hrx u4 hH u7
  obtain ⟨M9, hM9⟩ : ∃ M9, M9 = zwI (zwI (zwI Mx 30 3 (nI 1)) 30 6 (nI (a1 0))) 30 7 (nI (gTh h a1 2)) := ⟨_, rfl⟩
  have f9 : gF [30] [] Mx M9 := by
    rw [hM9]
    exact gF.wI (gF.wI (gF.wI gF.r (by decide) (by decide)) (by decide) (by decide)) (by decide) (by decide)
  have y3 : M9.1 30 3 = nI 1 := by rw [hM9, zwI_s, upd_n (by decide), zwI_s, upd_n (by decide), zwI_s, upd_s]
  have y4 : M9.1 30 4 = nI w := by rw [hM9, zwI_s, upd_n (by decide), zwI_s, upd_n (by decide), zwI_s, upd_n (by decide)]; exact u5
  have y5 : M9.1 30 5 = nI i' := by rw [hM9, zwI_s, upd_n (by decide), zwI_s, upd_n (by decide), zwI_s, upd_n (by decide)]; exact u6
  have y6 : M9.1 30 6 = nI (a1 0) := by rw [hM9, zwI_s, upd_n (by decide), zwI_s, upd_s]
  have y7 : M9.1 30 7 = nI (gTh h a1 2) := by rw [hM9, zwI_s, upd_s]
  rw [← hM9] at e79
  have F9 : gF [1, 19, 30] [] Mc M9 := f8.trans ((u9.mono (by decide) (by decide)).trans (f9.mono (by decide) (by decide)))
  have F9b : gF [19, 30] [] M8 M9 := u9.trans (f9.mono (by decide) (by decide))
  have z19 : M9.1 19 = eC a1 z1 := by rw [f9.1 19 (by decide) (by decide)]; exact u4
  have z17 : M9.1 17 = eC a z := by rw [F9.1 17 (by decide) (by decide)]; exact hc
  have z1' : M9.1 1 = upd (Mc.1 1) 1 (nI 0) := by rw [F9b.1 1 (by decide) (by decide)]; exact x81
  have P9 : gPC sn nn M9 := gPC.fr F9 (by decide) P
  have eL : gBtail (nI l) Mc = if nI l = nI 1 then (if M9.1 30 5 ≤ nI 0 then mf_X11_book_b118 gR 0 M9 else zcl (mf_X5_mark gR 33 16 M9) fun _ M13 => zcl (mf_X5_keepMarked gR 33 M13) fun _ M15 => zcl (mf_X3_copyFrom gR 16 18 M15) fun _ M17 => mf_X11_book_b118 gR 0 M17) else mf_X11_book_b118 gR 0 M9 := by
    unfold gBtail mf_X0_live
    simp only [zl_lit, zlet_ok]
    rw [cp, zcl_ok, ← hM8, u3, e79, zcl_ok]
  have b118 : ∀ M', M'.1 30 = M9.1 30 → mf_X11_book_b118 gR 0 M' = some (if w = 0 then zm1 else nI i', M') := by
    intro M' e
    unfold mf_X11_book_b118
    simp only [zl_lit, zl_m1, r0_7]
    rw [e, y4, y5]
    by_cases q : w = 0
    · rw [if_pos (show nI w = nI 0 by rw [q]), if_pos q]
    · rw [if_neg (by rw [nI_eq (by omega) (by omega)]; exact q), if_neg q]
  have refs : ∀ (Mr : zMem) (t : Nat → Int32), gBM n K X Mr → Mr.1 89 45 = nI n → gPM sn nn Mr → Mr.1 91 = encM h a t → ∃ M2, (zcl (mf_X12_save gR 89 97 56 (nI 0) Mr) fun _ M9 => mf_X12_book_l78 gR 89 zF (nI l) (nI 0) (nI 0) M9) = some (if w = 0 then zm1 else nI i', M2) ∧ gF [91, 94, 95, 97, 112] [26, 46] Mr M2 ∧ M2.1 91 = encM h (if l = 1 ∧ 0 < i' then a1 else a) t ∧ gPM (if l = 1 ∧ 0 < i' then gPush a sn else sn) (if l = 1 ∧ 0 < i' then gN8 nn else nn) M2 ∧ M2.1 89 46 = nI 1 ∧ M2.1 112 0 = nI w ∧ M2.1 112 1 = nI i' ∧ M2.1 112 2 = nI (a1 0) ∧ M2.1 112 3 = nI (gTh h a1 2) := by
    intro Mr t C h45 PM hm
    have f97 : gF [97] [] Mr (zrowI Mr 97 (gsv (encM h a t) (Mr.1 97) 0 56)) := gF.rI gF.r (by decide) (by decide)
    have sv := m_save (E := encM h a t) (M := Mr) (A := 97) (n1 := 56) (off := 0) (by decide) (by decide) (by decide)
    rw [grI_id hm] at sv
    rw [sv, zcl_ok, u10 (zrowI Mr 97 (gsv (encM h a t) (Mr.1 97) 0 56)) t (nI l) zF (by show _ < 5000; omega) (C.fr f97 (by decide)) (by rw [f97.2.2 45 (by decide)]; exact h45)]
    obtain ⟨M2, w1, w2, w3, w4, w5, w6, w7, w8, w9⟩ := m_b108 (a := a) (a1 := a1) (t := t) (l := l) (i := i') (w := w) (M := zrowI Mr 97 (gsv (encM h a t) (Mr.1 97) 0 56)) hH u7 hl (by omega) u2 (gPM.fr f97 (by decide) (by decide) PM) hnn (fun k hk => by rw [zrI_s]; exact gsv_in hk)
    exact ⟨M2, w1, (f97.mono (by decide) (by decide)).trans (w2.mono (by decide) (by decide)), w3, w4, w5, w6, w7, w8, w9⟩
  by_cases q : l = 1 ∧ 0 < i'
  · simp only [if_pos q] at refs
    obtain ⟨q1, q2⟩ := q
    obtain ⟨Ma, a1', a2, a3⟩ := c_mark z17 P9 hnn
    obtain ⟨Mb, b1, b2, b3⟩ := c_keepM a3 hnn
    have z19b : Mb.1 19 = eC a1 z1 := by rw [b2.1 19 (by decide) (by decide), a2.1 19 (by decide) (by decide)]; exact z19
    have cp2 := c_copy (a0 := 16) (c := 17) gLab_l gLab_t z19b
    have fd : gF [17, 33, 35, 36, 37, 38, 39, 40, 41, 42, 43] [] M9 (zrowI Mb 17 (eC a1 (Mb.1 17))) := gF.rI ((a2.mono (by decide) (by decide)).trans (b2.mono (by decide) (by decide))) (by decide) (by decide)
    have f17 : gF [17] [] Mb (zrowI Mb 17 (eC a1 (Mb.1 17))) := gF.rI gF.r (by decide) (by decide)
    refine ⟨if w = 0 then zm1 else nI i', a1, gPush a sn, gN8 nn, Mb.1 17, zrowI Mb 17 (eC a1 (Mb.1 17)), ?_, (F9.mono (by decide) (by decide)).trans (fd.mono (by decide) (by decide)), ?_, zrI_s, gPC.fr f17 (by decide) b3, gN8_le hnn, u7, u8.mono (by omega), gPush_all (P := fun b => gA h b ∧ gO (c + 40) b) ⟨hA, hO.mono (by omega)⟩ (fun i hi => ⟨(hS i hi).1, (hS i hi).2.mono (by omega)⟩) hnn, ?_, ?_⟩
    · rw [eL, q1, if_pos rfl, y5, if_neg (by rw [nI_leI (by omega) (by omega)]; omega), a1', zcl_ok, b1, zcl_ok, cp2, zcl_ok]
      exact b118 _ (fd.1 30 (by decide) (by decide))
    · rw [fd.1 1 (by decide) (by decide)]; exact z1'
    · rw [fd.1 30 (by decide) (by decide)]; exact y3
    · intro Mr t C h45 PM hm
      obtain ⟨M2, w1, w2, w3, w4, w5, w6, w7, w8, w9⟩ := refs Mr t C h45 PM hm
      refine ⟨M2, w1, w2, w3, w4, w5, ?_, ?_, ?_, ?_⟩
      · rw [fd.1 30 (by decide) (by decide), w6]; exact y4
      · rw [fd.1 30 (by decide) (by decide), w7]; exact y5
      · rw [fd.1 30 (by decide) (by decide), w8]; exact y6
      · rw [fd.1 30 (by decide) (by decide), w9]; exact y7
  · simp only [if_neg q] at refs
    refine ⟨if w = 0 then zm1 else nI i', a, sn, nn, z, M9, ?_, F9.mono (by decide) (by decide), z1', z17, P9, hnn, hA, hO.mono (by omega), fun i hi => ⟨(hS i hi).1, (hS i hi).2.mono (by omega)⟩, y3, ?_⟩
    · rw [eL, ← b118 M9 rfl]
      by_cases e1 : l = 1
      · have e2 : i' = 0 := by omega
        rw [if_pos (show nI l = nI 1 by rw [e1]), y5, if_pos (by rw [nI_leI (by omega) (by omega)]; omega)]
      · rw [if_neg (by rw [nI_eq (by omega) (by omega)]; exact e1)]
    · intro Mr t C h45 PM hm
      obtain ⟨M2, w1, w2, w3, w4, w5, w6, w7, w8, w9⟩ := refs Mr t C h45 PM hm
      exact ⟨M2, w1, w2, w3, w4, w5, by rw [w6]; exact y4, by rw [w7]; exact y5, by rw [w8]; exact y6, by rw [w9]; exact y7⟩
abbrev gIdK : List Nat := [1, 17, 19, 30, 31, 32, 33, 35, 36, 37, 38, 39, 40, 41, 42, 43, 89, 91, 94, 95, 97, 111, 112]
abbrev gKsK : List Nat := [0, 2, 3, 4, 5, 6, 7, 8, 9, 10, 11, 13, 26, 45, 46]
theorem gKC.of {h a : zN} {t : Nat → Int32} {nu : Nat → List Nat} {M : zMem} (W : gW h a t M) (N : gNm h nu M) : gKC h nu M ∧ gKM h nu M := by
  obtain ⟨hr, hc, hm, hH, hA⟩ := W
  refine ⟨⟨hr.1, hr.2.1, hr.2.2.1, fun j hj => ⟨(N j hj).1, (N j hj).2.1⟩⟩, ?_, ?_, ?_, fun j hj => ⟨(N j hj).1, (N j hj).2.2⟩⟩
  · rw [hm]; exact eM_h (by omega)
  · rw [hm]; exact eM_h (by omega)
  · rw [hm]; exact eM_h (by omega)
theorem q_book {c : Nat} {h a : zN} {t : Nat → Int32} {sn : Nat → zN} {n : Nat} {M : zMem} {tl : Nat} {tb : Nat → Nat} {nu : Nat → List Nat} (X : gX c h a t sn n M) (N : gNm h nu M) (T : gTp tl tb M) (K : gKS M) (D : gDI M) (e12 : M.1 1 2 = M.1 89 10) (x : Int32) : ∃ r M1 M2 a' sn' n' tl', mf_X11_book gR 0 x M = some (r, M1) ∧ mf_X12_book gR 89 x M1 = some (r, M2) ∧ gF gIdK gKsK M M2 ∧ gX (c + 40) h a' t sn' n' M2 ∧ gTp tl' tb M2 ∧ gDI M2 ∧ M2.1 1 2 = M2.1 89 10 := by
  have X0 := X
  obtain ⟨W, P1, P2, hn, hO, hS⟩ := X
  have W0 := W
  obtain ⟨hr, hc0, hm, hH, hA⟩ := W
  obtain ⟨t1, t2, t3, t4⟩ := id T
  obtain ⟨KC, KM⟩ := gKC.of W0 N
  have main : ∀ l : Nat, l ≤ 1 → ∃ r M1 M2 a' sn' n' tl', mf_X11_book_b13 gR 0 (nI l) M = some (r, M1) ∧ mf_X12_book gR 89 (nI l) M1 = some (r, M2) ∧ gF gIdK gKsK M M2 ∧ gX (c + 40) h a' t sn' n' M2 ∧ gTp tl' tb M2 ∧ gDI M2 ∧ M2.1 1 2 = M2.1 89 10 := by
    intro l hl
    have isin : ∀ M' : zMem, mf_X12_isIn gR (nI l) (nI 0) (nI 1) M' = some (nI 1, M') := fun M' => m_isInY (by omega) hl (by omega)
    have em : ∀ M1 : zMem, mf_X12_book gR 89 (nI l) M1 = (zcl (mf_X12_begin gR 89 (nI 400) (zwI M1 89 0 (nI 0))) fun _ M5 => zlet (zwI M5 89 45 (nI 0)) fun M7 => mf_X12_book_l30 gR 89 zF (nI l) M7) := by
      intro M1
      unfold mf_X12_book
      simp only [zl_lit]
      rw [zlet_ok, isin, zcl_ok, if_neg (by decide +kernel)]
    have ec : ∀ r Mc, mf_X0_readLines gR 30 1 4 M = some (r, Mc) → mf_X11_book_b13 gR 0 (nI l) M = if r = nI 0 then some (-(nI 2) - Mc.1 1 3, zwI Mc 1 1 (nI 0)) else gBtail (nI l) Mc := by
      intro r Mc e
      have e3 : (zwI Mc 1 1 (nI 0)).1 1 3 = Mc.1 1 3 := by rw [zwI_s, upd_n (by decide)]
      unfold mf_X11_book_b13 gBtail
      simp only [zl_lit, zlet_ok, r0_0, r0_1, r0_3, r0_4, r0_7, r0_8]
      rw [e, zcl_ok, e3]
    obtain ⟨Ma, _, _, ka⟩ := k_book (l := nI l) (Mc := M) (Mr := M) hH t1 t2 (fun j hj => ⟨(t4 j hj).1, (t4 j hj).2.1⟩) K t3 (fun j hj => (t4 j hj).2.2) KC KM
    rcases ka with ⟨n1, K1, X1, Mc1, Mr1, a0, a1, _, a3, _, _, a6, a7, _, a9, _⟩ | ⟨Mc1, Mr1, a1, _, a3, a4, _⟩
    · obtain ⟨r, a', sn', n', z', M1, b1, b2, b3, b4, b5, b6, b7, b8, b9, b10, _⟩ := cm_btail (l := l) (z := M.1 17) hl a0 hH hA hO a6 hS hn (gRC.fr a9.1 (by decide) hr) (by rw [a9.1.1 17 (by decide) (by decide)]; exact hc0) (gPC.fr a9.1 (by decide) P1) a3
      have F1 : gF [1, 17, 19, 30, 31, 32, 33, 35, 36, 37, 38, 39, 40, 41, 42, 43] [] M M1 := (a9.1.mono (by decide) (by decide)).trans (b2.mono (by decide) (by decide))
      have F1z : gF [1, 17, 19, 30, 31, 32, 33, 35, 36, 37, 38, 39, 40, 41, 42, 43] [0] M (zwI M1 89 0 (nI 0)) := gF.w9 (F1.mono (by decide) (by decide)) (by decide)
      obtain ⟨Mb, m2, mf, kb⟩ := k_book (l := nI l) (Mc := M) (Mr := zwI M1 89 0 (nI 0)) hH t1 t2 (fun j hj => ⟨(t4 j hj).1, (t4 j hj).2.1⟩) K (by rw [F1z.2.2 2 (by decide)]; exact t3) (fun j hj => by rw [F1z.1 90 (by decide) (by decide)]; exact (t4 j hj).2.2) KC (KM.fr F1z (by decide))
      rcases kb with ⟨n2, K2, X2, Mc2, Mr2, d0, d1, d2, d3, d4, d5, d6, d7, d8, d9, d10⟩ | ⟨Mc2, Mr2, d1, _⟩
      · rw [a1] at d1
        have q2 : Mc1 = Mc2 := congrArg Prod.snd (Option.some.inj d1)
        subst q2
        obtain ⟨r2, a2', sn2, n2', z2, M1b, g1, g2, g3, g4, g5, g6, g7, g8, g9, g10, g11⟩ := cm_btail (l := l) (z := M.1 17) hl d0 hH hA hO d6 hS hn (gRC.fr a9.1 (by decide) hr) (by rw [a9.1.1 17 (by decide) (by decide)]; exact hc0) (gPC.fr a9.1 (by decide) P1) d3
        rw [b1] at g1
        have q3 : r = r2 := congrArg Prod.fst (Option.some.inj g1)
        have q4 : M1 = M1b := congrArg Prod.snd (Option.some.inj g1)
        subst q3
        subst q4
        have Fr : gF [1, 17, 19, 30, 31, 32, 33, 35, 36, 37, 38, 39, 40, 41, 42, 43, 89, 111] [0, 2, 3, 4, 5, 6, 7, 8, 9, 10, 11, 13, 45] M Mr2 := (F1z.mono (by decide) (by decide)).trans ((mf.mono (by decide) (by decide)).trans (d10.mono (by decide) (by decide)))
        obtain ⟨M2, w1, w2, w3, w4, w5, w6, w7, w8, w9⟩ := g11 Mr2 t d4 d5 (gPM.fr Fr (by decide) (by decide) P2) (by rw [Fr.1 91 (by decide) (by decide)]; exact hm)
        have Fz : gF gIdK gKsK M M2 := (Fr.mono (by decide) (by decide)).trans (w2.mono (by decide) (by decide))
        have G1 : gF [89, 91, 94, 95, 97, 111, 112] gKsK M1 M2 := (gF.w9 (M := M1) (k := 0) (v := nI 0) gF.r (by decide)).trans ((mf.mono (by decide) (by decide)).trans ((d10.mono (by decide) (by decide)).trans (w2.mono (by decide) (by decide))))
        refine ⟨r, M1, M2, a2', sn2, n2', 0, ?_, ?_, Fz, ⟨gW.mk (gRC.fr Fz (by decide) hr) (by rw [G1.1 17 (by decide) (by decide)]; exact g4) w3 hH g7, gPC.fr G1 (by decide) g5, w4, g6, g8, g9⟩, ⟨by omega, ?_, ?_, fun j hj => absurd hj (by omega)⟩, Or.inr ⟨?_, w5, ?_, ?_, ?_, ?_⟩, ?_⟩
        · rw [ec _ _ a1, if_neg (by decide +kernel)]; exact b1
        · rw [em, d2]; exact w1
        · rw [G1.1 1 (by decide) (by decide), g3, upd_s]
        · rw [w2.2.2 2 (by decide), d10.2.2 2 (by decide)]; exact m2
        · rw [G1.1 30 (by decide) (by decide)]; exact g10
        · rw [G1.1 30 (by decide) (by decide)]; exact w6
        · rw [G1.1 30 (by decide) (by decide)]; exact w7
        · rw [G1.1 30 (by decide) (by decide)]; exact w8
        · rw [G1.1 30 (by decide) (by decide)]; exact w9
        · rw [G1.1 1 (by decide) (by decide), g3, upd_n (by decide), a7, w2.2.2 10 (by decide)]; exact d8.symm
      · rw [a1] at d1
        have q1 : nI 1 = nI 0 := congrArg Prod.fst (Option.some.inj d1)
        exact absurd q1 (by decide +kernel)
    · have F1 : gF gIb [] M (zwI Mc1 1 1 (nI 0)) := gF.wI a4.1 (by decide) (by decide)
      have F1z : gF gIb [0] M (zwI (zwI Mc1 1 1 (nI 0)) 89 0 (nI 0)) := gF.w9 (F1.mono (by decide) (by decide)) (by decide)
      obtain ⟨Mb, m2, mf, kb⟩ := k_book (l := nI l) (Mc := M) (Mr := zwI (zwI Mc1 1 1 (nI 0)) 89 0 (nI 0)) hH t1 t2 (fun j hj => ⟨(t4 j hj).1, (t4 j hj).2.1⟩) K (by rw [F1z.2.2 2 (by decide)]; exact t3) (fun j hj => by rw [F1z.1 90 (by decide) (by decide)]; exact (t4 j hj).2.2) KC (KM.fr F1z (by decide))
      rcases kb with ⟨n2, K2, X2, Mc2, Mr2, d0, d1, _⟩ | ⟨Mc2, Mr2, d1, d2, d3, d4, d5⟩
      · rw [a1] at d1
        have q1 : nI 0 = nI 1 := congrArg Prod.fst (Option.some.inj d1)
        exact absurd q1 (by decide +kernel)
      · rw [a1] at d1
        have q2 : Mc1 = Mc2 := congrArg Prod.snd (Option.some.inj d1)
        subst q2
        obtain ⟨⟨jg, i1, i4, i2, i3⟩, i5⟩ := d3
        have G1 : gF [89, 111] gKsK (zwI Mc1 1 1 (nI 0)) Mr2 := (gF.w9 (M := zwI Mc1 1 1 (nI 0)) (k := 0) (v := nI 0) gF.r (by decide)).trans ((mf.mono (by decide) (by decide)).trans (d5.mono (by decide) (by decide)))
        have Fz : gF gIdK gKsK M Mr2 := (F1.mono (by decide) (by decide)).trans (G1.mono (by decide) (by decide))
        have Fx : gF [1, 30, 31, 32, 89, 111] [0, 2, 3, 4, 5, 6, 7, 8, 9, 10, 11, 13, 45] M Mr2 := (F1.mono (by decide) (by decide)).trans (((gF.w9 (M := zwI Mc1 1 1 (nI 0)) (k := 0) (v := nI 0) gF.r (by decide)).trans ((mf.mono (by decide) (by decide)).trans (d5.mono (by decide) (by decide)))))
        refine ⟨-(nI 2) - Mr2.1 89 11, zwI Mc1 1 1 (nI 0), Mr2, a, sn, n, 0, ?_, ?_, Fz, (gX.fr Fx (by decide) (by decide) X0).mono (by omega), ⟨by omega, ?_, ?_, fun j hj => absurd hj (by omega)⟩, ?_, ?_⟩
        · rw [ec _ _ a1, if_pos rfl, i5]
        · rw [em, d2]
        · rw [G1.1 1 (by decide) (by decide), zwI_s, upd_s]
        · rw [d5.2.2 2 (by decide)]; exact m2
        · have e30 : ∀ q, q ≠ 2 → Mr2.1 30 q = M.1 30 q := fun q hq => by rw [G1.1 30 (by decide) (by decide), zwI_n (by decide)]; exact a4.2 q hq
          unfold gDI at D ⊢
          rw [e30 3 (by decide), e30 4 (by decide), e30 5 (by decide), e30 6 (by decide), e30 7 (by decide), Fx.2.2 46 (by decide), Fx.1 112 (by decide) (by decide)]
          exact D
        · rw [G1.1 1 (by decide) (by decide), zwI_s, upd_n (by decide), i2, i3]
  rcases gcase (n := 2) (by omega) x with ⟨l, hl, rfl⟩ | ho
  · obtain ⟨r, M1, M2, a', sn', n', tl', e1, e2, e3, e4, e5, e6, e7⟩ := main l (by omega)
    refine ⟨r, M1, M2, a', sn', n', tl', ?_, e2, e3, e4, e5, e6, e7⟩
    rw [← e1]
    unfold mf_X11_book
    simp only [zl_lit]
    by_cases q : l = 0
    · rw [q, if_pos rfl]
    · rw [if_neg (by rw [nI_eq (by omega) (by omega)]; exact q), show l = 1 by omega, if_pos rfl]
  · have fz : gF [] [0] M (zwI M 89 0 (nI 0)) := gF.w9 gF.r (by decide)
    have x0 : ¬ x = nI 0 := fun q => by
      rcases ho with ho | ho
      · rw [q, nI_ltI (by omega) (by omega)] at ho; omega
      · rw [q, nI_leI (by omega) (by omega)] at ho; omega
    have x1 : ¬ x = nI 1 := fun q => by
      rcases ho with ho | ho
      · rw [q, nI_ltI (by omega) (by omega)] at ho; omega
      · rw [q, nI_leI (by omega) (by omega)] at ho; omega
    refine ⟨-(nI 1000), M, zwI M 89 0 (nI 0), a, sn, n, tl, ?_, ?_, fz.mono (by decide) (by decide), (gX.fr fz (by decide) (by decide) X0).mono (by omega), ⟨t1, ?_, ?_, fun j hj => ?_⟩, gDI.fr fz (by decide) (by decide) D, ?_⟩
    · unfold mf_X11_book
      simp only [zl_lit]
      rw [if_neg x0, if_neg x1]
    · have isin : mf_X12_isIn gR x (nI 0) (nI 1) (zwI M 89 0 (nI 0)) = some (nI 0, zwI M 89 0 (nI 0)) := by
        unfold mf_X12_isIn
        simp only [zl_lit]
        rcases ho with ho | ho
        · rw [if_pos ho]
        · have q1 : nI 1 < x := by
            rw [Int32.lt_iff_toInt_lt, nI_toInt (n := 1) (by omega)]
            rw [Int32.le_iff_toInt_le, nI_toInt (n := 2) (by omega)] at ho
            omega
          have q2 : ¬ x < nI 0 := by
            rw [Int32.lt_iff_toInt_lt, nI_toInt (n := 0) (by omega)]
            rw [Int32.le_iff_toInt_le, nI_toInt (n := 2) (by omega)] at ho
            omega
          rw [if_neg q2, if_pos q1]
      unfold mf_X12_book
      simp only [zl_lit]
      rw [zlet_ok, isin, zcl_ok, if_pos rfl]
    · rw [zwI_n (by decide)]; exact t2
    · rw [zwI_s, upd_n (by decide)]; exact t3
    · rw [zwI_n (by decide), zwI_n (by decide)]; exact t4 j hj
    · rw [zwI_n (by decide), zwI_s, upd_n (by decide)]; exact e12
