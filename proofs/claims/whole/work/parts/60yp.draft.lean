/-! PARSERS: the ROOM's draft, a new NAME, a BATH -/
def gDC (h : zN) (nu : Nat → List Nat) (oc : Int32) (M : zMem) : Prop := (∀ j, j < 6 → M.1 10 j = nI (h j)) ∧ M.1 10 11 = oc ∧ (∀ b, b < h 0 → M.1 11 b = nI (h (6 + b)) ∧ M.1 12 b = nI (h (12 + b))) ∧ (∀ s, s < h 2 → M.1 13 s = nI (h (48 + s))) ∧ (∀ p b, p < h 1 → b < h 0 → M.1 15 (6 * p + b) = nI (h (18 + 6 * p + b))) ∧ ∀ j, gTold h j → gWd (nu j) ∧ M.2 14 j = lN (gPk 32 (nu j) 0)
def gDM (h : zN) (nu : Nat → List Nat) (oc : Int32) (M : zMem) : Prop := (∀ j, j < 56 → M.1 92 j = nI (h j)) ∧ M.1 89 25 = oc ∧ ∀ j, gTold h j → M.2 99 j = lN (gPk 27 (nu j) 0)
theorem gDC.fr {h : zN} {nu : Nat → List Nat} {oc : Int32} {M M1 : zMem} {ids ks : List Nat} (hf : gF ids ks M M1) (hi : ∀ o ∈ [10, 11, 12, 13, 14, 15], o ∉ ids) (D : gDC h nu oc M) : gDC h nu oc M1 := by
  unfold gDC at D ⊢
  rw [hf.1 10 (hi 10 (by decide)) (by decide), hf.1 11 (hi 11 (by decide)) (by decide), hf.1 12 (hi 12 (by decide)) (by decide), hf.1 13 (hi 13 (by decide)) (by decide), hf.1 15 (hi 15 (by decide)) (by decide), hf.2.1 14 (hi 14 (by decide))]
  exact D
theorem gDM.fr {h : zN} {nu : Nat → List Nat} {oc : Int32} {M M1 : zMem} {ids ks : List Nat} (hf : gF ids ks M M1) (hi : ∀ o ∈ [92, 99], o ∉ ids) (hk : 25 ∉ ks) (D : gDM h nu oc M) : gDM h nu oc M1 := by
  unfold gDM at D ⊢
  rw [hf.1 92 (hi 92 (by decide)) (by decide), hf.2.1 99 (hi 99 (by decide)), hf.2.2 25 hk]
  exact D
theorem k_new {tl lim : Nat} {tb : Nat → Nat} {k : gTk} {Mc Mr : zMem} {h : zN} {nu : Nat → List Nat} {oc : Int32} {slot : Nat} (S : gTS tl lim tb k Mc Mr) (D : gDC h nu oc Mc) (E : gDM h nu oc Mr) (hH : gH h) (hs : slot < 19) : (∃ (w : List Nat) (k1 : gTk) (Mc1 Mr1 : zMem), k.1 = 1 ∧ gWd w ∧ mf_X7_passNewName gR 10 1 (nI slot) Mc = some (nI 1, Mc1) ∧ mf_X12_readNew gR 89 (nI slot) Mr = some (nI 1, Mr1) ∧ gTS tl lim tb k1 Mc1 Mr1 ∧ (k1.1 ≠ 4 → k.2.2.2.1 < k1.2.2.2.1) ∧ gF [1, 14] [] Mc Mc1 ∧ gF [89, 99] [5, 6, 7, 8, 9] Mr Mr1 ∧ Mc1.2 14 = vp_updL (Mc.2 14) slot (lN (gPk 32 w 0)) ∧ Mr1.2 99 = vp_updL (Mr.2 99) slot (lN (gPk 27 w 0))) ∨ (∃ Mc1 Mr1, mf_X7_passNewName gR 10 1 (nI slot) Mc = some (nI 0, Mc1) ∧ mf_X12_readNew gR 89 (nI slot) Mr = some (nI 0, Mr1) ∧ gBad Mc1 Mr1 ∧ gF [1] [] Mc Mc1 ∧ gF [89] [10, 11] Mr Mr1) := by
  obtain ⟨k0, k1, k2, k3, k4, k5, kh, kl, ka, kp⟩ := id hH
  obtain ⟨d1, d2, d3, d4, d5, d6⟩ := D
  obtain ⟨e1, e2, e3⟩ := E
  have ci := c_isN S
  unfold mf_X7_passNewName mf_X12_readNew
  simp only [zl_lit, zlet_ok, zl_m1]
  rw [m_isN S, zcl_ok]
  cases hn : gIsN k
  · refine Or.inr ?_
    rw [hn] at ci
    obtain ⟨Mc1, Mr1, a1, a2, a3, a4, a5⟩ := k_fail (j := 1) S (fun _ => rfl) (by omega) (by omega)
    rw [if_neg (by rw [ci]; decide), if_pos gB_f0, a1, a2, zcl_ok, zcl_ok, zchk_ok (Or.inl rfl), zchk_ok (Or.inl rfl)]
    exact ⟨Mc1, Mr1, rfl, rfl, a3, a4, a5⟩
  · rw [hn] at ci
    have hn2 : k.1 = 1 ∧ gKi k.2.1 = 24 := of_decide_eq_true hn
    obtain ⟨w1, w2, w3⟩ := k_word S hn2.1
    have c0 := c_find (nu := nu) (first := 0) (n := h 0) (M := Mc) r10_9 (by omega) w1 (fun i hi => by rw [Nat.zero_add]; exact d6 i (Or.inl hi))
    have c6 := c_find (nu := nu) (first := 6) (n := h 1) (M := Mc) r10_9 (by omega) w1 (fun i hi => d6 (6 + i) (Or.inr (Or.inl ⟨by omega, by omega⟩)))
    have c11 := c_find (nu := nu) (first := 11) (n := h 2) (M := Mc) r10_9 (by omega) w1 (fun i hi => d6 (11 + i) (Or.inr (Or.inr ⟨by omega, by omega⟩)))
    have m0 := m_find (nu := nu) (first := 0) (n := h 0) (c := 99) (M := Mr) (by omega) w1 (fun i hi => by rw [Nat.zero_add]; exact ⟨(d6 i (Or.inl hi)).1, e3 i (Or.inl hi)⟩)
    have m6 := m_find (nu := nu) (first := 6) (n := h 1) (c := 99) (M := Mr) (by omega) w1 (fun i hi => ⟨(d6 (6 + i) (Or.inr (Or.inl ⟨by omega, by omega⟩))).1, e3 (6 + i) (Or.inr (Or.inl ⟨by omega, by omega⟩))⟩)
    have m11 := m_find (nu := nu) (first := 11) (n := h 2) (c := 99) (M := Mr) (by omega) w1 (fun i hi => ⟨(d6 (11 + i) (Or.inr (Or.inr ⟨by omega, by omega⟩))).1, e3 (11 + i) (Or.inr (Or.inr ⟨by omega, by omega⟩))⟩)
    have l0 := gFi_le (nu := nu) (first := 0) (n := h 0) (w := k.2.1)
    have l6 := gFi_le (nu := nu) (first := 6) (n := h 1) (w := k.2.1)
    have l11 := gFi_le (nu := nu) (first := 11) (n := h 2) (w := k.2.1)
    rw [if_pos (by rw [ci]), if_neg gB_t0, w2, d1 0 (by omega), c0, zcl_ok, zald_nI (by omega) (by omega), r89_15, e1 0 (by omega), r89_22, w3, m0, zcl_ok]
    have fc : ∃ Mc1 Mr1, mf_X7_passNewName_b63 gR 10 1 Mc = some (nI 0, Mc1) ∧ mf_X12_readNew_b91 gR 89 Mr = some (nI 0, Mr1) ∧ gBad Mc1 Mr1 ∧ gF [1] [] Mc Mc1 ∧ gF [89] [10, 11] Mr Mr1 := by
      obtain ⟨Mc1, Mr1, a1, a2, a3, a4, a5⟩ := k_fail (j := 3) S (fun q => by omega) (by omega) (by omega)
      unfold mf_X7_passNewName_b63 mf_X12_readNew_b91
      simp only [zl_lit]
      rw [a1, a2, zcl_ok, zcl_ok, zchk_ok (Or.inl rfl), zchk_ok (Or.inl rfl)]
      exact ⟨Mc1, Mr1, rfl, rfl, a3, a4, a5⟩
    have b58 : mf_X12_readNew_b58 gR 89 (nI slot) Mr = mf_X12_readNew_b91 gR 89 Mr := by
      unfold mf_X12_readNew_b58 mf_X12_readNew_b63
      simp only [zl_lit]
      rw [if_neg (by decide +kernel)]
    rw [b58]
    by_cases x0 : gFi nu 0 (h 0) k.2.1 = h 0
    · rw [if_pos (show enX (h 0) (gFi nu 0 (h 0) k.2.1) = zm1 by rw [enX_m1 (by omega)]; exact x0), if_pos (show enX (h 0) (gFi nu 0 (h 0) k.2.1) = zm1 by rw [enX_m1 (by omega)]; exact x0), d1 1 (by omega), c6, zcl_ok, zald_nI (by omega) (by omega), e1 1 (by omega), w3, m6, zcl_ok]
      by_cases x6 : gFi nu 6 (h 1) k.2.1 = h 1
      · rw [if_pos (show enX (h 1) (gFi nu 6 (h 1) k.2.1) = zm1 by rw [enX_m1 (by omega)]; exact x6), if_pos (show enX (h 1) (gFi nu 6 (h 1) k.2.1) = zm1 by rw [enX_m1 (by omega)]; exact x6), d1 2 (by omega), c11, zcl_ok]
        unfold mf_X12_readNew_b63
        simp only [zl_lit, zlet_ok, zl_m1]
        rw [if_pos trivial, zald_nI (by omega) (by omega), zald_nI (by omega) (by omega), r89_15, e1 2 (by omega), r89_22, w3, m11, zcl_ok]
        by_cases x11 : gFi nu 11 (h 2) k.2.1 = h 2
        · refine Or.inl ?_
          have fc1 : gF [1, 14] [] Mc (zwL Mc 14 slot (lN (gPk 32 k.2.1 0))) := gF.wL gF.r (by decide)
          have fm1 : gF [89, 99] [5, 6, 7, 8, 9] Mr (zwL Mr 99 slot (lN (gPk 27 k.2.1 0))) := gF.wL gF.r (by decide)
          have S1 : gTS tl lim tb k (zwL Mc 14 slot (lN (gPk 32 k.2.1 0))) (zwL Mr 99 slot (lN (gPk 27 k.2.1 0))) := S.fr (gF.wL (ids := [14]) (ks := []) gF.r (by decide)) (by decide) (gF.wL (ids := [99]) (ks := []) gF.r (by decide)) (by decide) (by decide)
          obtain ⟨k1, Mc1, Mr1, a1, a2, a3, a4, a5, a6⟩ := k_adv S1 (by omega) (by omega)
          rw [if_pos (show enX (h 2) (gFi nu 11 (h 2) k.2.1) = zm1 by rw [enX_m1 (by omega)]; exact x11), if_pos (show enX (h 2) (gFi nu 11 (h 2) k.2.1) = zm1 by rw [enX_m1 (by omega)]; exact x11), if_neg (by rw [nI_ltI (by omega) (by omega)]; omega), if_neg (by rw [nI_leI (by omega) (by omega)]; omega), zald_nI (by omega) (by omega), r10_9, w3, a2, zcl_ok]
          unfold mf_X7_passNewName_b86
          simp only [zl_lit]
          rw [a1, zcl_ok]
          refine ⟨k.2.1, k1, Mc1, Mr1, hn2.1, w1, rfl, rfl, a3, a4, fc1.trans (a5.mono (by decide) (by decide)), fm1.trans (a6.mono (by decide) (by decide)), ?_, ?_⟩
          · rw [a5.2.1 14 (by decide), zwL_s]
          · rw [a6.2.1 99 (by decide), zwL_s]
        · refine Or.inr ?_
          rw [if_neg (show ¬ enX (h 2) (gFi nu 11 (h 2) k.2.1) = zm1 by rw [enX_m1 (by omega)]; exact x11), if_neg (show ¬ enX (h 2) (gFi nu 11 (h 2) k.2.1) = zm1 by rw [enX_m1 (by omega)]; exact x11)]
          exact fc
      · refine Or.inr ?_
        rw [if_neg (show ¬ enX (h 1) (gFi nu 6 (h 1) k.2.1) = zm1 by rw [enX_m1 (by omega)]; exact x6), if_neg (show ¬ enX (h 1) (gFi nu 6 (h 1) k.2.1) = zm1 by rw [enX_m1 (by omega)]; exact x6)]
        exact fc
    · refine Or.inr ?_
      rw [if_neg (show ¬ enX (h 0) (gFi nu 0 (h 0) k.2.1) = zm1 by rw [enX_m1 (by omega)]; exact x0), if_neg (show ¬ enX (h 0) (gFi nu 0 (h 0) k.2.1) = zm1 by rw [enX_m1 (by omega)]; exact x0)]
      exact fc
/-- how a LINE of a ROOM comes out in both -/
def gLn2 (tl lim : Nat) (tb : Nat → Nat) (k : gTk) (Mc Mr : zMem) (rc rm : Option (Int32 × zMem)) : Prop := (∃ (h : zN) (nu : Nat → List Nat) (oc : Int32) (k1 : gTk) (Mc1 Mr1 : zMem), rc = some (nI 1, Mc1) ∧ rm = some (nI 1, Mr1) ∧ gTS tl lim tb k1 Mc1 Mr1 ∧ (k1.1 ≠ 4 → k.2.2.2.1 < k1.2.2.2.1) ∧ gDC h nu oc Mc1 ∧ gDM h nu oc Mr1 ∧ gH h ∧ gF [1, 10, 11, 12, 13, 14, 15] [] Mc Mc1 ∧ gF [89, 92, 99] [5, 6, 7, 8, 9, 10, 11, 13, 25] Mr Mr1) ∨ (∃ Mc1 Mr1, rc = some (nI 0, Mc1) ∧ rm = some (nI 0, Mr1) ∧ gBad Mc1 Mr1 ∧ gF [1, 10, 11, 12, 13, 14, 15] [] Mc Mc1 ∧ gF [89, 92, 99] [5, 6, 7, 8, 9, 10, 11, 13, 25] Mr Mr1)
theorem k_lnf {tl lim : Nat} {tb : Nat → Nat} {k k0 : gTk} {Mc Mr Mc0 Mr0 : zMem} {j : Nat} (S : gTS tl lim tb k Mc Mr) (hj : k.1 = 4 → j = 1) (h1 : 1 ≤ j) (h4 : j ≤ 4) (fc : gF [1, 10, 11, 12, 13, 14, 15] [] Mc0 Mc) (fm : gF [89, 92, 99] [5, 6, 7, 8, 9, 10, 11, 13, 25] Mr0 Mr) : gLn2 tl lim tb k0 Mc0 Mr0 (zcl (mf_X10_fail gR 1 (nI j) Mc) fun r14 M13 => zchk (r14 = nI 0 ∨ r14 = nI 1) (some (r14, M13))) (zcl (mf_X12_bad gR 89 (nI j) Mr) fun r6 M5 => zchk (r6 = nI 0 ∨ r6 = nI 1) (some (r6, M5))) := by
  obtain ⟨Mc1, Mr1, a1, a2, a3, a4, a5⟩ := k_fail S hj h1 h4
  rw [a1, a2, zcl_ok, zcl_ok, zchk_ok (Or.inl rfl), zchk_ok (Or.inl rfl)]
  exact Or.inr ⟨Mc1, Mr1, rfl, rfl, a3, fc.trans (a4.mono (by decide) (by decide)), fm.trans (a5.mono (by decide) (by decide))⟩
theorem vp_n {f : Nat → Int64} {k j : Nat} {v : Int64} (h : j ≠ k) : vp_updL f k v j = f j := if_neg h
def gNu (nu : Nat → List Nat) (s : Nat) (w : List Nat) : Nat → List Nat := fun j => if j = s then w else nu j
theorem gNu_s {nu : Nat → List Nat} {s : Nat} {w : List Nat} : gNu nu s w s = w := if_pos rfl
theorem gNu_n {nu : Nat → List Nat} {s j : Nat} {w : List Nat} (h : j ≠ s) : gNu nu s w j = nu j := if_neg h
theorem k_bath {tl lim : Nat} {tb : Nat → Nat} {k : gTk} {Mc Mr : zMem} {h : zN} {nu : Nat → List Nat} {oc : Int32} (S : gTS tl lim tb k Mc Mr) (hk : k.1 = 1) (D : gDC h nu oc Mc) (E : gDM h nu oc Mr) (hH : gH h) : gLn2 tl lim tb k Mc Mr (mf_X7_readBath gR 10 1 Mc) (mf_X12_readBath gR 89 Mr) := by
  have D0 := D
  have E0 := E
  obtain ⟨k0, k1, k2, k3, k4, k5, kh, kl, ka, kp⟩ := id hH
  have k3' := k3
  have k4' := k4
  have k5' := k5
  obtain ⟨d1, d2, d3, d4, d5, d6⟩ := D
  obtain ⟨e1, e2, e3⟩ := E
  unfold mf_X7_readBath mf_X12_readBath mf_X12_readFirst
  simp only [zl_lit, zlet_ok, zl_m1]
  rw [d1 1 (by omega), d1 0 (by omega), zald_nI (by omega) (by omega), r89_15, e1 1 (by omega), zald_nI (by omega) (by omega), e1 0 (by omega)]
  by_cases x1 : h 1 ≤ 0
  · rw [if_pos ((nI_leI (by omega) (by omega)).mpr x1), if_pos ((nI_leI (by omega) (by omega)).mpr x1)]
    by_cases x0 : h 0 < 6
    · have h2 : h 2 = 0 := by
        rcases Nat.eq_zero_or_pos (h 2) with z | z
        · exact z
        · have := kp 0 z; omega
      rw [if_pos ((nI_ltI (by omega) (by omega)).mpr x0), if_neg (by rw [nI_eq (by omega) (by omega)]; omega)]
      obtain ⟨k1, Mc1, Mr1, a1, a2, a3, a4, a5, a6⟩ := k_adv S (by omega) (by omega)
      rw [a1, a2, zcl_ok, zcl_ok, zcl_ok, if_neg (by decide +kernel), zald_nI (by omega) (by omega)]
      have D1 := D0.fr a5 (by decide)
      have E1 := E0.fr a6 (by decide) (by decide)
      rw [D1.1 0 (by omega), E1.1 0 (by omega), nI_add, Nat.zero_add]
      rcases k_new a3 D1 E1 hH (slot := h 0) (by omega) with ⟨w, k2, Mc2, Mr2, u1, hw, b1, b2, b3, b4, b5, b6, b7, b8⟩ | ⟨Mc2, Mr2, b1, b2, b3, b4, b5⟩
      · rw [b1, b2, zcl_ok, zcl_ok, if_neg (by decide +kernel), if_neg (by decide +kernel)]
        have gc2 : gF [1, 10, 11, 12, 13, 14, 15] [] Mc Mc2 := (a5.mono (by decide) (by decide)).trans (b5.mono (by decide) (by decide))
        have gm2 : gF [89, 92, 99] [5, 6, 7, 8, 9, 10, 11, 13, 25] Mr Mr2 := (a6.mono (by decide) (by decide)).trans (b6.mono (by decide) (by decide))
        rcases k_num (lo := 1) (hi := 4) b3 (by omega) (by omega) with ⟨v1, k3, Mc3, Mr3, u2, l1, l2, c1, c2, c3, c4, c5, c6, c7⟩ | ⟨Mc3, Mr3, c1, c2, c3, c4, c5⟩
        · rw [c1, c2, zcl_ok, zcl_ok, if_neg (by rw [zm1_ne (by omega)]; exact fun q => q)]
          unfold mf_X12_put
          simp only [zl_lit, zlet_ok]
          rw [if_neg (by decide +kernel), nI_add, zald_nI (by omega) (by omega), r89_15, c3, zchk_ok (by first | exact Or.inr rfl | exact Or.inr trivial | exact Or.inl rfl | exact Or.inl trivial), zcl_ok, if_neg (by decide +kernel)]
          have fw : gF [92] [] Mr3 (zwI Mr3 92 (6 + h 0) (nI v1)) := gF.wI gF.r (by decide) (by decide)
          have S3 : gTS tl lim tb k3 Mc3 (zwI Mr3 92 (6 + h 0) (nI v1)) := c4.fr (gF.r (ids := []) (ks := [])) (by decide) fw (by decide) (by decide)
          have gc3 : gF [1, 10, 11, 12, 13, 14, 15] [] Mc Mc3 := gc2.trans (c6.mono (by decide) (by decide))
          have gm3 : gF [89, 92, 99] [5, 6, 7, 8, 9, 10, 11, 13, 25] Mr (zwI Mr3 92 (6 + h 0) (nI v1)) := (gm2.trans (c7.mono (by decide) (by decide))).trans (fw.mono (by decide) (by decide))
          rcases k_num (lo := 1) (hi := 99) S3 (by omega) (by omega) with ⟨v2, k4, Mc4, Mr4, u3, l3, l4, g1, g2, g3, g4, g5, g6, g7⟩ | ⟨Mc4, Mr4, g1, g2, g3, g4, g5⟩
          · rw [g1, g2, zcl_ok, zcl_ok]
            unfold mf_X7_readBath_b71
            simp only [zl_lit, zlet_ok, zl_m1]
            have Dc4 : Mc4.1 10 = Mc.1 10 := by rw [g6.1 10 (by decide) (by decide), c6.1 10 (by decide) (by decide), b5.1 10 (by decide) (by decide), a5.1 10 (by decide) (by decide)]
            have Dc11 : Mc4.1 11 = Mc.1 11 := by rw [g6.1 11 (by decide) (by decide), c6.1 11 (by decide) (by decide), b5.1 11 (by decide) (by decide), a5.1 11 (by decide) (by decide)]
            have Dc12 : Mc4.1 12 = Mc.1 12 := by rw [g6.1 12 (by decide) (by decide), c6.1 12 (by decide) (by decide), b5.1 12 (by decide) (by decide), a5.1 12 (by decide) (by decide)]
            have Dc14 : Mc4.2 14 = vp_updL (Mc.2 14) (h 0) (lN (gPk 32 w 0)) := by rw [g6.2.1 14 (by decide), c6.2.1 14 (by decide), b7, a5.2.1 14 (by decide)]
            have Dm92 : Mr4.1 92 = upd (Mr.1 92) (6 + h 0) (nI v1) := by rw [g7.1 92 (by decide) (by decide), zwI_s, c7.1 92 (by decide) (by decide), b6.1 92 (by decide) (by decide), a6.1 92 (by decide) (by decide)]
            have Dm99 : Mr4.2 99 = vp_updL (Mr.2 99) (h 0) (lN (gPk 27 w 0)) := by rw [g7.2.1 99 (by decide), fw.2.1 99 (by decide), c7.2.1 99 (by decide), b8, a6.2.1 99 (by decide)]
            have Dm25 : Mr4.1 89 25 = oc := by rw [g7.2.2 25 (by decide), fw.2.2 25 (by decide), c7.2.2 25 (by decide), b6.2.2 25 (by decide), a6.2.2 25 (by decide)]; exact e2
            have y1 : Mc4.1 10 0 = nI (h 0) := by rw [Dc4]; exact d1 0 (by omega)
            have y2 : (zwI Mc4 11 (h 0) (nI v1)).1 10 0 = nI (h 0) := by rw [zwI_n (by decide)]; exact y1
            have y3 : (zwI (zwI Mc4 11 (h 0) (nI v1)) 12 (h 0) (nI v2)).1 10 0 = nI (h 0) := by rw [zwI_n (by decide)]; exact y2
            have y4 : (zwI Mr4 92 (12 + h 0) (nI v2)).1 92 0 = nI (h 0) := by rw [zwI_s, upd_n (by omega), Dm92, upd_n (by omega)]; exact e1 0 (by omega)
            rw [if_neg (by rw [zm1_ne (by omega)]; exact fun q => q), y1, zald_nI (by omega) (by omega), r10_6, y2, zald_nI (by omega) (by omega), r10_7, y3, if_neg (by decide +kernel), nI_add, nI_add, zald_nI (by omega) (by omega), g3, zchk_ok (by first | exact Or.inr rfl | exact Or.inr trivial | exact Or.inl rfl | exact Or.inl trivial), zcl_ok, if_neg (by decide +kernel), zald_nI (by omega) (by omega), zald_nI (by omega) (by omega), y4, nI_add]
            have fC : gF [10, 11, 12] [] Mc4 (zwI (zwI (zwI Mc4 11 (h 0) (nI v1)) 12 (h 0) (nI v2)) 10 0 (nI (h 0 + 1))) := gF.wI (gF.wI (gF.wI gF.r (by decide) (by decide)) (by decide) (by decide)) (by decide) (by decide)
            have fM : gF [92] [] Mr4 (zwI (zwI Mr4 92 (12 + h 0) (nI v2)) 92 0 (nI (h 0 + 1))) := gF.wI (gF.wI gF.r (by decide) (by decide)) (by decide) (by decide)
            have uo : ∀ j, j ≠ 0 → j ≠ 12 + h 0 → j ≠ 6 + h 0 → uN (uN (uN h (6 + h 0) v1) (12 + h 0) v2) 0 (h 0 + 1) j = h j := fun j a b c => by unfold uN; rw [if_neg a, if_neg b, if_neg c]
            refine Or.inl ⟨uN (uN (uN h (6 + h 0) v1) (12 + h 0) v2) 0 (h 0 + 1), gNu nu (h 0) w, oc, k4, _, _, rfl, rfl, g4.fr fC (by decide) fM (by decide) (by decide), ?_, ⟨?_, ?_, ?_, ?_, ?_, ?_⟩, ⟨?_, ?_, ?_⟩, ?_, (gc3.trans (g6.mono (by decide) (by decide))).trans (fC.mono (by decide) (by decide)), (gm3.trans (g7.mono (by decide) (by decide))).trans (fM.mono (by decide) (by decide))⟩
            · intro q
              have q4 := g5 q
              have q3 := c5 (by omega)
              have q2 := b4 (by omega)
              have q1 := a4 (by omega)
              omega
            · intro j hj
              rw [zwI_s, zwI_n (by decide), zwI_n (by decide), Dc4]
              unfold upd uN
              by_cases z : j = 0
              · rw [if_pos z, if_pos z]
              · rw [if_neg z, if_neg z, if_neg (by omega), if_neg (by omega)]; exact d1 j hj
            · rw [zwI_s, upd_n (by decide), zwI_n (by decide), zwI_n (by decide), Dc4]; exact d2
            · intro b hb
              have hb2 : b < h 0 + 1 := hb
              rw [zwI_n (by decide), zwI_n (by decide), zwI_s, zwI_n (by decide), zwI_s, zwI_n (by decide), Dc11, Dc12]
              unfold upd uN
              by_cases z : b = h 0
              · subst z
                rw [if_pos rfl, if_pos rfl, if_neg (by omega), if_neg (by omega), if_pos rfl, if_neg (by omega), if_pos rfl]
                exact ⟨rfl, rfl⟩
              · rw [if_neg z, if_neg z, if_neg (by omega), if_neg (by omega), if_neg (by omega), if_neg (by omega), if_neg (by omega), if_neg (by omega)]
                exact d3 b (by omega)
            · intro s hs
              rw [uo 2 (by omega) (by omega) (by omega)] at hs
              omega
            · intro p b hp
              rw [uo 1 (by omega) (by omega) (by omega)] at hp
              omega
            · intro j hj
              have hj2 : j < h 0 + 1 := by
                rcases hj with z | z | z
                · exact z
                · rw [uo 1 (by omega) (by omega) (by omega)] at z
                  omega
                · rw [uo 2 (by omega) (by omega) (by omega)] at z
                  omega
              rw [zwI_L, zwI_L, zwI_L, Dc14]
              by_cases z : j = h 0
              · subst z
                rw [gNu_s, updL_s]
                exact ⟨hw, rfl⟩
              · rw [gNu_n z, vp_n z]
                exact d6 j (Or.inl (by omega))
            · intro j hj
              rw [zwI_s, zwI_s, Dm92]
              unfold upd uN
              by_cases z : j = 0
              · rw [if_pos z, if_pos z]
              · rw [if_neg z, if_neg z]
                by_cases z2 : j = 12 + h 0
                · rw [if_pos z2, if_pos z2]
                · rw [if_neg z2, if_neg z2]
                  by_cases z3 : j = 6 + h 0
                  · rw [if_pos z3, if_pos z3]
                  · rw [if_neg z3, if_neg z3]; exact e1 j hj
            · rw [zwI_n (by decide), zwI_n (by decide)]; exact Dm25
            · intro j hj
              have hj2 : j < h 0 + 1 := by
                rcases hj with z | z | z
                · exact z
                · rw [uo 1 (by omega) (by omega) (by omega)] at z
                  omega
                · rw [uo 2 (by omega) (by omega) (by omega)] at z
                  omega
              rw [zwI_L, zwI_L, Dm99]
              by_cases z : j = h 0
              · subst z
                rw [gNu_s, updL_s]
              · rw [gNu_n z, vp_n z]
                exact e3 j (Or.inl (by omega))
            · have hz : h 1 = 0 := by omega
              refine ⟨?_, ?_, ?_, ?_, ?_, ?_, ?_, ?_, ?_, ?_⟩
              · show h 0 + 1 ≤ 6; omega
              · rw [uo 1 (by omega) (by omega) (by omega)]; omega
              · rw [uo 2 (by omega) (by omega) (by omega)]; omega
              · rw [uo 3 (by omega) (by omega) (by omega)]; exact k3'
              · rw [uo 4 (by omega) (by omega) (by omega)]; exact k4'
              · rw [uo 5 (by omega) (by omega) (by omega)]; exact k5'
              · intro b hb
                have hb2 : b < h 0 + 1 := hb
                unfold uN
                try rw [if_neg (by omega)]
                try rw [if_neg (by omega)]
                by_cases z : b = h 0
                · rw [if_pos (by omega)]; omega
                · rw [if_neg (by omega)]; exact kh b (by omega)
              · intro b hb
                have hb2 : b < h 0 + 1 := hb
                unfold uN
                try rw [if_neg (by omega)]
                by_cases z : b = h 0
                · rw [if_pos (by omega)]; omega
                · rw [if_neg (by omega), if_neg (by omega)]; exact kl b (by omega)
              · intro p b hp
                rw [uo 1 (by omega) (by omega) (by omega)] at hp
                omega
              · intro s hs
                rw [uo 2 (by omega) (by omega) (by omega)] at hs
                omega
          · rw [g1, g2, zcl_ok, zcl_ok]
            unfold mf_X7_readBath_b71
            simp only [zl_lit, zlet_ok, zl_m1]
            rw [if_pos trivial, if_pos trivial, zchk_ok (by first | exact Or.inr rfl | exact Or.inr trivial | exact Or.inl rfl | exact Or.inl trivial), zcl_ok, if_pos rfl]
            exact Or.inr ⟨Mc4, Mr4, rfl, rfl, g3, gc3.trans (g4.mono (by decide) (by decide)), gm3.trans (g5.mono (by decide) (by decide))⟩
        · rw [c1, c2, zcl_ok, zcl_ok, if_pos rfl]
          unfold mf_X7_readBath_b71 mf_X12_put
          simp only [zl_lit, zlet_ok, zl_m1]
          rw [if_pos trivial, if_pos trivial, zchk_ok (by first | exact Or.inr rfl | exact Or.inr trivial | exact Or.inl rfl | exact Or.inl trivial), zcl_ok, if_pos rfl]
          exact Or.inr ⟨Mc3, Mr3, rfl, rfl, c3, gc2.trans (c4.mono (by decide) (by decide)), gm2.trans (c5.mono (by decide) (by decide))⟩
      · rw [b1, b2, zcl_ok, zcl_ok, if_pos rfl, if_pos rfl]
        exact Or.inr ⟨Mc2, Mr2, rfl, rfl, b3, (a5.mono (by decide) (by decide)).trans (b4.mono (by decide) (by decide)), (a6.mono (by decide) (by decide)).trans (b5.mono (by decide) (by decide))⟩
    · rw [if_neg (by rw [nI_ltI (by omega) (by omega)]; exact x0), if_pos (show nI (h 0) = nI 6 by rw [show h 0 = 6 by omega])]
      obtain ⟨Mc1, Mr1, a1, a2, a3, a4, a5⟩ := k_fail (j := 4) S (fun q => by omega) (by omega) (by omega)
      rw [a1, a2, zcl_ok, zcl_ok, zchk_ok (by first | exact Or.inr rfl | exact Or.inr trivial | exact Or.inl rfl | exact Or.inl trivial), zchk_ok (by first | exact Or.inr rfl | exact Or.inr trivial | exact Or.inl rfl | exact Or.inl trivial), zcl_ok, if_pos rfl]
      exact Or.inr ⟨Mc1, Mr1, rfl, rfl, a3, a4.mono (by decide) (by decide), a5.mono (by decide) (by decide)⟩
  · rw [if_neg (by rw [nI_leI (by omega) (by omega)]; exact x1), if_neg (by rw [nI_leI (by omega) (by omega)]; exact x1)]
    exact k_lnf S (fun q => by omega) (by omega) (by omega) gF.r gF.r
