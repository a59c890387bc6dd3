/-! PARSERS: a PAPER, a SHEET -/
theorem gTold_p {h : zN} {P j : Nat} (hP : h 1 = P) (hj : gTold (uN h 1 (P + 1)) j) : gTold h j ∨ j = 6 + P := by
  unfold gTold at hj ⊢
  have a0 : uN h 1 (P + 1) 0 = h 0 := if_neg (by omega)
  have a1 : uN h 1 (P + 1) 1 = P + 1 := if_pos rfl
  have a2 : uN h 1 (P + 1) 2 = h 2 := if_neg (by omega)
  rw [a0, a1, a2] at hj
  omega
theorem gH_pap {h : zN} {P : Nat} (hH : gH h) (hP : h 1 = P) (h5 : P < 5) (ha : ∀ b, b < h 0 → h (18 + 6 * P + b) ≤ 30) : gH (uN h 1 (P + 1)) := by
  obtain ⟨k0, k1, k2, k3, k4, k5, kh, kl, ka, kp⟩ := id hH
  have uo : ∀ i, i ≠ 1 → uN h 1 (P + 1) i = h i := fun i a => if_neg a
  have us : uN h 1 (P + 1) 1 = P + 1 := if_pos rfl
  refine ⟨by rw [uo 0 (by omega)]; exact k0, by rw [us]; omega, by rw [uo 2 (by omega)]; exact k2, by rw [uo 3 (by omega)]; exact k3, by rw [uo 4 (by omega)]; exact k4, by rw [uo 5 (by omega)]; exact k5, fun b hb => ?_, fun b hb => ?_, fun p b hp hb => ?_, fun s hs => ?_⟩
  · rw [uo 0 (by omega)] at hb
    rw [uo (6 + b) (by omega)]; exact kh b hb
  · rw [uo 0 (by omega)] at hb
    rw [uo (12 + b) (by omega)]; exact kl b hb
  · rw [us] at hp
    rw [uo 0 (by omega)] at hb
    rw [uo (18 + 6 * p + b) (by omega)]
    by_cases z : p = P
    · rw [z]; exact ha b hb
    · exact ka p b (by omega) hb
  · rw [uo 2 (by omega)] at hs
    rw [uo (48 + s) (by omega), us]
    have := kp s hs
    omega
theorem k_papL {tl lim : Nat} {tb : Nat → Nat} {kz : gTk} {Mc0 Mr0 : zMem} {nu : Nat → List Nat} {oc : Int32} {w : List Nat} {B P : Nat} (hw : gWd w) (h5 : P < 5) : ∀ (m i fu fv : Nat) (h : zN) (k : gTk) (Mc Mr : zMem), i + m = B → m < fu → m < fv → h 0 = B → h 1 = P → gH h → gTS tl lim tb k Mc Mr → (k.1 ≠ 4 → kz.2.2.2.1 < k.2.2.2.1) → gDC h nu oc Mc → gDM h nu oc Mr → (∀ b, b < i → Mc.1 15 (6 * P + b) = nI (h (18 + 6 * P + b)) ∧ h (18 + 6 * P + b) ≤ 30) → Mc.2 14 (6 + P) = lN (gPk 32 w 0) → Mr.2 99 (6 + P) = lN (gPk 27 w 0) → gF [1, 10, 11, 12, 13, 14, 15] [] Mc0 Mc → gF [89, 92, 99] [5, 6, 7, 8, 9, 10, 11, 13, 25] Mr0 Mr → gLn2 tl lim tb kz Mc0 Mr0 (mf_X7_readPaper_l37 gR 10 1 fu (nI i) Mc) (mf_X12_readPaper_l33 gR 89 fv (nI P) (nI i) Mr)
  | 0, i, fu + 1, fv + 1, h, k, Mc, Mr, hi, _, _, hB, hP, hH, S, hpl, D, E, hb, hn, hm, fc, fm => by
    obtain ⟨k0, k1, k2, k3, k4, k5, kh, kl, ka, kp⟩ := id hH
    obtain ⟨d1, d2, d3, d4, d5, d6⟩ := D
    obtain ⟨e1, e2, e3⟩ := E
    have : i = B := by omega
    subst this
    rw [mf_X7_readPaper_l37, mf_X12_readPaper_l33]
    simp only [zl_lit, zlet_ok, zl_m1]
    rw [d1 0 (by omega), hB, if_pos (by rw [nI_leI (by omega) (by omega)]; omega), zald_nI (by omega) (by omega), r89_15, e1 0 (by omega), hB, if_pos (by rw [nI_leI (by omega) (by omega)]; omega), zald_nI (by omega) (by omega), zald_nI (by omega) (by omega), d1 1 (by omega), e1 1 (by omega), hP, nI_add]
    have fC : gF [10] [] Mc (zwI Mc 10 1 (nI (P + 1))) := gF.wI gF.r (by decide) (by decide)
    have fM : gF [92] [] Mr (zwI Mr 92 1 (nI (P + 1))) := gF.wI gF.r (by decide) (by decide)
    have uo : ∀ i, i ≠ 1 → uN h 1 (P + 1) i = h i := fun i a => if_neg a
    have us : uN h 1 (P + 1) 1 = P + 1 := if_pos rfl
    have hnt : ∀ j, gTold h j → j ≠ 6 + P := fun j hj => by unfold gTold at hj; omega
    refine Or.inl ⟨uN h 1 (P + 1), gNu nu (6 + P) w, oc, k, _, _, rfl, rfl, S.fr fC (by decide) fM (by decide) (by decide), hpl, ⟨?_, ?_, ?_, ?_, ?_, ?_⟩, ⟨?_, ?_, ?_⟩, gH_pap hH hP h5 (fun b hb2 => (hb b (by omega)).2), fc.trans (fC.mono (by decide) (by decide)), fm.trans (fM.mono (by decide) (by decide))⟩
    · intro j hj
      rw [zwI_s]
      unfold upd uN
      by_cases z : j = 1
      · rw [if_pos z, if_pos z]
      · rw [if_neg z, if_neg z]; exact d1 j hj
    · rw [zwI_s, upd_n (by decide)]; exact d2
    · intro b hb2
      rw [uo 0 (by omega)] at hb2
      rw [uo (6 + b) (by omega), uo (12 + b) (by omega), zwI_n (by decide), zwI_n (by decide)]
      exact d3 b hb2
    · intro s hs
      rw [uo 2 (by omega)] at hs
      rw [uo (48 + s) (by omega), zwI_n (by decide)]
      exact d4 s hs
    · intro p b hp hb2
      rw [us] at hp
      rw [uo 0 (by omega)] at hb2
      rw [uo (18 + 6 * p + b) (by omega), zwI_n (by decide)]
      by_cases z : p = P
      · rw [z]; exact (hb b (by omega)).1
      · exact d5 p b (by omega) hb2
    · intro j hj
      rw [zwI_L]
      rcases gTold_p hP hj with z | z
      · rw [gNu_n (hnt j z)]; exact d6 j z
      · subst z
        rw [gNu_s]; exact ⟨hw, hn⟩
    · intro j hj
      rw [zwI_s]
      unfold upd uN
      by_cases z : j = 1
      · rw [if_pos z, if_pos z]
      · rw [if_neg z, if_neg z]; exact e1 j hj
    · rw [zwI_n (by decide)]; exact e2
    · intro j hj
      rw [zwI_L]
      rcases gTold_p hP hj with z | z
      · rw [gNu_n (hnt j z)]; exact e3 j z
      · subst z
        rw [gNu_s]; exact hm
  | m + 1, i, fu + 1, fv + 1, h, k, Mc, Mr, hi, hf, hf2, hB, hP, hH, S, hpl, D, E, hb, hn, hm, fc, fm => by
    have hH0 := hH
    obtain ⟨k0, k1, k2, k3, k4, k5, kh, kl, ka, kp⟩ := id hH
    have D0 := D
    have E0 := E
    obtain ⟨d1, d2, d3, d4, d5, d6⟩ := D
    obtain ⟨e1, e2, e3⟩ := E
    rw [mf_X7_readPaper_l37, mf_X12_readPaper_l33]
    simp only [zl_lit, zlet_ok, zl_m1]
    rw [d1 0 (by omega), hB, if_neg (by rw [nI_leI (by omega) (by omega)]; omega), zald_nI (by omega) (by omega), r89_15, e1 0 (by omega), hB, if_neg (by rw [nI_leI (by omega) (by omega)]; omega)]
    unfold mf_X12_put
    simp only [zl_lit, zlet_ok, zl_m1]
    rcases k_num (lo := 0) (hi := 30) S (by omega) (by omega) with ⟨v, kt, Mc3, Mr3, u2, l1, l2, c1, c2, c3, c4, c5, c6, c7⟩ | ⟨Mc3, Mr3, c1, c2, c3, c4, c5⟩
    · have D3 := D0.fr c6 (by decide)
      have E3 := E0.fr c7 (by decide) (by decide)
      rw [c1, c2, zcl_ok, zcl_ok, if_neg (by rw [zm1_ne (by omega)]; exact fun q => q), D3.1 1 (by omega), hP, if_neg (by decide +kernel)]
      simp only [nI_mulE, nI_add]
      rw [zald_nI (by omega) (by omega), zald_nI (by omega) (by omega), r10_10, r89_15, c3, zchk_ok (by first | exact Or.inr rfl | exact Or.inr trivial), zcl_ok, if_neg (by decide +kernel)]
      have fC : gF [15] [] Mc3 (zwI Mc3 15 (P * 6 + i) (nI v)) := gF.wI gF.r (by decide) (by decide)
      have fM : gF [92] [] Mr3 (zwI Mr3 92 (18 + 6 * P + i) (nI v)) := gF.wI gF.r (by decide) (by decide)
      have uo : ∀ j, j ≠ 18 + 6 * P + i → uN h (18 + 6 * P + i) v j = h j := fun j a => if_neg a
      have us : uN h (18 + 6 * P + i) v (18 + 6 * P + i) = v := if_pos rfl
      obtain ⟨x1, x2, x3, x4, x5, x6⟩ := D3
      obtain ⟨y1, y2, y3⟩ := E3
      have ht : ∀ j, gTold (uN h (18 + 6 * P + i) v) j → gTold h j := fun j hj => by
        unfold gTold at hj ⊢
        rw [uo 0 (by omega), uo 1 (by omega), uo 2 (by omega)] at hj
        exact hj
      refine k_papL (B := B) (P := P) (nu := nu) (oc := oc) (kz := kz) hw h5 m (i + 1) fu fv (uN h (18 + 6 * P + i) v) kt _ _ (by omega) (by omega) (by omega) (by rw [uo 0 (by omega)]; exact hB) (by rw [uo 1 (by omega)]; exact hP) ?_ (c4.fr fC (by decide) fM (by decide) (by decide)) ?_ ⟨?_, ?_, ?_, ?_, ?_, ?_⟩ ⟨?_, ?_, ?_⟩ ?_ ?_ ?_ ((fc.trans (c6.mono (by decide) (by decide))).trans (fC.mono (by decide) (by decide))) ((fm.trans (c7.mono (by decide) (by decide))).trans (fM.mono (by decide) (by decide)))
      · refine ⟨by rw [uo 0 (by omega)]; exact k0, by rw [uo 1 (by omega)]; exact k1, by rw [uo 2 (by omega)]; exact k2, by rw [uo 3 (by omega)]; exact k3, by rw [uo 4 (by omega)]; exact k4, by rw [uo 5 (by omega)]; exact k5, fun b hb => ?_, fun b hb => ?_, fun p b hp hb => ?_, fun s hs => ?_⟩
        · rw [uo 0 (by omega)] at hb
          rw [uo (6 + b) (by omega)]; exact kh b hb
        · rw [uo 0 (by omega)] at hb
          rw [uo (12 + b) (by omega)]; exact kl b hb
        · rw [uo 1 (by omega)] at hp
          rw [uo 0 (by omega)] at hb
          rw [uo (18 + 6 * p + b) (by omega)]; exact ka p b hp hb
        · rw [uo 2 (by omega)] at hs
          rw [uo (48 + s) (by omega), uo 1 (by omega)]; exact kp s hs
      · intro q
        have q3 := c5 q
        have q1 := hpl (by omega)
        omega
      · intro j hj
        rw [zwI_n (by decide), uo j (by omega)]; exact x1 j hj
      · rw [zwI_n (by decide)]; exact x2
      · intro b hb2
        rw [uo 0 (by omega)] at hb2
        rw [uo (6 + b) (by omega), uo (12 + b) (by omega), zwI_n (by decide), zwI_n (by decide)]
        exact x3 b hb2
      · intro s hs
        rw [uo 2 (by omega)] at hs
        rw [uo (48 + s) (by omega), zwI_n (by decide)]
        exact x4 s hs
      · intro p b hp hb2
        rw [uo 1 (by omega)] at hp
        rw [uo 0 (by omega)] at hb2
        rw [uo (18 + 6 * p + b) (by omega), zwI_s, upd_n (by omega)]
        exact x5 p b hp hb2
      · intro j hj
        rw [zwI_L]
        exact x6 j (ht j hj)
      · intro j hj
        rw [zwI_s]
        unfold upd uN
        by_cases z : j = 18 + 6 * P + i
        · rw [if_pos z, if_pos z]
        · rw [if_neg z, if_neg z]; exact y1 j hj
      · rw [zwI_n (by decide)]; exact y2
      · intro j hj
        rw [zwI_L]
        exact y3 j (ht j hj)
      · intro b hb2
        rw [zwI_s]
        by_cases z : b = i
        · subst z
          rw [us, show 6 * P + b = P * 6 + b by omega, upd_s]
          exact ⟨rfl, l2⟩
        · rw [uo (18 + 6 * P + b) (by omega), upd_n (by omega), c6.1 15 (by decide) (by decide)]
          exact hb b (by omega)
      · rw [zwI_L, c6.2.1 14 (by decide)]; exact hn
      · rw [zwI_L, c7.2.1 99 (by decide)]; exact hm
    · rw [c1, c2, zcl_ok, zcl_ok]
      rw [if_pos (by first | exact rfl | trivial), if_pos (by first | exact rfl | trivial), zchk_ok (by first | exact Or.inl rfl | exact Or.inl trivial), zcl_ok, if_pos rfl]
      exact Or.inr ⟨Mc3, Mr3, rfl, rfl, c3, fc.trans (c4.mono (by decide) (by decide)), fm.trans (c5.mono (by decide) (by decide))⟩
theorem k_paper {tl lim : Nat} {tb : Nat → Nat} {k : gTk} {Mc Mr : zMem} {h : zN} {nu : Nat → List Nat} {oc : Int32} (S : gTS tl lim tb k Mc Mr) (hk : k.1 = 1) (D : gDC h nu oc Mc) (E : gDM h nu oc Mr) (hH : gH h) : gLn2 tl lim tb k Mc Mr (mf_X7_readPaper gR 10 1 Mc) (mf_X12_readPaper gR 89 Mr) := by
  have D0 := D
  have E0 := E
  have hH0 := hH
  obtain ⟨k0, k1, k2, k3, k4, k5, kh, kl, ka, kp⟩ := id hH
  obtain ⟨d1, d2, d3, d4, d5, d6⟩ := D
  obtain ⟨e1, e2, e3⟩ := E
  unfold mf_X7_readPaper mf_X12_readPaper mf_X12_readFirst
  simp only [zl_lit, zlet_ok, zl_m1]
  rw [d1 1 (by omega), zald_nI (by omega) (by omega), r89_15, e1 1 (by omega)]
  by_cases x1 : h 1 < 5
  · rw [if_pos ((nI_ltI (by omega) (by omega)).mpr x1), if_neg (by rw [nI_eq (by omega) (by omega)]; omega)]
    obtain ⟨k1', Mc1, Mr1, a1, a2, a3, a4, a5, a6⟩ := k_adv S (by omega) (by omega)
    rw [a1, a2, zcl_ok, zcl_ok, zcl_ok, if_neg (by decide +kernel), zald_nI (by omega) (by omega)]
    have D1 := D0.fr a5 (by decide)
    have E1 := E0.fr a6 (by decide) (by decide)
    rw [D1.1 1 (by omega), E1.1 1 (by omega), nI_add]
    rcases k_new a3 D1 E1 hH0 (slot := 6 + h 1) (by omega) with ⟨w, k2', Mc2, Mr2, u1, hw, b1, b2, b3, b4, b5, b6, b7, b8⟩ | ⟨Mc2, Mr2, b1, b2, b3, b4, b5⟩
    · rw [b1, b2, zcl_ok, zcl_ok, if_neg (by decide +kernel), if_neg (by decide +kernel)]
      have gc2 : gF [1, 10, 11, 12, 13, 14, 15] [] Mc Mc2 := (a5.mono (by decide) (by decide)).trans (b5.mono (by decide) (by decide))
      have gm2 : gF [89, 92, 99] [5, 6, 7, 8, 9, 10, 11, 13, 25] Mr Mr2 := (a6.mono (by decide) (by decide)).trans (b6.mono (by decide) (by decide))
      have hnt : ∀ j, gTold h j → j ≠ 6 + h 1 := fun j hj => by unfold gTold at hj; omega
      have D2 : gDC h nu oc Mc2 := by
        obtain ⟨x1, x2, x3, x4, x5, x6⟩ := D1
        refine ⟨?_, ?_, ?_, ?_, ?_, fun j hj => ?_⟩
        · rw [b5.1 10 (by decide) (by decide)]; exact x1
        · rw [b5.1 10 (by decide) (by decide)]; exact x2
        · rw [b5.1 11 (by decide) (by decide), b5.1 12 (by decide) (by decide)]; exact x3
        · rw [b5.1 13 (by decide) (by decide)]; exact x4
        · rw [b5.1 15 (by decide) (by decide)]; exact x5
        · rw [b7, vp_n (hnt j hj)]; exact x6 j hj
      have E2 : gDM h nu oc Mr2 := by
        obtain ⟨y1, y2, y3⟩ := E1
        refine ⟨?_, ?_, fun j hj => ?_⟩
        · rw [b6.1 92 (by decide) (by decide)]; exact y1
        · rw [b6.2.2 25 (by decide)]; exact y2
        · rw [b8, vp_n (hnt j hj)]; exact y3 j hj
      exact k_papL hw x1 (h 0) 0 5000 5000 h k2' Mc2 Mr2 (by omega) (by omega) (by omega) rfl rfl hH0 b3 (fun q => by have q2 := b4 q; have q1 := a4 (by omega); omega) D2 E2 (fun b hb => absurd hb (by omega)) (by rw [b7, updL_s]) (by rw [b8, updL_s]) gc2 gm2
    · rw [b1, b2, zcl_ok, zcl_ok, if_pos rfl, if_pos rfl]
      exact Or.inr ⟨Mc2, Mr2, rfl, rfl, b3, (a5.mono (by decide) (by decide)).trans (b4.mono (by decide) (by decide)), (a6.mono (by decide) (by decide)).trans (b5.mono (by decide) (by decide))⟩
  · rw [if_neg (by rw [nI_ltI (by omega) (by omega)]; exact x1), if_pos (show nI (h 1) = nI 5 by rw [show h 1 = 5 by omega])]
    obtain ⟨Mc1, Mr1, a1, a2, a3, a4, a5⟩ := k_fail (j := 4) S (fun q => by omega) (by omega) (by omega)
    rw [a1, a2, zcl_ok, zcl_ok, zchk_ok (Or.inl rfl), zchk_ok (Or.inl rfl), zcl_ok, if_pos rfl]
    exact Or.inr ⟨Mc1, Mr1, rfl, rfl, a3, a4.mono (by decide) (by decide), a5.mono (by decide) (by decide)⟩
