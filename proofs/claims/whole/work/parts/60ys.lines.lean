/-! PARSERS: a SHEET, a LINE -/
theorem gH_sh {h : zN} {p : Nat} (hH : gH h) (h8 : h 2 < 8) (hp : p < h 1) : gH (uN (uN h (48 + h 2) p) 2 (h 2 + 1)) := by
  obtain ⟨k0, k1, k2, k3, k4, k5, kh, kl, ka, kp⟩ := id hH
  have uo : ∀ i, i ≠ 2 → i ≠ 48 + h 2 → uN (uN h (48 + h 2) p) 2 (h 2 + 1) i = h i := fun i a b => by unfold uN; rw [if_neg a, if_neg b]
  have u2 : uN (uN h (48 + h 2) p) 2 (h 2 + 1) 2 = h 2 + 1 := if_pos rfl
  have us : uN (uN h (48 + h 2) p) 2 (h 2 + 1) (48 + h 2) = p := by unfold uN; rw [if_neg (by omega), if_pos rfl]
  refine ⟨by rw [uo 0 (by omega) (by omega)]; exact k0, by rw [uo 1 (by omega) (by omega)]; exact k1, by rw [u2]; omega, by rw [uo 3 (by omega) (by omega)]; exact k3, by rw [uo 4 (by omega) (by omega)]; exact k4, by rw [uo 5 (by omega) (by omega)]; exact k5, fun b hb => ?_, fun b hb => ?_, fun q b hq hb => ?_, fun s hs => ?_⟩
  · rw [uo 0 (by omega) (by omega)] at hb
    rw [uo (6 + b) (by omega) (by omega)]; exact kh b hb
  · rw [uo 0 (by omega) (by omega)] at hb
    rw [uo (12 + b) (by omega) (by omega)]; exact kl b hb
  · rw [uo 1 (by omega) (by omega)] at hq
    rw [uo 0 (by omega) (by omega)] at hb
    rw [uo (18 + 6 * q + b) (by omega) (by omega)]; exact ka q b hq hb
  · rw [u2] at hs
    rw [uo 1 (by omega) (by omega)]
    by_cases z : s = h 2
    · rw [z, us]; exact hp
    · rw [uo (48 + s) (by omega) (by omega)]; exact kp s (by omega)
theorem k_sheet {tl lim : Nat} {tb : Nat → Nat} {k : gTk} {Mc Mr : zMem} {h : zN} {nu : Nat → List Nat} {oc : Int32} (S : gTS tl lim tb k Mc Mr) (hk : k.1 = 1) (D : gDC h nu oc Mc) (E : gDM h nu oc Mr) (hH : gH h) : gLn2 tl lim tb k Mc Mr (mf_X7_readSheet gR 10 1 Mc) (mf_X12_readSheet gR 89 Mr) := by
  have D0 := D
  have E0 := E
  have hH0 := hH
  obtain ⟨k0, k1, k2, k3, k4, k5, kh, kl, ka, kp⟩ := id hH
  obtain ⟨d1, d2, d3, d4, d5, d6⟩ := D
  obtain ⟨e1, e2, e3⟩ := E
  unfold mf_X7_readSheet mf_X12_readSheet mf_X12_readFirst
  simp only [zl_lit, zlet_ok, zl_m1]
  rw [d1 2 (by omega), zald_nI (by omega) (by omega), r89_15, e1 2 (by omega)]
  by_cases x1 : h 2 < 8
  · rw [if_pos ((nI_ltI (by omega) (by omega)).mpr x1), if_neg (by rw [nI_eq (by omega) (by omega)]; omega)]
    obtain ⟨ka1, Mc1, Mr1, a1, a2, a3, a4, a5, a6⟩ := k_adv S (by omega) (by omega)
    rw [a1, a2, zcl_ok, zcl_ok, zcl_ok, if_neg (by decide +kernel), zald_nI (by omega) (by omega)]
    have D1 := D0.fr a5 (by decide)
    have E1 := E0.fr a6 (by decide) (by decide)
    rw [D1.1 2 (by omega), E1.1 2 (by omega), nI_add]
    rcases k_new a3 D1 E1 hH0 (slot := 11 + h 2) (by omega) with ⟨w, ka2, Mc2, Mr2, u1, hw, b1, b2, b3, b4, b5, b6, b7, b8⟩ | ⟨Mc2, Mr2, b1, b2, b3, b4, b5⟩
    · rw [b1, b2, zcl_ok, zcl_ok, if_neg (by decide +kernel), if_neg (by decide +kernel)]
      have gc2 : gF [1, 10, 11, 12, 13, 14, 15] [] Mc Mc2 := (a5.mono (by decide) (by decide)).trans (b5.mono (by decide) (by decide))
      have gm2 : gF [89, 92, 99] [5, 6, 7, 8, 9, 10, 11, 13, 25] Mr Mr2 := (a6.mono (by decide) (by decide)).trans (b6.mono (by decide) (by decide))
      have hnt : ∀ j, gTold h j → j ≠ 11 + h 2 := fun j hj => by unfold gTold at hj; omega
      have D2 : gDC h nu oc Mc2 := by
        obtain ⟨x1, x2, x3, x4, x5, x6⟩ := D1
        refine ⟨?_, ?_, ?_, ?_, ?_, fun j hj => ?_⟩
        · rw [b5.1 10 (by decide) (by decide)]; exact x1
        · rw [b5.1 10 (by decide) (by decide)]; exact x2
        · rw [b5.1 11 (by decide) (by decide), b5.1 12 (by decide) (by decide)]; exact x3
        · rw [b5.1 13 (by decide) (by decide)]; exact x4
        · rw [b5.1 15 (by decide) (by decide)]; exact x5
        · rw [b7, vp_n (hnt j hj)]; exact x6 j hj
      have E2 : gDM h nu oc Mr2 := by
        obtain ⟨y1, y2, y3⟩ := E1
        refine ⟨?_, ?_, fun j hj => ?_⟩
        · rw [b6.1 92 (by decide) (by decide)]; exact y1
        · rw [b6.2.2 25 (by decide)]; exact y2
        · rw [b8, vp_n (hnt j hj)]; exact y3 j hj
      have n14 : Mc2.2 14 (11 + h 2) = lN (gPk 32 w 0) := by rw [b7, updL_s]
      have n99 : Mr2.2 99 (11 + h 2) = lN (gPk 27 w 0) := by rw [b8, updL_s]
      have ci := c_isN b3
      unfold mf_X7_passKnown
      simp only [zl_lit, zlet_ok, zl_m1]
      rw [m_isN b3, zcl_ok, D2.1 1 (by omega)]
      cases hn : gIsN ka2
      · rw [hn] at ci
        obtain ⟨Mc3, Mr3, c1, c2, c3, c4, c5⟩ := k_fail (j := 1) b3 (fun _ => rfl) (by omega) (by omega)
        rw [if_neg (by rw [ci]; decide), if_pos gB_f0, c1, c2, zcl_ok, zcl_ok, zcl_ok, if_pos (by first | exact rfl | trivial), zchk_ok (by first | exact Or.inl rfl | exact Or.inl trivial)]
        exact Or.inr ⟨Mc3, Mr3, rfl, rfl, c3, gc2.trans (c4.mono (by decide) (by decide)), gm2.trans (c5.mono (by decide) (by decide))⟩
      · rw [hn] at ci
        have hn2 : ka2.1 = 1 ∧ gKi ka2.2.1 = 24 := of_decide_eq_true hn
        obtain ⟨w1, w2, w3⟩ := k_word b3 hn2.1
        have c6 := c_find (nu := nu) (first := 6) (n := h 1) (M := Mc2) r10_9 (by omega) w1 (fun i hi => D2.2.2.2.2.2 (6 + i) (Or.inr (Or.inl ⟨by omega, by omega⟩)))
        have m6 := m_find (nu := nu) (first := 6) (n := h 1) (c := 99) (M := Mr2) (by omega) w1 (fun i hi => ⟨(D2.2.2.2.2.2 (6 + i) (Or.inr (Or.inl ⟨by omega, by omega⟩))).1, E2.2.2 (6 + i) (Or.inr (Or.inl ⟨by omega, by omega⟩))⟩)
        have l6 := gFi_le (nu := nu) (first := 6) (n := h 1) (w := ka2.2.1)
        rw [if_pos (by rw [ci]), if_neg gB_t0, w2, c6, zcl_ok, zald_nI (by omega) (by omega), r89_22, E2.1 1 (by omega), w3, m6, zcl_ok]
        by_cases x6 : gFi nu 6 (h 1) ka2.2.1 = h 1
        · obtain ⟨Mc3, Mr3, c1, c2, c3, c4, c5⟩ := k_fail (j := 3) b3 (fun q => by omega) (by omega) (by omega)
          rw [if_pos (show enX (h 1) (gFi nu 6 (h 1) ka2.2.1) = zm1 by rw [enX_m1 (by omega)]; exact x6), if_pos (show enX (h 1) (gFi nu 6 (h 1) ka2.2.1) = zm1 by rw [enX_m1 (by omega)]; exact x6), c1, c2, zcl_ok, zcl_ok, zcl_ok, if_pos (by first | exact rfl | trivial), zchk_ok (by first | exact Or.inl rfl | exact Or.inl trivial)]
          exact Or.inr ⟨Mc3, Mr3, rfl, rfl, c3, gc2.trans (c4.mono (by decide) (by decide)), gm2.trans (c5.mono (by decide) (by decide))⟩
        · obtain ⟨ka3, Mc3, Mr3, c1, c2, c3, c4, c5, c6'⟩ := k_adv b3 (by omega) (by omega)
          rw [if_neg (show ¬ enX (h 1) (gFi nu 6 (h 1) ka2.2.1) = zm1 by rw [enX_m1 (by omega)]; exact x6), if_neg (show ¬ enX (h 1) (gFi nu 6 (h 1) ka2.2.1) = zm1 by rw [enX_m1 (by omega)]; exact x6), c1, c2, zcl_ok, zcl_ok, zcl_ok, if_neg (show ¬ enX (h 1) (gFi nu 6 (h 1) ka2.2.1) = zm1 by rw [enX_m1 (by omega)]; exact x6), enX_ne x6]
          have D3 := D2.fr c5 (by decide)
          have E3 := E2.fr c6' (by decide) (by decide)
          have n14' : Mc3.2 14 (11 + h 2) = lN (gPk 32 w 0) := by rw [c5.2.1 14 (by decide)]; exact n14
          have n99' : Mr3.2 99 (11 + h 2) = lN (gPk 27 w 0) := by rw [c6'.2.1 99 (by decide)]; exact n99
          have hpl : gFi nu 6 (h 1) ka2.2.1 < h 1 := by omega
          generalize gFi nu 6 (h 1) ka2.2.1 = p at *
          obtain ⟨X1, X2, X3, X4, X5, X6⟩ := D3
          obtain ⟨Y1, Y2, Y3⟩ := E3
          have y4 : (zwI Mc3 13 (h 2) (nI p)).1 10 2 = nI (h 2) := by rw [zwI_n (by decide)]; exact X1 2 (by omega)
          have y5 : (zwI Mr3 92 (48 + h 2) (nI p)).1 92 2 = nI (h 2) := by rw [zwI_s, upd_n (by omega)]; exact Y1 2 (by omega)
          simp only [nI_add]
          rw [X1 2 (by omega), zald_nI (by omega) (by omega), r10_8, y4, zald_nI (by omega) (by omega), zald_nI (by omega) (by omega), zald_nI (by omega) (by omega), y5]
          simp only [nI_add]
          have fC : gF [10, 13] [] Mc3 (zwI (zwI Mc3 13 (h 2) (nI p)) 10 2 (nI (h 2 + 1))) := gF.wI (gF.wI gF.r (by decide) (by decide)) (by decide) (by decide)
          have fM : gF [92] [] Mr3 (zwI (zwI Mr3 92 (48 + h 2) (nI p)) 92 2 (nI (h 2 + 1))) := gF.wI (gF.wI gF.r (by decide) (by decide)) (by decide) (by decide)
          have uo : ∀ i, i ≠ 2 → i ≠ 48 + h 2 → uN (uN h (48 + h 2) p) 2 (h 2 + 1) i = h i := fun i a b => by unfold uN; rw [if_neg a, if_neg b]
          have u2 : uN (uN h (48 + h 2) p) 2 (h 2 + 1) 2 = h 2 + 1 := if_pos rfl
          have us : uN (uN h (48 + h 2) p) 2 (h 2 + 1) (48 + h 2) = p := by unfold uN; rw [if_neg (by omega), if_pos rfl]
          have ht : ∀ j, gTold (uN (uN h (48 + h 2) p) 2 (h 2 + 1)) j → gTold h j ∨ j = 11 + h 2 := fun j hj => by
            unfold gTold at hj ⊢
            rw [uo 0 (by omega) (by omega), uo 1 (by omega) (by omega), u2] at hj
            omega
          refine Or.inl ⟨uN (uN h (48 + h 2) p) 2 (h 2 + 1), gNu nu (11 + h 2) w, oc, ka3, _, _, rfl, rfl, c3.fr fC (by decide) fM (by decide) (by decide), fun q => ?_, ⟨?_, ?_, ?_, ?_, ?_, ?_⟩, ⟨?_, ?_, ?_⟩, gH_sh hH0 x1 hpl, (gc2.trans (c5.mono (by decide) (by decide))).trans (fC.mono (by decide) (by decide)), (gm2.trans (c6'.mono (by decide) (by decide))).trans (fM.mono (by decide) (by decide))⟩
          · have q3 := c4 q
            have q2 := b4 (by omega)
            have q1 := a4 (by omega)
            omega
          · intro j hj
            rw [zwI_s, zwI_n (by decide)]
            by_cases z : j = 2
            · subst z; rw [upd_s, u2]
            · rw [upd_n z, uo j z (by omega)]; exact X1 j hj
          · rw [zwI_s, upd_n (by decide), zwI_n (by decide)]; exact X2
          · intro b hb
            rw [uo 0 (by omega) (by omega)] at hb
            rw [uo (6 + b) (by omega) (by omega), uo (12 + b) (by omega) (by omega), zwI_n (by decide), zwI_n (by decide), zwI_n (by decide), zwI_n (by decide)]
            exact X3 b hb
          · intro s hs
            rw [u2] at hs
            rw [zwI_n (by decide), zwI_s]
            by_cases z : s = h 2
            · subst z; rw [us, upd_s]
            · rw [uo (48 + s) (by omega) (by omega), upd_n z]; exact X4 s (by omega)
          · intro q b hq hb
            rw [uo 1 (by omega) (by omega)] at hq
            rw [uo 0 (by omega) (by omega)] at hb
            rw [uo (18 + 6 * q + b) (by omega) (by omega), zwI_n (by decide), zwI_n (by decide)]
            exact X5 q b hq hb
          · intro j hj
            rw [zwI_L, zwI_L]
            rcases ht j hj with z | z
            · rw [gNu_n (hnt j z)]; exact X6 j z
            · subst z
              rw [gNu_s]; exact ⟨hw, n14'⟩
          · intro j hj
            rw [zwI_s, zwI_s]
            by_cases z : j = 2
            · subst z; rw [upd_s, u2]
            · by_cases z2 : j = 48 + h 2
              · subst z2; rw [upd_n z, upd_s, us]
              · rw [upd_n z, upd_n z2, uo j z z2]; exact Y1 j hj
          · rw [zwI_n (by decide), zwI_n (by decide)]; exact Y2
          · intro j hj
            rw [zwI_L, zwI_L]
            rcases ht j hj with z | z
            · rw [gNu_n (hnt j z)]; exact Y3 j z
            · subst z
              rw [gNu_s]; exact n99'
    · rw [b1, b2, zcl_ok, zcl_ok, if_pos rfl, if_pos rfl]
      exact Or.inr ⟨Mc2, Mr2, rfl, rfl, b3, (a5.mono (by decide) (by decide)).trans (b4.mono (by decide) (by decide)), (a6.mono (by decide) (by decide)).trans (b5.mono (by decide) (by decide))⟩
  · rw [if_neg (by rw [nI_ltI (by omega) (by omega)]; exact x1), if_pos (show nI (h 2) = nI 8 by rw [show h 2 = 8 by omega])]
    obtain ⟨Mc1, Mr1, a1, a2, a3, a4, a5⟩ := k_fail (j := 4) S (fun q => by omega) (by omega) (by omega)
    rw [a1, a2, zcl_ok, zcl_ok, zchk_ok (Or.inl rfl), zchk_ok (Or.inl rfl), zcl_ok, if_pos rfl]
    exact Or.inr ⟨Mc1, Mr1, rfl, rfl, a3, a4.mono (by decide) (by decide), a5.mono (by decide) (by decide)⟩
theorem k_chk {tl lim : Nat} {tb : Nat → Nat} {k : gTk} {Mc Mr : zMem} {rc rm : Option (Int32 × zMem)} (L : gLn2 tl lim tb k Mc Mr rc rm) : gLn2 tl lim tb k Mc Mr (zcl rc fun r M2 => zchk (r = nI 0 ∨ r = nI 1) (some (r, M2))) (zcl rm fun r M2 => zchk (r = nI 0 ∨ r = nI 1) (some (r, M2))) := by
  have L0 := L
  rcases L with ⟨h, nu, oc, k1, Mc1, Mr1, a1, a2, _⟩ | ⟨Mc1, Mr1, a1, a2, _⟩
  · rw [a1, a2, zcl_ok, zcl_ok, zchk_ok (Or.inr rfl), zchk_ok (Or.inr rfl), ← a1, ← a2]; exact L0
  · rw [a1, a2, zcl_ok, zcl_ok, zchk_ok (Or.inl rfl), zchk_ok (Or.inl rfl), ← a1, ← a2]; exact L0
theorem k_line {tl lim : Nat} {tb : Nat → Nat} {k : gTk} {Mc Mr : zMem} {h : zN} {nu : Nat → List Nat} {oc : Int32} (S : gTS tl lim tb k Mc Mr) (D : gDC h nu oc Mc) (E : gDM h nu oc Mr) (hH : gH h) : gLn2 tl lim tb k Mc Mr (mf_X7_readLine gR 10 1 Mc) (mf_X12_readLine gR 89 Mr) := by
  have lk := gKy_le (k := k)
  have k1 : gKy k < 24 → k.1 = 1 := fun q => by
    unfold gKy at q
    by_cases z : k.1 = 1
    · exact z
    · rw [if_neg z] at q; omega
  unfold mf_X7_readLine mf_X12_readLine
  simp only [zl_lit]
  rw [c_key S, m_isWd S (by omega), zcl_ok, m_isWd S (by omega), zcl_ok, m_isWd S (by omega), zcl_ok, m_isWd S (by omega), zcl_ok, m_isWd S (by omega), zcl_ok, m_isWd S (by omega), zcl_ok]
  have hne : ∀ j, j < 24 → ¬ gKy k = j → ¬ enX 24 (gKy k) = nI j := fun j hj hn q => by
    by_cases z : gKy k = 24
    · unfold enX at q
      rw [if_pos z] at q
      have := zm1_ne' (n := j) (by omega)
      rw [this] at q
      exact q
    · rw [enX_ne z, nI_eq (by omega) (by omega)] at q
      exact hn q
  have heq : ∀ j, j < 24 → gKy k = j → enX 24 (gKy k) = nI j := fun j hj hn => by rw [enX_ne (by omega), hn]
  by_cases y0 : gKy k = 0
  · rw [if_pos (heq 0 (by omega) y0), decide_eq_true y0, if_neg gB_t0]
    exact k_chk (k_bath S (k1 (by omega)) D E hH)
  rw [if_neg (hne 0 (by omega) y0), decide_eq_false y0, if_pos gB_f0]
  by_cases y1 : gKy k = 1
  · rw [if_pos (heq 1 (by omega) y1), decide_eq_true y1, if_neg gB_t0]
    exact k_chk (k_paper S (k1 (by omega)) D E hH)
  rw [if_neg (hne 1 (by omega) y1), decide_eq_false y1, if_pos gB_f0]
  by_cases y2 : gKy k = 2
  · rw [if_pos (heq 2 (by omega) y2), decide_eq_true y2, if_neg gB_t0]
    exact k_chk (k_sheet S (k1 (by omega)) D E hH)
  rw [if_neg (hne 2 (by omega) y2), decide_eq_false y2, if_pos gB_f0]
  by_cases y3 : gKy k = 3
  · rw [if_pos (heq 3 (by omega) y3), decide_eq_true y3, if_neg gB_t0]
    exact k_chk (k_once S (k1 (by omega)) y3 (by omega) D E hH)
  rw [if_neg (hne 3 (by omega) y3), decide_eq_false y3, if_pos gB_f0]
  by_cases y4 : gKy k = 4
  · rw [if_pos (heq 4 (by omega) y4), decide_eq_true y4, if_neg gB_t0]
    exact k_chk (k_once S (k1 (by omega)) y4 (by omega) D E hH)
  rw [if_neg (hne 4 (by omega) y4), decide_eq_false y4, if_pos gB_f0]
  by_cases y5 : gKy k = 5
  · rw [if_pos (heq 5 (by omega) y5), decide_eq_true y5, if_neg gB_t0]
    exact k_chk (k_once S (k1 (by omega)) y5 (by omega) D E hH)
  rw [if_neg (hne 5 (by omega) y5), decide_eq_false y5, if_pos gB_f0]
  exact k_lnf S (fun _ => rfl) (by omega) (by omega) gF.r gF.r
