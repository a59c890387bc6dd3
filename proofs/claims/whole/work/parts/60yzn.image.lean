/-! IMAGES: both -/
theorem gIq_in {b n j : Nat} {r g : Nat → Int32} (h : j < n) : gIq b n r g (b + j) = r j := by
  unfold gIq
  rw [if_pos (by omega), Nat.add_sub_cancel_left]
theorem gIqL_in {b n j : Nat} {r g : Nat → Int64} (h : j < n) : gIqL b n r g (b + j) = r j := by
  unfold gIqL
  rw [if_pos (by omega), Nat.add_sub_cancel_left]
theorem gIq_out {b n j : Nat} {r g : Nat → Int32} (h : j < b ∨ b + n ≤ j) : gIq b n r g j = g j := by
  unfold gIq
  try rw [if_neg (by omega)]
theorem gIqL_out {b n j : Nat} {r g : Nat → Int64} (h : j < b ∨ b + n ≤ j) : gIqL b n r g j = g j := by
  unfold gIqL
  try rw [if_neg (by omega)]
def gRf (p : Nat) : Prop := (zrf gR p 0 = p + 1 ∧ zrf gR p 1 = p + 7 ∧ zrf gR p 2 = p + 12) ∧ (zrf gR (p + 1) 6 = p + 2 ∧ zrf gR (p + 1) 7 = p + 3 ∧ zrf gR (p + 1) 8 = p + 4 ∧ zrf gR (p + 1) 9 = p + 5 ∧ zrf gR (p + 1) 10 = p + 6) ∧ zrf gR (p + 7) 2 = p + 8 ∧ zrf gR (p + 7) 3 = p + 9 ∧ zrf gR (p + 7) 4 = p + 10
theorem gRf_63 : gRf 63 := ⟨by decide +kernel, by decide +kernel, by decide +kernel, by decide +kernel, by decide +kernel⟩
theorem gRf_76 : gRf 76 := ⟨by decide +kernel, by decide +kernel, by decide +kernel, by decide +kernel, by decide +kernel⟩
theorem k_image {p k c : Nat} {h a : zN} {t : Nat → Int32} {sn : Nat → zN} {n : Nat} {M : zMem} {nu : Nat → List Nat} (hk : k < 2) (hp : 63 ≤ p ∧ p ≤ 76) (rf : gRf p) (X : gX c h a t sn n M) (N : gNm h nu M) (I : gSI 20 21 22 23 h t M) : ∃ M1 M2, mf_X2_keep gR p 4 16 20 M = some ((), M1) ∧ mf_X12_image gR 89 (nI k) M1 = some (nI 1, M2) ∧ gF [p, p + 1, p + 2, p + 3, p + 4, p + 5, p + 6, p + 7, p + 8, p + 9, p + 10, p + 12, 93, 100, 101] [0] M M2 ∧ gIm p k c M2 ∧ (∀ j, j < 354 * k ∨ 354 * k + 354 ≤ j → M2.1 93 j = M.1 93 j) ∧ (∀ j, j < 19 * k ∨ 19 * k + 19 ≤ j → M2.2 100 j = M.2 100 j) ∧ ∀ j, j ≠ k → M2.1 101 j = M.1 101 j := by
  obtain ⟨rr, rq, rs⟩ := rf
  obtain ⟨W, P1, P2, hn, hO, hS⟩ := X
  obtain ⟨hr, hc0, hm, hH, hA⟩ := W
  obtain ⟨M1, a1, a2, a3, a4, a5, a6, a7⟩ := c_keep rr rq rs hp hr ⟨_, hc0⟩ hH hO I
  have o1 : ∀ x, 89 < x → x ∉ [p, p + 1, p + 2, p + 3, p + 4, p + 5, p + 6, p + 7, p + 8, p + 9, p + 10, p + 12] := by
    intro x hx
    try simp
    omega
  have m91 : (zwI M1 89 0 (nI 0)).1 91 = encM h a t := by
    rw [zwI_n (by decide), a7.1 91 (o1 91 (by omega)) (by omega)]
    exact hm
  have m93 : (zwI M1 89 0 (nI 0)).1 93 = M.1 93 := by
    rw [zwI_n (by decide), a7.1 93 (o1 93 (by omega)) (by omega)]
  have m98 : (zwI M1 89 0 (nI 0)).2 98 = M.2 98 := by
    rw [zwI_L, a7.2.1 98 (o1 98 (by omega))]
  have m100 : (zwI M1 89 0 (nI 0)).2 100 = M.2 100 := by
    rw [zwI_L, a7.2.1 100 (o1 100 (by omega))]
  have m101 : (zwI M1 89 0 (nI 0)).1 101 = M.1 101 := by
    rw [zwI_n (by decide), a7.1 101 (o1 101 (by omega)) (by omega)]
  have is : mf_X12_isIn gR (nI k) (nI 0) (nI 1) (zwI M1 89 0 (nI 0)) = some (nI 1, zwI M1 89 0 (nI 0)) := m_isIn (n := 2) hk (by decide)
  have low : ∀ x, x < 89 → (zwI (zrowL (zrowI (zwI M1 89 0 (nI 0)) 93 (gIq (354 * k) 354 (encM h a t) (M.1 93))) 100 (gIqL (19 * k) 19 (M.2 98) (M.2 100))) 101 k (nI 1)).1 x = M1.1 x := fun x hx => by
    rw [zwI_n (by omega), zrL_I, zrI_n (by omega), zwI_n (by omega)]
  refine ⟨M1, zwI (zrowL (zrowI (zwI M1 89 0 (nI 0)) 93 (gIq (354 * k) 354 (encM h a t) (M.1 93))) 100 (gIqL (19 * k) 19 (M.2 98) (M.2 100))) 101 k (nI 1), a1, ?_, ?_, Or.inr ⟨?_, ?_, h, a, t, nu, hH, hA, hO, ?_, ?_, ?_, fun j hj => ?_, fun j hj => ⟨(N j hj).1, ?_, ?_⟩⟩, fun j hj => ?_, fun j hj => ?_, fun j hj => ?_⟩
  · unfold mf_X12_image
    simp only [zl_lit, zlet_ok]
    rw [is, zcl_ok, if_neg (by decide +kernel), m_im18 hk, m_im51 hk, m91, m93, zrI_L, m98, m100]
  · exact gF.wI (gF.rL (gF.rI (gF.w9 (a7.mono (by simp) (by simp)) (by simp)) (by simp) (by decide)) (by simp)) (by simp) (by decide)
  · rw [low p (by omega)]
    exact a2
  · rw [zwI_s, upd_s]
  · exact a3.cg (fun x h1 h2 => low x (by omega))
  · rw [low (p + 12) (by omega)]
    exact a4
  · exact a5.cg (low _ (by omega)) (low _ (by omega)) (low _ (by omega)) (low _ (by omega)) (fun _ _ => rfl)
  · rw [zwI_n (by decide), zrL_I, zrI_s, gIq_in hj]
  · rw [zwI_L, zrL_n (by omega), zrI_L, zwI_L, a6 j (gTold_lt hH hj)]
    exact (N j hj).2.1
  · rw [zwI_L, zrL_s, gIqL_in (gTold_lt hH hj)]
    exact (N j hj).2.2
  · rw [zwI_n (by decide), zrL_I, zrI_s, gIq_out hj]
  · rw [zwI_L, zrL_s, gIqL_out hj]
  · rw [zwI_s, upd_n hj, zrL_I, zrI_n (by decide), m101]
abbrev gIdI : List Nat := [63, 64, 65, 66, 67, 68, 69, 70, 71, 72, 73, 75, 76, 77, 78, 79, 80, 81, 82, 83, 84, 85, 86, 88, 93, 100, 101]
theorem q_image {c : Nat} {h a : zN} {t : Nat → Int32} {sn : Nat → zN} {n : Nat} {M : zMem} {nu : Nat → List Nat} (X : gX c h a t sn n M) (N : gNm h nu M) (I : gSI 20 21 22 23 h t M) (J0 : gIm 63 0 c M) (J1 : gIm 76 1 c M) (x : Int32) : ∃ r M1 M2, mf_X11_image gR 0 x M = some (r, M1) ∧ mf_X12_image gR 89 x M1 = some (r, M2) ∧ gF gIdI [0] M M2 ∧ gIm 63 0 c M2 ∧ gIm 76 1 c M2 := by
  rcases gcase (n := 2) (by omega) x with ⟨k, hk, rfl⟩ | ho
  · have ec : ∀ p M1, zrf gR 62 k = p → mf_X2_keep gR p 4 16 20 M = some ((), M1) → mf_X11_image gR 0 (nI k) M = some (nI 1, M1) := fun p M1 hp e => by
      unfold mf_X11_image
      simp only [zl_lit, r0_13, r0_1, r0_3, r0_5]
      rw [if_neg (show ¬ nI k < nI 0 by rw [nI_ltI (by omega) (by omega)]; omega), if_pos (show nI k < nI 2 by rw [nI_ltI (by omega) (by omega)]; omega), zald_nI (by omega) (by omega), hp, e, zcl_ok]
    rcases (show k = 0 ∨ k = 1 by omega) with rfl | rfl
    · obtain ⟨M1, M2, a1, a2, a3, a4, a5, a6, a7⟩ := k_image (p := 63) hk (by decide) gRf_63 X N I
      refine ⟨nI 1, M1, M2, ec 63 M1 r62_0 a1, a2, a3.mono (by decide) (by decide), a4, gIm.cg (fun x h1 h2 => a3.1 x ?_ (by omega)) (a3.2.1 _ (by decide)) (fun j hj => a5 _ (by omega)) (fun j hj => a6 _ (by omega)) (a7 1 (by decide)) J1⟩
      try simp
      omega
    · obtain ⟨M1, M2, a1, a2, a3, a4, a5, a6, a7⟩ := k_image (p := 76) hk (by decide) gRf_76 X N I
      refine ⟨nI 1, M1, M2, ec 76 M1 r62_1 a1, a2, a3.mono (by decide) (by decide), gIm.cg (fun x h1 h2 => a3.1 x ?_ (by omega)) (a3.2.1 _ (by decide)) (fun j hj => a5 _ (by omega)) (fun j hj => a6 _ (by omega)) (a7 0 (by decide)) J0, a4⟩
      try simp
      omega
  · have fz : gF gIdI [0] M (zwI M 89 0 (nI 0)) := gF.w9 gF.r (by decide)
    have is : mf_X12_isIn gR x (nI 0) (nI 1) (zwI M 89 0 (nI 0)) = some (nI 0, zwI M 89 0 (nI 0)) := m_isIn_n (n := 2) (by decide) ho
    have n9 : ∀ x, x ≠ 89 → (zwI M 89 0 (nI 0)).1 x = M.1 x := fun x hx => zwI_n hx
    refine ⟨nI 0, M, zwI M 89 0 (nI 0), ?_, ?_, fz, gIm.cg (fun x h1 h2 => n9 x (by omega)) rfl (fun j _ => by rw [n9 93 (by decide)]) (fun j _ => rfl) (by rw [n9 101 (by decide)]) J0, gIm.cg (fun x h1 h2 => n9 x (by omega)) rfl (fun j _ => by rw [n9 93 (by decide)]) (fun j _ => rfl) (by rw [n9 101 (by decide)]) J1⟩
    · unfold mf_X11_image
      simp only [zl_lit]
      rcases ho with e | e
      · rw [if_pos e]
      · by_cases e0 : x < nI 0
        · rw [if_pos e0]
        · rw [if_neg e0, if_neg (Int32.not_lt.mpr e)]
    · unfold mf_X12_image
      simp only [zl_lit, zlet_ok]
      rw [is, zcl_ok, if_pos rfl]
/-- RESTORE -/
theorem k_restore {p k c : Nat} {h a : zN} {t : Nat → Int32} {sn : Nat → zN} {n : Nat} {M : zMem} (hk : k < 2) (hp : 63 ≤ p ∧ p ≤ 76) (rf : gRf p) (X : gX c h a t sn n M) (e1 : M.1 101 k = nI 1) (Q : gIQ p k c M) : ∃ M1 M2 h' a' t' nu', (zcl (mf_X2_giveBack gR p 4 16 20 M) fun _ M6 => zcl (mf_X5_forget gR 33 M6) fun _ M8 => some (nI 1, M8)) = some (nI 1, M1) ∧ mf_X12_restore gR 89 (nI k) M1 = some (nI 1, M2) ∧ gF [4, 5, 6, 7, 8, 9, 17, 20, 21, 22, 23, 33, 91, 98] [0, 26] M M2 ∧ gX c h' a' t' sn 0 M2 ∧ gNm h' nu' M2 ∧ gSI 20 21 22 23 h' t' M2 := by
  obtain ⟨rr, rq, rs⟩ := rf
  obtain ⟨W, P1, P2, hn, hO0, hS⟩ := X
  obtain ⟨_, _, hm, _, _⟩ := W
  obtain ⟨h', a', t', nu', hH, hA, hO, D, hz, S, h93, hN⟩ := Q
  obtain ⟨M1, b1, b2, b3, b4, b5, b6⟩ := c_back rr rq rs hp D hz hH S
  have o1 : ∀ x, 23 < x → x ∉ [4, 5, 6, 7, 8, 9, 17, 20, 21, 22, 23] := by
    intro x hx
    try simp
    omega
  have n9 : ∀ x, 33 < x → x ≠ 89 → (zwI (zwI M1 33 2 (nI 0)) 89 0 (nI 0)).1 x = M.1 x := fun x h1 h2 => by
    rw [zwI_n h2, zwI_n (by omega), b6.1 x (o1 x (by omega)) h2]
  have is : mf_X12_isIn gR (nI k) (nI 0) (nI 1) (zwI (zwI M1 33 2 (nI 0)) 89 0 (nI 0)) = some (nI 1, zwI (zwI M1 33 2 (nI 0)) 89 0 (nI 0)) := m_isIn (n := 2) hk (by decide)
  have e91 : gIv (354 * k) 354 (M.1 93) (M.1 91) = encM h' a' (fun j => if j < 354 then t' j else t j) := by
    funext j
    unfold gIv
    by_cases e : j < 354
    · rw [if_pos e, h93 j e]
      unfold encM
      simp only [if_pos e]
    · rw [if_neg e, hm, eM_t (by omega), eM_t (by omega), if_neg e]
  have l100 : (zrowI (zwI (zwI M1 33 2 (nI 0)) 89 0 (nI 0)) 91 (encM h' a' (fun j => if j < 354 then t' j else t j))).2 100 = M.2 100 := by
    rw [zrI_L, zwI_L, zwI_L, b6.2.1 100 (o1 100 (by omega))]
  have l98 : (zrowI (zwI (zwI M1 33 2 (nI 0)) 89 0 (nI 0)) 91 (encM h' a' (fun j => if j < 354 then t' j else t j))).2 98 = M.2 98 := by
    rw [zrI_L, zwI_L, zwI_L, b6.2.1 98 (o1 98 (by omega))]
  have low : ∀ x, x ≠ 33 → x ≠ 89 → x ≠ 91 → (zwI (zrowL (zrowI (zwI (zwI M1 33 2 (nI 0)) 89 0 (nI 0)) 91 (encM h' a' (fun j => if j < 354 then t' j else t j))) 98 (gIvL (19 * k) 19 (M.2 100) (M.2 98))) 89 26 (nI 0)).1 x = M1.1 x := fun x h1 h2 h3 => by
    rw [zwI_n h2, zrL_I, zrI_n h3, zwI_n h2, zwI_n h1]
  have fz : gF [4, 5, 6, 7, 8, 9, 17, 20, 21, 22, 23, 33, 91, 98] [0, 26] M (zwI (zrowL (zrowI (zwI (zwI M1 33 2 (nI 0)) 89 0 (nI 0)) 91 (encM h' a' (fun j => if j < 354 then t' j else t j))) 98 (gIvL (19 * k) 19 (M.2 100) (M.2 98))) 89 26 (nI 0)) := gF.w9 (gF.rL (gF.rI (gF.w9 (gF.wI (b6.mono (by decide) (by decide)) (by decide) (by decide)) (by decide)) (by decide) (by decide)) (by decide)) (by decide)
  refine ⟨zwI M1 33 2 (nI 0), zwI (zrowL (zrowI (zwI (zwI M1 33 2 (nI 0)) 89 0 (nI 0)) 91 (encM h' a' (fun j => if j < 354 then t' j else t j))) 98 (gIvL (19 * k) 19 (M.2 100) (M.2 98))) 89 26 (nI 0), h', a', (fun j => if j < 354 then t' j else t j), nu', ?_, ?_, fz, ?_, ?_, ?_⟩
  · unfold mf_X5_forget
    simp only [zl_lit, zlet_ok]
    rw [b1, zcl_ok, zcl_ok]
  · unfold mf_X12_restore
    simp only [zl_lit, zlet_ok, r89_24]
    rw [is, zcl_ok, if_neg (by decide +kernel), zald_nI (by omega) (by omega), n9 101 (by omega) (by omega), e1, if_neg (by decide +kernel), m_re27 hk, n9 93 (by omega) (by omega), n9 91 (by omega) (by omega), e91, m_re60 hk, l100, l98]
  · refine ⟨gW.mk (z := M1.1 17) ?_ ?_ ?_ hH hA, ?_, ?_, by omega, hO, fun i hi => absurd hi (by omega)⟩
    · refine gRQ_4.mp ((gRQ_4.mpr b2).cg (fun x h1 h2 => low x (by omega) (by omega) (by omega)))
    · rw [low 17 (by omega) (by omega) (by omega)]
      exact b3
    · rw [zwI_n (by decide), zrL_I, zrI_s]
    · obtain ⟨nx, p1, p2, p3, p4⟩ := P1
      refine ⟨nx, p1, ?_, ?_, fun i hi => absurd hi (by omega)⟩
      · rw [zwI_n (by decide), zrL_I, zrI_n (by decide), zwI_n (by decide), zwI_s, upd_n (by decide), b6.1 33 (by decide) (by decide)]
        exact p2
      · rw [zwI_n (by decide), zrL_I, zrI_n (by decide), zwI_n (by decide), zwI_s, upd_s]
    · refine ⟨?_, fun i hi => absurd hi (by omega)⟩
      rw [zwI_s, upd_s]
  · intro j hj
    refine ⟨(hN j hj).1, ?_, ?_⟩
    · rw [zwI_L, zrL_n (by decide), zrI_L, zwI_L, zwI_L, b5 j (gTold_lt hH hj)]
      exact (hN j hj).2.1
    · rw [zwI_L, zrL_s]
      unfold gIvL
      rw [if_pos (gTold_lt hH hj)]
      exact (hN j hj).2.2
  · exact b4.cg (low _ (by omega) (by omega) (by omega)) (low _ (by omega) (by omega) (by omega)) (low _ (by omega) (by omega) (by omega)) (low _ (by omega) (by omega) (by omega)) (fun j hj => if_pos hj)
abbrev gIdR : List Nat := [4, 5, 6, 7, 8, 9, 17, 20, 21, 22, 23, 33, 91, 98]
theorem q_restore {c : Nat} {h a : zN} {t : Nat → Int32} {sn : Nat → zN} {n : Nat} {M : zMem} {nu : Nat → List Nat} (X : gX c h a t sn n M) (N : gNm h nu M) (I : gSI 20 21 22 23 h t M) (J0 : gIm 63 0 c M) (J1 : gIm 76 1 c M) (x : Int32) : ∃ r M1 M2 h' a' t' n' nu', mf_X11_restore gR 0 x M = some (r, M1) ∧ mf_X12_restore gR 89 x M1 = some (r, M2) ∧ gF gIdR [0, 26] M M2 ∧ gX c h' a' t' sn n' M2 ∧ gNm h' nu' M2 ∧ gSI 20 21 22 23 h' t' M2 := by
  have fz : gF gIdR [0, 26] M (zwI M 89 0 (nI 0)) := gF.w9 gF.r (by decide)
  have fy : gF [] [0] M (zwI M 89 0 (nI 0)) := gF.w9 gF.r (by decide)
  have n9 : ∀ x, x ≠ 89 → (zwI M 89 0 (nI 0)).1 x = M.1 x := fun x hx => zwI_n hx
  have Xn : gX c h a t sn n (zwI M 89 0 (nI 0)) := X.fr fy (by decide) (by decide)
  have Nn : gNm h nu (zwI M 89 0 (nI 0)) := N.fr fy (by decide)
  have In : gSI 20 21 22 23 h t (zwI M 89 0 (nI 0)) := I.fr fy (by decide)
  rcases gcase (n := 2) (by omega) x with ⟨k, hk, rfl⟩ | ho
  · have key : ∀ p, zrf gR 62 k = p → 63 ≤ p → p ≤ 76 → gRf p → gIm p k c M → ∃ r M1 M2 h' a' t' n' nu', mf_X11_restore gR 0 (nI k) M = some (r, M1) ∧ mf_X12_restore gR 89 (nI k) M1 = some (r, M2) ∧ gF gIdR [0, 26] M M2 ∧ gX c h' a' t' sn n' M2 ∧ gNm h' nu' M2 ∧ gSI 20 21 22 23 h' t' M2 := by
      intro p hp h1 h2 rf J
      have is : mf_X12_isIn gR (nI k) (nI 0) (nI 1) (zwI M 89 0 (nI 0)) = some (nI 1, zwI M 89 0 (nI 0)) := m_isIn (n := 2) hk (by decide)
      have ec : mf_X11_restore gR 0 (nI k) M = if M.1 p 3 = nI 0 then some (nI 0, M) else (zcl (mf_X2_giveBack gR p 4 16 20 M) fun _ M6 => zcl (mf_X5_forget gR 33 M6) fun _ M8 => some (nI 1, M8)) := by
        unfold mf_X11_restore
        simp only [zl_lit, r0_13, r0_1, r0_3, r0_5, r0_8]
        rw [if_neg (show ¬ nI k < nI 0 by rw [nI_ltI (by omega) (by omega)]; omega), if_neg (show ¬ nI 2 ≤ nI k by rw [nI_leI (by omega) (by omega)]; omega), zald_nI (by omega) (by omega), zald_nI (by omega) (by omega), hp]
      rcases J with ⟨i1, i2⟩ | ⟨i1, i2, Q⟩
      · refine ⟨nI 0, M, zwI M 89 0 (nI 0), h, a, t, n, nu, ?_, ?_, fz, Xn, Nn, In⟩
        · rw [ec, if_pos i1]
        · unfold mf_X12_restore
          simp only [zl_lit, zlet_ok, r89_24]
          rw [is, zcl_ok, if_neg (by decide +kernel), zald_nI (by omega) (by omega), n9 101 (by decide), i2, if_pos rfl]
      · obtain ⟨M1, M2, h', a', t', nu', a1, a2, a3, a4, a5, a6⟩ := k_restore hk ⟨h1, h2⟩ rf X i2 Q
        exact ⟨nI 1, M1, M2, h', a', t', 0, nu', by rw [ec, if_neg (by rw [i1]; decide +kernel), a1], a2, a3, a4, a5, a6⟩
    rcases (show k = 0 ∨ k = 1 by omega) with rfl | rfl
    · exact key 63 r62_0 (by omega) (by omega) gRf_63 J0
    · exact key 76 r62_1 (by omega) (by omega) gRf_76 J1
  · have is : mf_X12_isIn gR x (nI 0) (nI 1) (zwI M 89 0 (nI 0)) = some (nI 0, zwI M 89 0 (nI 0)) := m_isIn_n (n := 2) (by decide) ho
    refine ⟨nI 0, M, zwI M 89 0 (nI 0), h, a, t, n, nu, ?_, ?_, fz, Xn, Nn, In⟩
    · unfold mf_X11_restore
      simp only [zl_lit]
      rcases ho with e | e
      · rw [if_pos e]
      · by_cases e0 : x < nI 0
        · rw [if_pos e0]
        · rw [if_neg e0, if_pos e]
    · unfold mf_X12_restore
      simp only [zl_lit, zlet_ok]
      rw [is, zcl_ok, if_pos rfl]
