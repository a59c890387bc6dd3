/-! THE LAW'S LOOP -/
theorem lg_self (v : Int64) : lg_cmp v v = nI 0 := by
  unfold lg_cmp
  rw [if_neg (fun h => absurd (Int64.lt_iff_toInt_lt.mp h) (Int.lt_irrefl _)), if_pos rfl]
  exact zl_lit 0
theorem gL_lt {L i : Nat} (hL : L ≤ 3072) (hi : i ≤ 3072) : (nI L - nI 6 < nI i) ↔ L < i + 6 := by
  by_cases h : 6 ≤ L
  · rw [nI_subE h, nI_ltI (by omega) (by omega)]
    omega
  · have e : nI L - nI 6 < nI 0 := by
      rcases (show L = 0 ∨ L = 1 ∨ L = 2 ∨ L = 3 ∨ L = 4 ∨ L = 5 by omega) with rfl | rfl | rfl | rfl | rfl | rfl <;> decide +kernel
    refine ⟨fun _ => by omega, fun _ => ?_⟩
    rw [Int32.lt_iff_toInt_lt, nI_toInt (by omega)] at *
    omega

theorem k_lawloop {L : Nat} {xs : Nat → Int32} (hL : L ≤ 3072) : ∀ (m i f c : Nat) (M : zMem), i + 6 * m = 3072 → m < f → c + 60 * m < 2 ^ 20 → gZ c M → ∃ M1, mf_L_loop gR 0 89 114 L xs f (nI i) M = some (nI 1, M1)
  | m, i, f + 1, c, M, hi, hf, hc, Z => by
    by_cases hend : L < i + 6
    · refine ⟨M, ?_⟩
      rw [mf_L_loop]
      simp only [zl_lit]
      rw [show Int32.ofNat L = nI L from rfl, if_pos ((gL_lt hL (by omega)).mpr hend)]
    · obtain ⟨m, rfl⟩ : ∃ q, m = q + 1 := ⟨m - 1, by omega⟩
      have ih : ∀ M2, gZ (c + 60) M2 → ∃ M1, mf_L_loop gR 0 89 114 L xs f (nI (i + 6)) M2 = some (nI 1, M1) := fun M2 Z2 => k_lawloop hL m (i + 6) f (c + 60) M2 (by omega) (by omega) (by omega) Z2
      have hc2 : c < 2 ^ 20 := by omega
      have ia : ∀ j, j < 6 → ∀ {α : Type} (K : Nat → Option α), zald L (nI (i + j)) K = K (i + j) := fun j hj {α} K => zald_nI (by omega) (by omega)
      have ia0 : ∀ {α : Type} (K : Nat → Option α), zald L (nI i) K = K i := fun {α} K => zald_nI (by omega) (by omega)
      rw [mf_L_loop, show Int32.ofNat L = nI L from rfl]
      simp only [zl_lit, nI_add]
      rw [if_neg (show ¬ nI L - nI 6 < nI i by rw [gL_lt hL (by omega)]; exact hend), ia0]
      simp only [ia 1 (by omega), ia 2 (by omega), ia 3 (by omega), ia 4 (by omega), ia 5 (by omega)]
      generalize xs i &&& nI 63 = y
      by_cases y0 : y = nI 0
      · obtain ⟨r, M1, M2, e1, e2, Z2⟩ := z_feed Z hc2 (xs (i + 1)) (xs (i + 2)) (xs (i + 3)) (xs (i + 4)) (xs (i + 5))
        rw [if_pos y0, e1, zcl_ok, e2, zcl_ok, if_pos rfl]
        exact ih M2 Z2
      rw [if_neg y0]
      by_cases y1 : y = nI 1
      · obtain ⟨r, M1, M2, e1, e2, Z2⟩ := z_end Z hc2 (xs (i + 1))
        rw [if_pos y1, e1, zcl_ok, e2, zcl_ok, if_pos rfl]
        exact ih M2 Z2
      rw [if_neg y1]
      by_cases y2 : y = nI 2
      · obtain ⟨r, M1, M2, e1, e2, Z2⟩ := z_room Z hc2 
        rw [if_pos y2, e1, zcl_ok, e2, zcl_ok, if_pos rfl]
        exact ih M2 Z2
      rw [if_neg y2]
      by_cases y3 : y = nI 3
      · obtain ⟨r, M1, M2, e1, e2, Z2⟩ := z_fault Z hc2 
        rw [if_pos y3, e1, zcl_ok, e2, zcl_ok, if_pos rfl]
        exact ih M2 Z2
      rw [if_neg y3]
      by_cases y4 : y = nI 4
      · obtain ⟨r, M1, M2, e1, e2, Z2⟩ := z_bath Z hc2 (xs (i + 1)) (xs (i + 2))
        rw [if_pos y4, e1, zcl_ok, e2, zcl_ok, if_pos rfl]
        exact ih M2 Z2
      rw [if_neg y4]
      by_cases y5 : y = nI 5
      · obtain ⟨r, M1, M2, e1, e2, Z2⟩ := z_asks Z hc2 (xs (i + 1)) (xs (i + 2))
        rw [if_pos y5, e1, zcl_ok, e2, zcl_ok, if_pos rfl]
        exact ih M2 Z2
      rw [if_neg y5]
      by_cases y6 : y = nI 6
      · obtain ⟨r, v, M1, M2, e1, e2, e3, e4, Z2⟩ := z_sheet Z hc2 (xs (i + 1)) (xs (i + 2))
        rw [if_pos y6, e1, zcl_ok, e2, zcl_ok, e3, zcl_ok, if_pos rfl]
        by_cases r0 : r = nI 0
        · rw [if_pos r0, zald_nI (by omega) (by omega), e4 r0, lg_self, if_pos rfl]
          exact ih M2 Z2
        · rw [if_neg r0]
          exact ih M2 Z2
      rw [if_neg y6]
      by_cases y7 : y = nI 7
      · obtain ⟨r, M1, M2, e1, e2, Z2⟩ := z_now Z hc2 (xs (i + 1))
        rw [if_pos y7, e1, zcl_ok, e2, zcl_ok, if_pos rfl]
        exact ih M2 Z2
      rw [if_neg y7]
      by_cases y8 : y = nI 8
      · obtain ⟨r, M1, M2, e1, e2, Z2⟩ := z_start Z hc2 (xs (i + 1))
        rw [if_pos y8, e1, zcl_ok, e2, zcl_ok, if_pos rfl]
        exact ih M2 Z2
      rw [if_neg y8]
      by_cases y9 : y = nI 9
      · obtain ⟨r, M1, M2, e1, e2, Z2⟩ := z_take Z hc2 (xs (i + 1))
        rw [if_pos y9, e1, zcl_ok, e2, zcl_ok, if_pos rfl]
        exact ih M2 Z2
      rw [if_neg y9]
      by_cases y10 : y = nI 10
      · obtain ⟨r, M1, M2, e1, e2, Z2⟩ := z_again Z hc2 (xs (i + 1))
        rw [if_pos y10, e1, zcl_ok, e2, zcl_ok, if_pos rfl]
        exact ih M2 Z2
      rw [if_neg y10]
      by_cases y11 : y = nI 11
      · obtain ⟨r, M1, M2, e1, e2, Z2⟩ := z_renew Z hc2 (xs (i + 1))
        rw [if_pos y11, e1, zcl_ok, e2, zcl_ok, if_pos rfl]
        exact ih M2 Z2
      rw [if_neg y11]
      by_cases y12 : y = nI 12
      · obtain ⟨r, M1, M2, e1, e2, Z2⟩ := z_minutes Z hc2 (xs (i + 1))
        rw [if_pos y12, e1, zcl_ok, e2, zcl_ok, if_pos rfl]
        exact ih M2 Z2
      rw [if_neg y12]
      by_cases y13 : y = nI 13
      · obtain ⟨r, M1, M2, e1, e2, Z2⟩ := z_undo Z hc2 
        rw [if_pos y13, e1, zcl_ok, e2, zcl_ok, if_pos rfl]
        exact ih M2 Z2
      rw [if_neg y13]
      by_cases y14 : y = nI 14
      · obtain ⟨r, M1, M2, e1, e2, Z2⟩ := z_when Z hc2 (xs (i + 1))
        rw [if_pos y14, e1, zcl_ok, e2, zcl_ok, if_pos rfl]
        exact ih M2 Z2
      rw [if_neg y14]
      by_cases y15 : y = nI 15
      · obtain ⟨r, M1, M2, e1, e2, Z2⟩ := z_clear Z hc2 (xs (i + 1))
        rw [if_pos y15, e1, zcl_ok, e2, zcl_ok, if_pos rfl]
        exact ih M2 Z2
      rw [if_neg y15]
      by_cases y16 : y = nI 16
      · obtain ⟨r, M1, M2, e1, e2, Z2⟩ := z_order Z hc2 
        rw [if_pos y16, e1, zcl_ok, e2, zcl_ok, if_pos rfl]
        exact ih M2 Z2
      rw [if_neg y16]
      by_cases y17 : y = nI 17
      · obtain ⟨r, M1, M2, e1, e2, Z2⟩ := z_orderAt Z hc2 (xs (i + 1))
        rw [if_pos y17, e1, zcl_ok, e2, zcl_ok, if_pos rfl]
        exact ih M2 Z2
      rw [if_neg y17]
      by_cases y18 : y = nI 18
      · obtain ⟨r, M1, M2, e1, e2, Z2⟩ := z_orderWhen Z hc2 (xs (i + 1))
        rw [if_pos y18, e1, zcl_ok, e2, zcl_ok, if_pos rfl]
        exact ih M2 Z2
      rw [if_neg y18]
      by_cases y19 : y = nI 19
      · obtain ⟨r, M1, M2, e1, e2, Z2⟩ := z_jam Z hc2 
        rw [if_pos y19, e1, zcl_ok, e2, zcl_ok, if_pos rfl]
        exact ih M2 Z2
      rw [if_neg y19]
      by_cases y20 : y = nI 20
      · obtain ⟨r, M1, M2, e1, e2, Z2⟩ := z_who Z hc2 
        rw [if_pos y20, e1, zcl_ok, e2, zcl_ok, if_pos rfl]
        exact ih M2 Z2
      rw [if_neg y20]
      by_cases y21 : y = nI 21
      · obtain ⟨r, M1, M2, e1, e2, Z2⟩ := z_ask Z hc2 
        rw [if_pos y21, e1, zcl_ok, e2, zcl_ok, if_pos rfl]
        exact ih M2 Z2
      rw [if_neg y21]
      by_cases y22 : y = nI 22
      · obtain ⟨r, M1, M2, e1, e2, Z2⟩ := z_near Z hc2 (xs (i + 1))
        rw [if_pos y22, e1, zcl_ok, e2, zcl_ok, if_pos rfl]
        exact ih M2 Z2
      rw [if_neg y22]
      by_cases y23 : y = nI 23
      · obtain ⟨r, M1, M2, e1, e2, Z2⟩ := z_through Z hc2 (xs (i + 1))
        rw [if_pos y23, e1, zcl_ok, e2, zcl_ok, if_pos rfl]
        exact ih M2 Z2
      rw [if_neg y23]
      by_cases y24 : y = nI 24
      · obtain ⟨r, M1, M2, e1, e2, Z2⟩ := z_gap Z hc2 (xs (i + 1)) (xs (i + 2))
        rw [if_pos y24, e1, zcl_ok, e2, zcl_ok, if_pos rfl]
        exact ih M2 Z2
      rw [if_neg y24]
      by_cases y25 : y = nI 25
      · obtain ⟨r, M1, M2, e1, e2, Z2⟩ := z_chain Z hc2 
        rw [if_pos y25, e1, zcl_ok, e2, zcl_ok, if_pos rfl]
        exact ih M2 Z2
      rw [if_neg y25]
      by_cases y26 : y = nI 26
      · obtain ⟨r, M1, M2, e1, e2, Z2⟩ := z_chainAt Z hc2 (xs (i + 1))
        rw [if_pos y26, e1, zcl_ok, e2, zcl_ok, if_pos rfl]
        exact ih M2 Z2
      rw [if_neg y26]
      by_cases y27 : y = nI 27
      · obtain ⟨r, M1, M2, e1, e2, Z2⟩ := z_load Z hc2 (xs (i + 1)) (xs (i + 2))
        rw [if_pos y27, e1, zcl_ok, e2, zcl_ok, if_pos rfl]
        exact ih M2 Z2
      rw [if_neg y27]
      by_cases y28 : y = nI 28
      · obtain ⟨r, M1, M2, e1, e2, Z2⟩ := z_block Z hc2 (xs (i + 1))
        rw [if_pos y28, e1, zcl_ok, e2, zcl_ok, if_pos rfl]
        exact ih M2 Z2
      rw [if_neg y28]
      by_cases y29 : y = nI 29
      · obtain ⟨r, v, M1, M2, e1, e2, e3, e4, Z2⟩ := z_wear Z hc2 (xs (i + 1)) (xs (i + 2))
        rw [if_pos y29, e1, zcl_ok, e2, zcl_ok, e3, zcl_ok, if_pos rfl]
        by_cases r0 : r = nI 0
        · rw [if_pos r0, zald_nI (by omega) (by omega), e4 r0, lg_self, if_pos rfl]
          exact ih M2 Z2
        · rw [if_neg r0]
          exact ih M2 Z2
      rw [if_neg y29]
      by_cases y30 : y = nI 30
      · obtain ⟨r, v, M1, M2, e1, e2, e3, e4, Z2⟩ := z_mean Z hc2 (xs (i + 1))
        rw [if_pos y30, e1, zcl_ok, e2, zcl_ok, e3, zcl_ok, if_pos rfl]
        by_cases r0 : r = nI 0
        · rw [if_pos r0, zald_nI (by omega) (by omega), e4 r0, lg_self, if_pos rfl]
          exact ih M2 Z2
        · rw [if_neg r0]
          exact ih M2 Z2
      rw [if_neg y30]
      by_cases y31 : y = nI 31
      · obtain ⟨r, M1, M2, e1, e2, Z2⟩ := z_often Z hc2 
        rw [if_pos y31, e1, zcl_ok, e2, zcl_ok, if_pos rfl]
        exact ih M2 Z2
      rw [if_neg y31]
      by_cases y32 : y = nI 32
      · obtain ⟨r, M1, M2, e1, e2, Z2⟩ := z_tag Z hc2 (xs (i + 1))
        rw [if_pos y32, e1, zcl_ok, e2, zcl_ok, if_pos rfl]
        exact ih M2 Z2
      rw [if_neg y32]
      by_cases y33 : y = nI 33
      · obtain ⟨r, M1, M2, e1, e2, Z2⟩ := z_byteAt Z hc2 (xs (i + 1))
        rw [if_pos y33, e1, zcl_ok, e2, zcl_ok, if_pos rfl]
        exact ih M2 Z2
      rw [if_neg y33]
      by_cases y34 : y = nI 34
      · obtain ⟨r, M1, M2, e1, e2, Z2⟩ := z_drawn Z hc2 (xs (i + 1)) (xs (i + 2))
        rw [if_pos y34, e1, zcl_ok, e2, zcl_ok, if_pos rfl]
        exact ih M2 Z2
      rw [if_neg y34]
      by_cases y35 : y = nI 35
      · obtain ⟨r, M1, M2, e1, e2, Z2⟩ := z_odds Z hc2 (xs (i + 1)) (xs (i + 2)) (xs (i + 3))
        rw [if_pos y35, e1, zcl_ok, e2, zcl_ok, if_pos rfl]
        exact ih M2 Z2
      rw [if_neg y35]
      by_cases y36 : y = nI 36
      · obtain ⟨r, M1, M2, e1, e2, Z2⟩ := z_book Z hc2 (xs (i + 1))
        rw [if_pos y36, e1, zcl_ok, e2, zcl_ok, if_pos rfl]
        exact ih M2 Z2
      rw [if_neg y36]
      by_cases y37 : y = nI 37
      · obtain ⟨r, M1, M2, e1, e2, Z2⟩ := z_told Z hc2 (xs (i + 1))
        rw [if_pos y37, e1, zcl_ok, e2, zcl_ok, if_pos rfl]
        exact ih M2 Z2
      rw [if_neg y37]
      by_cases y38 : y = nI 38
      · obtain ⟨r, M1, M2, e1, e2, Z2⟩ := z_sentence Z hc2 
        rw [if_pos y38, e1, zcl_ok, e2, zcl_ok, if_pos rfl]
        exact ih M2 Z2
      rw [if_neg y38]
      by_cases y39 : y = nI 39
      · obtain ⟨r, M1, M2, e1, e2, Z2⟩ := z_said Z hc2 (xs (i + 1))
        rw [if_pos y39, e1, zcl_ok, e2, zcl_ok, if_pos rfl]
        exact ih M2 Z2
      rw [if_neg y39]
      by_cases y40 : y = nI 40
      · obtain ⟨r, M1, M2, e1, e2, Z2⟩ := z_image Z hc2 (xs (i + 1))
        rw [if_pos y40, e1, zcl_ok, e2, zcl_ok, if_pos rfl]
        exact ih M2 Z2
      rw [if_neg y40]
      by_cases y41 : y = nI 41
      · obtain ⟨r, M1, M2, e1, e2, Z2⟩ := z_restore Z hc2 (xs (i + 1))
        rw [if_pos y41, e1, zcl_ok, e2, zcl_ok, if_pos rfl]
        exact ih M2 Z2
      rw [if_neg y41]
      by_cases y42 : y = nI 42
      · obtain ⟨r, M1, M2, e1, e2, Z2⟩ := z_count Z hc2 (xs (i + 1))
        rw [if_pos y42, e1, zcl_ok, e2, zcl_ok, if_pos rfl]
        exact ih M2 Z2
      rw [if_neg y42]
      exact ih M (Z.mono (by omega))
theorem gZ_start {M : zMem} (h : gT0 gf4 gf17 gf55 gg3 M) (h89 : M.1 89 = upd gzf 35 zm1) (h91 : M.1 91 = gf91) : gZ 0 M := by
  obtain ⟨a1, a2, a3, a4, a5, a6⟩ := h
  have z : ∀ q k, q ∉ gIdP → M.1 q k = nI 0 := fun q k hq => by rw [a1 q hq]
  have k9 : ∀ k, k ≠ 35 → M.1 89 k = nI 0 := fun k hk => by rw [h89, upd_n hk]
  let h : zN := fun j => if j = 5 then 5 else 0
  have hH : gH h := ⟨by decide, by decide, by decide, by decide, by decide, by decide, fun b hb => absurd hb (by show ¬ b < 0; omega), fun b hb => absurd hb (by show ¬ b < 0; omega), fun p b hp => absurd hp (by show ¬ p < 0; omega), fun s hs => absurd hs (by show ¬ s < 0; omega)⟩
  have hr4 : ∀ j, j < 56 → gf4 j = nI (h j) := fun j _ => by
    show (if j = 5 then nI 5 else nI 0) = nI (if j = 5 then 5 else 0)
    split <;> rfl
  have e91 : M.1 91 = encM h (gA0 h) (fun j => if j < 354 then nI 0 else gf4 j) := by
    rw [h91]
    exact gA0_enc (h := h) (r := gf4) (t := fun _ => nI 0) hr4
  have hr : gRC h M := ⟨by rw [a3]; rfl, by rw [a3]; rfl, by rw [a3]; rfl, by rw [a3]; rfl, by rw [a3]; rfl, by rw [a3]; rfl, fun b hb => absurd hb (by show ¬ b < 0; omega), fun b hb => absurd hb (by show ¬ b < 0; omega), fun s hs => absurd hs (by show ¬ s < 0; omega), fun p b hp => absurd hp (by show ¬ p < 0; omega)⟩
  have e17 : ∃ q, M.1 17 = eC (gA0 h) q := by
    obtain ⟨M1, b1, b2, _⟩ := c_begin (h := h) (M := zrowI M 17 gzf) (gRC.row (by decide) hr)
    have b3 := c_begG (h := fun _ => 0) (R := gR) (a0 := 16) (c := 17) (r := 4) (M := zrowI M 17 gzf) r16_1 r16_0 (by decide)
    rw [b3] at b1
    have b4 : zrowI (zrowI M 17 gzf) 17 (upd (gBg (fun _ => 0) 62 ((zrowI M 17 gzf).1 17)) 61 ((zrowI M 17 gzf).1 4 5)) = M1 := congrArg Prod.snd (Option.some.inj b1)
    rw [← b4, zrI_s, zrI_s, zrI_n (by decide), a3] at b2
    exact ⟨gzf, by rw [a4]; exact b2⟩
  obtain ⟨q17, e17⟩ := e17
  refine ⟨h, gA0 h, _, fun _ _ => 0, 0, 0, fun _ => 0, fun _ => [], ⟨gW.mk hr e17 e91 hH (gA_0 hH), ⟨0, by omega, z 33 1 (by decide), z 33 2 (by decide), fun i hi => absurd hi (by omega)⟩, ⟨k9 26 (by decide), fun i hi => absurd hi (by omega)⟩, by omega, gO_0, fun i hi => absurd hi (by omega)⟩, fun j hj => ?_, Or.inl ⟨z 20 0 (by decide), if_pos (by omega)⟩, ⟨by omega, z 1 1 (by decide), k9 2 (by decide), fun j hj => absurd hj (by omega)⟩, by rw [z 1 2 (by decide), k9 10 (by decide)], ?_, ⟨0, by omega, by rw [a5]; rfl, k9 38 (by decide), fun k hk => absurd hk (by omega)⟩, ⟨0, by omega, z 44 10 (by decide), k9 31 (by decide), fun k hk => absurd hk (by omega)⟩, ?_, Or.inl ⟨z 30 3 (by decide), k9 46 (by decide)⟩, ⟨[], by decide, ⟨z 60 1 (by decide), fun j hj => absurd hj (by show ¬ j < 0; omega)⟩, ⟨k9 41 (by decide), fun j hj => absurd hj (by show ¬ j < 0; omega)⟩⟩, Or.inl ⟨z 63 3 (by decide), z 101 0 (by decide)⟩, Or.inl ⟨z 76 3 (by decide), z 101 1 (by decide)⟩⟩
  · exfalso
    rcases hj with e | e | e
    · exact absurd e (by show ¬ j < 0; omega)
    · have e2 : j < 6 + 0 := e.2
      omega
    · have e2 : j < 11 + 0 := e.2
      omega
  · intro k hk
    rw [a6]
    exact gYz_k k hk
  · unfold gAI
    rw [a5, h89]
    try rfl
theorem law_pure (L : Nat) (xs : Nat → Int32) (hL : L ≤ 3072) : ∃ M' : zMem, zfLaw L xs = some ((1 : Int32), M') := by
  obtain ⟨M1, e1, g1⟩ := s_X11
  obtain ⟨M2, e2, g2, h89, h91⟩ := s_X12 g1
  have g3 : gT0 gf4 gf17 gf55 gg3 (zrow0 M2 114) := g2.n0 (by decide)
  have Z : gZ 0 (zrow0 M2 114) := gZ_start g3 (by rw [gz0_n (by decide)]; exact h89) (by rw [gz0_n (by decide)]; exact h91)
  obtain ⟨M3, e3⟩ := k_lawloop (xs := xs) hL 512 0 600 0 (zrow0 M2 114) (by omega) (by omega) (by omega) Z
  refine ⟨M3, ?_⟩
  unfold zfLaw
  rw [e1, zcl_ok, e2, zcl_ok]
  exact e3

