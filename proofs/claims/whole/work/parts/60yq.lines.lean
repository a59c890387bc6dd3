/-! PARSERS: what is told once, a PAPER, a SHEET -/
theorem gAnd1 (x : Int32) : x &&& nI 1 = nI 0 ∨ x &&& nI 1 = nI 1 := by
  rw [gX_nI x, nI_and, Nat.and_one_is_mod]
  have : x.toBitVec.toNat % 2 = 0 ∨ x.toBitVec.toNat % 2 = 1 := by omega
  rcases this with e | e
  · rw [e]; exact Or.inl rfl
  · rw [e]; exact Or.inr rfl
theorem gH_one {h : zN} {j v : Nat} (hH : gH h) (hj : (j = 3 ∧ v ≤ 9) ∨ (j = 4 ∧ v ≤ 9) ∨ (j = 5 ∧ v ≤ 99)) : gH (uN h j v) := by
  obtain ⟨k0, k1, k2, k3, k4, k5, kh, kl, ka, kp⟩ := id hH
  have uo : ∀ i, i ≠ j → uN h j v i = h i := fun i a => by unfold uN; rw [if_neg a]
  have us : uN h j v j = v := if_pos rfl
  refine ⟨?_, ?_, ?_, ?_, ?_, ?_, ?_, ?_, ?_, ?_⟩
  · rw [uo 0 (by omega)]; exact k0
  · rw [uo 1 (by omega)]; exact k1
  · rw [uo 2 (by omega)]; exact k2
  · by_cases e : j = 3
    · subst e; rw [us]; omega
    · rw [uo 3 (by omega)]; exact k3
  · by_cases e : j = 4
    · subst e; rw [us]; omega
    · rw [uo 4 (by omega)]; exact k4
  · by_cases e : j = 5
    · subst e; rw [us]; omega
    · rw [uo 5 (by omega)]; exact k5
  · intro b hb
    rw [uo 0 (by omega)] at hb
    rw [uo (6 + b) (by omega)]; exact kh b hb
  · intro b hb
    rw [uo 0 (by omega)] at hb
    rw [uo (12 + b) (by omega)]; exact kl b hb
  · intro p b hp hb
    rw [uo 1 (by omega)] at hp
    rw [uo 0 (by omega)] at hb
    rw [uo (18 + 6 * p + b) (by omega)]; exact ka p b hp hb
  · intro s hs
    rw [uo 2 (by omega)] at hs
    rw [uo (48 + s) (by omega), uo 1 (by omega)]; exact kp s hs
theorem k_once {tl lim : Nat} {tb : Nat → Nat} {k : gTk} {Mc Mr : zMem} {h : zN} {nu : Nat → List Nat} {oc : Int32} {j : Nat} (S : gTS tl lim tb k Mc Mr) (hk : k.1 = 1) (hky : gKy k = j) (hj : j = 3 ∨ j = 4 ∨ j = 5) (D : gDC h nu oc Mc) (E : gDM h nu oc Mr) (hH : gH h) : gLn2 tl lim tb k Mc Mr (mf_X7_readOnce gR 10 1 Mc) (mf_X12_readOnce gR 89 (nI j) (nI (if j = 5 then 99 else 9)) Mr) := by
  obtain ⟨d1, d2, d3, d4, d5, d6⟩ := D
  obtain ⟨e1, e2, e3⟩ := E
  have ck : Mc.1 1 5 = nI j := by rw [c_key S, hky, enX_ne (by omega)]
  unfold mf_X7_readOnce mf_X12_readOnce mf_X12_has
  simp only [zl_lit, zlet_ok, zl_m1]
  rw [ck, d2, e2]
  rcases gAnd1 (oc >>> (nI j &&& nI 31)) with y | y
  · rw [if_pos y, if_neg (by rw [y]; decide +kernel), zcl_ok, if_pos rfl, e2]
    have fc : gF [10] [] Mc (zwI Mc 10 11 (oc ||| nI 1 <<< (nI j &&& nI 31))) := gF.wI gF.r (by decide) (by decide)
    have fm : gF [] [25] Mr (zwI Mr 89 25 (oc ||| nI 1 <<< (nI j &&& nI 31))) := gF.w9 gF.r (by decide)
    have S1 := S.fr fc (by decide) fm (by decide) (by decide)
    generalize hoc : (oc ||| nI 1 <<< (nI j &&& nI 31)) = oc2 at *
    obtain ⟨k1, Mc1, Mr1, a1, a2, a3, a4, a5, a6⟩ := k_adv S1 (by omega) (by omega)
    have gc1 : gF [1, 10, 11, 12, 13, 14, 15] [] Mc Mc1 := (fc.mono (by decide) (by decide)).trans (a5.mono (by decide) (by decide))
    have gm1 : gF [89, 92, 99] [5, 6, 7, 8, 9, 10, 11, 13, 25] Mr Mr1 := (fm.mono (by decide) (by decide)).trans (a6.mono (by decide) (by decide))
    rw [a1, a2, zcl_ok, zcl_ok]
    have e52 : (if nI j = nI 5 then mf_X7_readOnce_b52 gR 10 1 (nI j) (nI 99) (nI 0) Mc1 else mf_X7_readOnce_b52 gR 10 1 (nI j) (nI 9) (nI 0) Mc1) = mf_X7_readOnce_b52 gR 10 1 (nI j) (nI (if j = 5 then 99 else 9)) (nI 0) Mc1 := by
      rcases hj with z | z | z
      · subst z; rw [if_neg (by decide +kernel)]; rfl
      · subst z; rw [if_neg (by decide +kernel)]; rfl
      · subst z; rw [if_pos rfl]; rfl
    rw [e52]
    have hhi : (if j = 5 then 99 else 9) ≤ 99 := by split <;> omega
    have hhj : ∀ v, v ≤ (if j = 5 then 99 else 9) → (j = 3 ∧ v ≤ 9) ∨ (j = 4 ∧ v ≤ 9) ∨ (j = 5 ∧ v ≤ 99) := fun v hv => by
      rcases hj with z | z | z
      · subst z; rw [if_neg (by omega)] at hv; omega
      · subst z; rw [if_neg (by omega)] at hv; omega
      · subst z; rw [if_pos rfl] at hv; omega
    generalize (if j = 5 then 99 else 9) = hi at *
    unfold mf_X7_readOnce_b52 mf_X12_put
    simp only [zl_lit, zlet_ok, zl_m1]
    rcases k_num (lo := 0) (hi := hi) a3 (by omega) (by omega) with ⟨v, k3, Mc3, Mr3, u2, l1, l2, c1, c2, c3, c4, c5, c6, c7⟩ | ⟨Mc3, Mr3, c1, c2, c3, c4, c5⟩
    · have hw : (if nI j = nI 3 then some (nI 1, zwI Mc3 10 3 (nI v)) else if nI j = nI 4 then some (nI 1, zwI Mc3 10 4 (nI v)) else some (nI 1, zwI Mc3 10 5 (nI v))) = some (nI 1, zwI Mc3 10 j (nI v)) := by
        rcases hj with z | z | z
        · subst z; rw [if_pos rfl]
        · subst z; rw [if_neg (by decide +kernel), if_pos rfl]
        · subst z; rw [if_neg (by decide +kernel), if_neg (by decide +kernel)]
      rw [c1, c2, zcl_ok, zcl_ok, if_neg (by rw [zm1_ne (by omega)]; exact fun q => q), hw, if_neg (by decide +kernel), zald_nI (by omega) (by omega), r89_15, c3, zchk_ok (by first | exact Or.inr rfl | exact Or.inr trivial), zcl_ok, zchk_ok (by first | exact Or.inr rfl | exact Or.inr trivial)]
      have fC : gF [10] [] Mc3 (zwI Mc3 10 j (nI v)) := gF.wI gF.r (by decide) (by decide)
      have fM : gF [92] [] Mr3 (zwI Mr3 92 j (nI v)) := gF.wI gF.r (by decide) (by decide)
      have uo : ∀ i, i ≠ j → uN h j v i = h i := fun i a => by unfold uN; rw [if_neg a]
      have X10 : Mc3.1 10 = upd (Mc.1 10) 11 oc2 := by rw [c6.1 10 (by decide) (by decide), a5.1 10 (by decide) (by decide), zwI_s]
      have X11 : Mc3.1 11 = Mc.1 11 := by rw [c6.1 11 (by decide) (by decide), a5.1 11 (by decide) (by decide), zwI_n (by decide)]
      have X12 : Mc3.1 12 = Mc.1 12 := by rw [c6.1 12 (by decide) (by decide), a5.1 12 (by decide) (by decide), zwI_n (by decide)]
      have X13 : Mc3.1 13 = Mc.1 13 := by rw [c6.1 13 (by decide) (by decide), a5.1 13 (by decide) (by decide), zwI_n (by decide)]
      have X15 : Mc3.1 15 = Mc.1 15 := by rw [c6.1 15 (by decide) (by decide), a5.1 15 (by decide) (by decide), zwI_n (by decide)]
      have X14 : Mc3.2 14 = Mc.2 14 := by rw [c6.2.1 14 (by decide), a5.2.1 14 (by decide)]; rfl
      have Y92 : Mr3.1 92 = Mr.1 92 := by rw [c7.1 92 (by decide) (by decide), a6.1 92 (by decide) (by decide), zwI_n (by decide)]
      have Y25 : Mr3.1 89 25 = oc2 := by rw [c7.2.2 25 (by decide), a6.2.2 25 (by decide), zwI_s, upd_s]
      have Y99 : Mr3.2 99 = Mr.2 99 := by rw [c7.2.1 99 (by decide), a6.2.1 99 (by decide)]; rfl
      have ht : ∀ i, gTold (uN h j v) i → gTold h i := fun i hi => by
        unfold gTold at hi ⊢
        rw [uo 0 (by omega), uo 1 (by omega), uo 2 (by omega)] at hi
        exact hi
      refine Or.inl ⟨uN h j v, nu, oc2, k3, _, _, rfl, rfl, c4.fr fC (by decide) fM (by decide) (by decide), fun q => ?_, ⟨?_, ?_, ?_, ?_, ?_, ?_⟩, ⟨?_, ?_, ?_⟩, gH_one hH (hhj v l2), (gc1.trans (c6.mono (by decide) (by decide))).trans (fC.mono (by decide) (by decide)), (gm1.trans (c7.mono (by decide) (by decide))).trans (fM.mono (by decide) (by decide))⟩
      · have q3 := c5 q
        have q1 := a4 (by omega)
        omega
      · intro i hi
        rw [zwI_s, X10]
        unfold upd uN
        by_cases z : i = j
        · rw [if_pos z, if_pos z]
        · rw [if_neg z, if_neg z, if_neg (by omega)]; exact d1 i hi
      · rw [zwI_s, upd_n (by omega), X10, upd_s]
      · intro b hb
        rw [uo 0 (by omega)] at hb
        rw [uo (6 + b) (by omega), uo (12 + b) (by omega), zwI_n (by decide), zwI_n (by decide), X11, X12]
        exact d3 b hb
      · intro s hs
        rw [uo 2 (by omega)] at hs
        rw [uo (48 + s) (by omega), zwI_n (by decide), X13]
        exact d4 s hs
      · intro p b hp hb
        rw [uo 1 (by omega)] at hp
        rw [uo 0 (by omega)] at hb
        rw [uo (18 + 6 * p + b) (by omega), zwI_n (by decide), X15]
        exact d5 p b hp hb
      · intro i hi
        rw [zwI_L, X14]
        exact d6 i (ht i hi)
      · intro i hi
        rw [zwI_s, Y92]
        unfold upd uN
        by_cases z : i = j
        · rw [if_pos z, if_pos z]
        · rw [if_neg z, if_neg z]; exact e1 i hi
      · rw [zwI_n (by decide)]; exact Y25
      · intro i hi
        rw [zwI_L, Y99]
        exact e3 i (ht i hi)
    · rw [c1, c2, zcl_ok, zcl_ok]
      rw [if_pos (by first | exact rfl | trivial), if_pos (by first | exact rfl | trivial), zchk_ok (by first | exact Or.inl rfl | exact Or.inl trivial), zcl_ok, zchk_ok (by first | exact Or.inl rfl | exact Or.inl trivial)]
      exact Or.inr ⟨Mc3, Mr3, rfl, rfl, c3, gc1.trans (c4.mono (by decide) (by decide)), gm1.trans (c5.mono (by decide) (by decide))⟩
  · rw [if_neg (by rw [y]; decide +kernel), if_pos y, zcl_ok, if_neg (by decide +kernel)]
    exact k_lnf S (fun q => by omega) (by omega) (by omega) gF.r gF.r
