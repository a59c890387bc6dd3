/-! SENTENCE: a ONE, read by both; all of it -/
theorem gEn9_e {f1 f2 f3 f4 f5 : zRR → Nat → zMem → Option (Int32 × zMem)} {r : Int32} {M : zMem} : mf_X12_readSaid_b166 gR f1 f2 f3 f4 f5 89 r M = gEn9 r M := by
  unfold mf_X12_readSaid_b166 gEn9
  simp only [zl_lit]
theorem gEn9_e5 {f1 f2 f3 f4 f5 : zRR → Nat → zMem → Option (Int32 × zMem)} {r : Int32} {M : zMem} : mf_X12_readSaid_b165 gR f1 f2 f3 f4 f5 89 r M = gEn9 r M := gEn9_e
theorem gEn9_1 {w : Nat} {M : zMem} (h : M.1 89 50 = nI (w + 1)) : gEn9 (nI 1) M = some (nI 1, zwI M 89 50 (nI w)) := by
  unfold gEn9
  rw [zlet_ok, zchk_ok (Or.inr rfl), h, nI_subE (by omega), Nat.add_sub_cancel]
/-- from within, one level up -/
theorem gZI.up {h : zN} {n o w : Nat} {st : List Nat} {K A B : zN} {Mc Mr : zMem} (Z : gZI h n o (w + 1) st K A B Mc Mr) : gZI h n o w st K A B Mc (zwI Mr 89 50 (nI w)) := by
  have f50 : gF [] [50] Mr (zwI Mr 89 50 (nI w)) := gF.w9 gF.r (by decide)
  obtain ⟨z1, z2, z3, z4, z5, z6, z7, z8⟩ := Z
  refine ⟨z1, z2, z3, ?_, ?_, ?_, ?_, z8⟩
  · rw [f50.2.2 48 (by decide)]; exact z4
  · rw [f50.2.2 49 (by decide)]; exact z5
  · rw [zwI_s, upd_s]
  · rw [f50.1 113 (by decide) (by decide)]; exact z7
theorem k_b28 {tl lim : Nat} {tb : Nat → Nat} {h : zN} {nu : Nat → List Nat} {w dc dr n o y : Nat} {st : List Nat} {K A B : zN} {k : gTk} {Mc Mr : zMem} {b : Bool} (hH : gH h) (hw : w ≤ 8) (IH : w < 8 → gP1 tl lim tb h nu (w + 1) dc dr ∧ gP2 tl lim tb h nu (w + 1) dc dr) (S : gTS tl lim tb k Mc Mr) (Z : gZI h n o w st K A B Mc Mr) (KC : gKC h nu Mc) (KM : gKM h nu Mr) (hb1 : b = true → k.1 = 3) (hb0 : b = false → gKy k = y ∧ 13 ≤ y ∧ y ≤ 23) : gZO tl lim tb h n o w st Mc Mr (mf_X8_readOne_b28 gR (mg_X8 dc).1 (mg_X8 dc).2 25 1 4 (nI (w + 1)) (gB b) Mc) (mf_X12_readSaid_b46 gR (mg_X12a (dr + 1)).1 (mg_X12a (dr + 1)).2.1 (mg_X12a (dr + 1)).2.2.1 (mg_X12a (dr + 1)).2.2.2.1 (mg_X12a (dr + 1)).2.2.2.2 89 (gB b) (nI y) Mr) := by
  have Z0 := Z
  obtain ⟨z1, z2, z3, z4, z5, z6, z7, z8, z9, z10, z11⟩ := Z
  have k04 : k.1 ≠ 0 ∧ k.1 ≠ 4 := by
    cases hb : b
    · have := k_key1 (k := k) (by have := hb0 hb; omega); omega
    · have := hb1 hb; omega
  have fail4 : gZO tl lim tb h n o w st Mc Mr (mf_X8_readOne_b43 gR (mg_X8 dc).1 (mg_X8 dc).2 25 1 4 Mc) (mf_X12_readSaid_b64 gR (mg_X12a (dr + 1)).1 (mg_X12a (dr + 1)).2.1 (mg_X12a (dr + 1)).2.2.1 (mg_X12a (dr + 1)).2.2.2.1 (mg_X12a (dr + 1)).2.2.2.2 89 Mr) := by
    obtain ⟨Mc1, Mr1, a1, a2, a3, a4, a5⟩ := k_fail (j := 4) S (fun q => absurd q k04.2) (by omega) (by omega)
    unfold mf_X8_readOne_b43 mf_X12_readSaid_b64
    simp only [zl_lit]
    rw [a1, a2, zcl_ok, zcl_ok, zchk_ok (Or.inl rfl), zchk_ok (Or.inl rfl)]
    exact Or.inr ⟨Mc1, Mr1, rfl, rfl, a3, a4.mono (by decide) (by decide), a5.mono (by decide) (by decide)⟩
  unfold mf_X8_readOne_b28 mf_X12_readSaid_b46
  simp only [zl_lit, zlet_ok]
  rw [z1, z5, z6]
  by_cases o20 : o = 20
  · rw [if_pos (by rw [nI_leI (by omega) (by omega)]; omega), if_pos (show nI o = nI 20 by rw [o20])]
    exact fail4
  rw [if_neg (show ¬ nI 20 ≤ nI o by rw [nI_leI (by omega) (by omega)]; omega), if_neg (show ¬ nI o = nI 20 by rw [nI_eq (by omega) (by omega)]; exact o20)]
  by_cases w8 : w = 8
  · rw [if_neg (show ¬ nI (w + 1) ≤ nI 8 by rw [nI_leI (by omega) (by omega)]; omega), if_pos (show nI w = nI 8 by rw [w8])]
    exact fail4
  rw [if_pos (show nI (w + 1) ≤ nI 8 by rw [nI_leI (by omega) (by omega)]; omega), if_neg (show ¬ nI w = nI 8 by rw [nI_eq (by omega) (by omega)]; exact w8)]
  obtain ⟨I1, I2⟩ := IH (by omega)
  have e50 : (zwI Mr 89 49 (nI o + nI 1)).1 89 50 = nI w := by rw [zwI_s, upd_n (by decide)]; exact z6
  rw [e50]
  simp only [nI_add]
  have f1 : gF [25] [] Mc (zwI Mc 25 0 (nI (o + 1))) := gF.wI gF.r (by decide) (by decide)
  have f2 : gF [] [49, 50] Mr (zwI (zwI Mr 89 49 (nI (o + 1))) 89 50 (nI (w + 1))) := gF.w9 (gF.w9 gF.r (by decide)) (by decide)
  have Z1 : gZI h n (o + 1) (w + 1) st K A B (zwI Mc 25 0 (nI (o + 1))) (zwI (zwI Mr 89 49 (nI (o + 1))) 89 50 (nI (w + 1))) := by
    refine ⟨by rw [zwI_s, upd_s], by rw [zwI_s, upd_n (by decide)]; exact z2, ?_, by rw [f2.2.2 48 (by decide)]; exact z4, by rw [zwI_s, upd_n (by decide), zwI_s, upd_s], by rw [zwI_s, upd_s], by rw [f2.1 113 (by decide) (by decide)]; exact z7, z8, z9, by omega, by omega⟩
    rw [f1.1 26 (by decide) (by decide), f1.1 27 (by decide) (by decide), f1.1 28 (by decide) (by decide)]
    exact z3
  have S1 := S.fr f1 (by decide) f2 (by decide) (by decide)
  have ek : (zwI Mc 25 0 (nI (o + 1))).1 1 5 = enX 24 (gKy k) := c_key S1
  rw [ek]
  obtain ⟨ka, Mca, Mra, a1, a2, a3, a4, a5, a6⟩ := k_adv S1 k04.2 k04.1
  rw [a1, a2, zcl_ok, zcl_ok]
  have Za : gZI h n (o + 1) (w + 1) st K A B Mca Mra := Z1.fr a5 (by decide) a6 (by decide) (by decide)
  have KCa : gKC h nu Mca := (KC.fr f1 (by decide)).fr a5 (by decide)
  have KMa : gKM h nu Mra := (KM.fr f2 (by decide)).fr a6 (by decide)
  have gc : gF gIz [] Mc Mca := (f1.mono (by decide) (by decide)).trans (a5.mono (by decide) (by decide))
  have gm : gF gJz gFz Mr Mra := (f2.mono (by decide) (by decide)).trans (a6.mono (by decide) (by decide))
  cases hb : b
  · obtain ⟨ky, y13, y23⟩ := hb0 hb
    rw [if_pos gB_f0, if_pos gB_f0, enX_ne (by omega), ky]
    by_cases e13 : y = 13
    · rw [if_pos (show nI y = nI 13 by rw [e13]), if_pos (show nI y = nI 13 by rw [e13]), mA_not]
      rcases I1 n (o + 1) st K A B ka Mca Mra a3 Za KCa KMa with ⟨n', o', K1, A1, B1, k1, Mc1, Mr1, b1, b2, b3, b4, b5, b6, b7, b8, b9⟩ | ⟨Mc1, Mr1, b1, b2, b3, b4, b5⟩
      · have ho20 := b4.2.2.2.2.2.2.2.2.2.2
        have hl1 : ((n' + 1) :: st).length = st.length + 1 := rfl
        obtain ⟨Mc2, Mr2, c1, c2, c3, c4, c5⟩ := k_addZ (k := 13) (x := n') (y := 0) (cf := nI 0) (cs := nI 0) (p1 := nI n') (p2 := nI 0) (p3 := nI 0) (st' := (n' + 1) :: st) b4 (by omega) (by omega) (by omega) (fun _ => ⟨st, rfl⟩) (fun q => by omega) (fun q => by omega) (fun q => by omega) (fun q => by omega) (fun q => by omega) (fun q => by omega) (fun _ => rfl) (fun q => by omega) (fun q => by omega) rfl (by omega)
        have g13 : gNk 13 = 1 := rfl
        rw [g13] at c2
        have f51 : gF [] [51] Mr2 (zwI Mr2 89 51 (nI (n' + 1))) := gF.w9 gF.r (by decide)
        have c3' := c3.fr (gF.r (ids := []) (ks := [])) (by decide) f51 (by decide) (by decide)
        have f50 : gF [] [50] (zwI Mr2 89 51 (nI (n' + 1))) (zwI (zwI Mr2 89 51 (nI (n' + 1))) 89 50 (nI w)) := gF.w9 gF.r (by decide)
        rw [b1, b2, zcl_ok, zcl_ok, if_neg (by decide +kernel), if_neg (by decide +kernel), c1, zcl_ok, if_neg (by decide +kernel), b5, c2, zcl_ok, zlet_ok, zcl_ok, gEn9_e, gEn9_1 c3'.2.2.2.2.2.1]
        refine Or.inl ⟨n' + 1, o', _, _, _, k1, Mc2, _, rfl, rfl, ((b3.fr c4 (by decide) c5 (by decide) (by decide)).fr (gF.r (ids := []) (ks := [])) (by decide) f51 (by decide) (by decide)).fr (gF.r (ids := []) (ks := [])) (by decide) f50 (by decide) (by decide), c3'.up, ?_, by omega, by omega, gc.trans (b8.trans (c4.mono (by decide) (by decide))), gm.trans (b9.trans ((c5.mono (by decide) (by decide)).trans ((f51.mono (by decide) (by decide)).trans (f50.mono (by decide) (by decide)))))⟩
        rw [zwI_s, upd_n (by decide), zwI_s, upd_s]
      · rw [b1, b2, zcl_ok, zcl_ok, if_pos rfl, if_pos rfl, zcl_ok, gEn9_e]
        exact k_bad9 rfl rfl b3 (gc.trans b4) (gm.trans b5)
    · rw [if_neg (show ¬ nI y = nI 13 by rw [nI_eq (by omega) (by omega)]; exact e13), if_neg (show ¬ nI y = nI 13 by rw [nI_eq (by omega) (by omega)]; exact e13)]
      simp only [gEn9_e, gEn9_e5]
      have ks := k_saying (n0 := n) (o0 := o) hH a3 Za KCa KMa (by omega) y23 (by omega) (by omega) (by omega) gc gm
      simp only [zlet_ok, nI_add] at ks
      exact ks
  · rw [if_neg gB_t0, if_neg gB_t0, mA_br]
    rcases I2 n (o + 1) st K A B ka Mca Mra a3 Za KCa KMa with ⟨n', o', K1, A1, B1, k1, Mc1, Mr1, b1, b2, b3, b4, b5, b6, b7, b8, b9⟩ | ⟨Mc1, Mr1, b1, b2, b3, b4, b5⟩
    · unfold mf_X10_passSign
      simp only [zl_lit]
      rw [b1, b2, zcl_ok, zcl_ok, if_neg (by decide +kernel), if_neg (by decide +kernel), c_isSg b3 (by omega), m_isSg b3 (by omega), zcl_ok, zcl_ok]
      by_cases e : k1.1 = 3 ∧ k1.2.2.1 = 41
      · obtain ⟨k2, Mc2, Mr2, c1, c2, c3, c4, c5, c6⟩ := k_adv b3 (by omega) (by omega)
        have Z2 := b4.fr c5 (by decide) c6 (by decide) (by decide)
        have f50 : gF [] [50] Mr2 (zwI Mr2 89 50 (nI w)) := gF.w9 gF.r (by decide)
        rw [decide_eq_true e, if_neg gB_t0, if_neg gB_t0, c1, c2, zcl_ok, zcl_ok, zcl_ok, if_neg (by decide +kernel), zcl_ok, gEn9_e, gEn9_1 Z2.2.2.2.2.2.1]
        refine Or.inl ⟨n', o', _, _, _, k2, Mc2, _, rfl, rfl, c3.fr (gF.r (ids := []) (ks := [])) (by decide) f50 (by decide) (by decide), Z2.up, ?_, by omega, by omega, gc.trans (b8.trans (c5.mono (by decide) (by decide))), gm.trans (b9.trans ((c6.mono (by decide) (by decide)).trans (f50.mono (by decide) (by decide))))⟩
        rw [zwI_s, upd_n (by decide), c6.2.2 51 (by decide)]; exact b5
      · obtain ⟨Mc2, Mr2, c1, c2, c3, c4, c5⟩ := k_fail (j := 1) b3 (fun _ => rfl) (by omega) (by omega)
        rw [decide_eq_false e, if_pos gB_f0, if_pos gB_f0, c1, c2, zcl_ok, zcl_ok, zchk_ok (Or.inl rfl), zchk_ok (Or.inl rfl), zcl_ok, if_pos rfl, zcl_ok, gEn9_e]
        exact k_bad9 rfl rfl c3 (gc.trans (b8.trans (c4.mono (by decide) (by decide)))) (gm.trans (b9.trans (c5.mono (by decide) (by decide))))
    · rw [b1, b2, zcl_ok, zcl_ok, if_pos rfl, if_pos rfl, zcl_ok, gEn9_e]
      exact k_bad9 rfl rfl b3 (gc.trans b4) (gm.trans b5)
theorem k_one {tl lim : Nat} {tb : Nat → Nat} {h : zN} {nu : Nat → List Nat} {w dc dr : Nat} (hH : gH h) (hw : w ≤ 8) (IH : w < 8 → gP1 tl lim tb h nu (w + 1) dc dr ∧ gP2 tl lim tb h nu (w + 1) dc dr) : gP1 tl lim tb h nu w (dc + 1) (dr + 2) := by
  intro n o st K A B k Mc Mr S Z KC KM
  have lk := gKy_le (k := k)
  rw [m8_one, mA_said, m_isSg S (by omega), zcl_ok]
  rw [m_rs10 (f1 := (mg_X12a (dr + 1)).1) (f2 := (mg_X12a (dr + 1)).2.1) (f3 := (mg_X12a (dr + 1)).2.2.1) (f4 := (mg_X12a (dr + 1)).2.2.2.1) (f5 := (mg_X12a (dr + 1)).2.2.2.2) S 11 13 zF (by omega) (by omega) (by show _ < 5000; omega) (fun j h1 h2 => by omega)]
  unfold mf_X8_readOne mf_X12_readSaid_b30
  simp only [zl_lit]
  rw [c_isSg S (by omega), zcl_ok]
  by_cases e : k.1 = 3 ∧ k.2.2.1 = 40
  · rw [decide_eq_true e, if_neg gB_t0, if_neg gB_t0]
    exact k_b28 hH hw IH S Z KC KM (fun _ => e.1) (fun q => by cases q)
  · rw [decide_eq_false e, if_pos gB_f0, if_pos gB_f0]
    by_cases y : 13 ≤ gKy k ∧ gKy k ≤ 23
    · have e2 : gYk (gKy k) = gKy k := by unfold gYk; rw [if_pos y]
      rw [c_key S, enX_ne (by omega), if_pos (by rw [nI_leI (by omega) (by omega)]; omega), e2, if_pos (by rw [nI_leI (by omega) (by omega)]; omega)]
      exact k_b28 hH hw IH S Z KC KM (fun q => by cases q) (fun _ => ⟨rfl, y⟩)
    · have e2 : gYk (gKy k) = 24 := by unfold gYk; rw [if_neg y]
      have e3 : ¬ nI 13 ≤ Mc.1 1 5 := by
        rw [c_key S]
        by_cases z : gKy k = 24
        · rw [show enX 24 (gKy k) = zm1 from if_pos z]; exact zm1_nle (by omega)
        · rw [enX_ne z, nI_leI (by omega) (by omega)]; omega
      obtain ⟨Mc1, Mr1, a1, a2, a3, a4, a5⟩ := k_fail (j := 1) S (fun _ => rfl) (by omega) (by omega)
      rw [if_neg e3, e2, if_neg (by rw [nI_leI (by omega) (by omega)]; omega), a1, a2, zcl_ok, zcl_ok, zchk_ok (Or.inl rfl), zchk_ok (Or.inl rfl)]
      exact Or.inr ⟨Mc1, Mr1, rfl, rfl, a3, a4.mono (by decide) (by decide), a5.mono (by decide) (by decide)⟩
theorem k_ones {tl lim : Nat} {tb : Nat → Nat} {h : zN} {nu : Nat → List Nat} (hH : gH h) : ∀ (ρ w dc dr : Nat), w + ρ = 8 → 2 * ρ + 1 ≤ dc → 4 * ρ + 2 ≤ dr → gP1 tl lim tb h nu w dc dr := by
  intro ρ
  induction ρ with
  | zero =>
    intro w dc dr hw h1 h2
    obtain ⟨dc', rfl⟩ : ∃ d, dc = d + 1 := ⟨dc - 1, by omega⟩
    obtain ⟨dr', rfl⟩ : ∃ d, dr = d + 2 := ⟨dr - 2, by omega⟩
    exact k_one hH (by omega) (fun q => by omega)
  | succ ρ ih =>
    intro w dc dr hw h1 h2
    obtain ⟨dc', rfl⟩ : ∃ d, dc = d + 1 + 1 := ⟨dc - 2, by omega⟩
    obtain ⟨dr', rfl⟩ : ∃ d, dr = d + 2 + 2 := ⟨dr - 4, by omega⟩
    exact k_one hH (by omega) (fun _ => ⟨ih (w + 1) (dc' + 1) (dr' + 2) (by omega) (by omega) (by omega), k_cond (ih (w + 1) dc' dr' (by omega) (by omega) (by omega))⟩)
/-- a SENTENCE read by both -/
def gSR (h : zN) (Mc0 Mr0 : zMem) (rc rm : Option (Int32 × zMem)) : Prop := (∃ (n o : Nat) (K A B : zN) (Mc1 Mr1 : zMem), n < 40 ∧ 1 ≤ o ∧ o ≤ 20 ∧ rc = some (nI 1, Mc1) ∧ rm = mf_X12_sentence_l77 gR 89 zF (nI 0) (zwI (zwI Mr1 91 112 (nI 1)) 91 113 (nI n)) ∧ gZI h (n + 1) o 0 [n] K A B Mc1 Mr1 ∧ Mc1.1 1 2 = nI 0 ∧ Mr1.1 89 10 = nI 0 ∧ gF gIz [] Mc0 Mc1 ∧ gF gJz gFz Mr0 Mr1) ∨ (∃ Mc1 Mr1, rc = some (nI 0, Mc1) ∧ rm = some (zm1 - Mr1.1 89 11, Mr1) ∧ gBad Mc1 Mr1 ∧ gF gIz [] Mc0 Mc1 ∧ gF gJz gFz Mr0 Mr1)
theorem k_sent {tl : Nat} {tb : Nat → Nat} {Mc Mr : zMem} {h : zN} {nu : Nat → List Nat} (hH : gH h) (hl : tl ≤ 940) (c1 : Mc.1 1 1 = nI tl) (cb : ∀ j, j < tl → tb j < 256 ∧ Mc.1 2 j = nI (tb j)) (ck : ∀ k, k < 24 → Mc.2 3 k = lN (gPk 32 (gKw k) 0)) (m2 : Mr.1 89 2 = nI tl) (mb : ∀ j, j < tl → Mr.1 90 j = nI (tb j)) (KC : gKC h nu Mc) (KM : gKM h nu Mr) : ∃ Mr2, Mr2.1 89 2 = nI 0 ∧ gF [89] (0 :: 2 :: 3 :: 4 :: gFz) Mr Mr2 ∧ gSR h Mc Mr2 (mf_X8_readAll gR 25 1 4 Mc) (mf_X12_sentence gR 89 Mr) := by
  have f0 : gF [25] [] Mc (zwI (zwI Mc 25 0 (nI 0)) 25 1 (nI 0)) := gF.wI (gF.wI gF.r (by decide) (by decide)) (by decide) (by decide)
  obtain ⟨k, Mc1, Mr1, a1, a2, a3, a4, a5, a6⟩ := k_begin (lim := 200) (Mc := zwI (zwI Mc 25 0 (nI 0)) 25 1 (nI 0)) hl (by omega) (by rw [f0.1 1 (by decide) (by decide)]; exact c1) (fun j hj => by rw [f0.1 2 (by decide) (by decide)]; exact cb j hj) (fun k hk => by rw [f0.2.1 3 (by decide)]; exact ck k hk) m2 mb
  obtain ⟨M5, hM5⟩ : ∃ M5, M5 = zwI (zwI (zwI Mr1 89 48 (nI 0)) 89 49 (nI 0)) 89 50 (nI 0) := ⟨_, rfl⟩
  have f5 : gF [] [48, 49, 50] Mr1 M5 := by
    rw [hM5]
    exact gF.w9 (gF.w9 (gF.w9 gF.r (by decide)) (by decide)) (by decide)
  have gc : gF gIz [] Mc Mc1 := (f0.mono (by decide) (by decide)).trans (a4.mono (by decide) (by decide))
  have gm : gF [89] (0 :: 2 :: 3 :: 4 :: gFz) Mr M5 := (a5.mono (by decide) (by decide)).trans (f5.mono (by decide) (by decide))
  have Z : gZI h 0 0 0 [] (fun _ => 0) (fun _ => 0) (fun _ => 0) Mc1 M5 := by
    refine ⟨?_, ?_, fun i hi => absurd hi (by omega), ?_, ?_, ?_, fun i hi => absurd hi (by omega), fun i hi => absurd hi (by omega), rfl, by decide, by omega⟩
    · rw [a4.1 25 (by decide) (by decide), zwI_s, upd_n (by decide), zwI_s, upd_s]
    · rw [a4.1 25 (by decide) (by decide), zwI_s, upd_s]
    · rw [hM5, zwI_s, upd_n (by decide), zwI_s, upd_n (by decide), zwI_s, upd_s]
    · rw [hM5, zwI_s, upd_n (by decide), zwI_s, upd_s]
    · rw [hM5, zwI_s, upd_s]
  have S5 := a3.fr (gF.r (ids := []) (ks := [])) (by decide) f5 (by decide) (by decide)
  refine ⟨M5, ?_, gm, ?_⟩
  · rw [f5.2.2 2 (by decide)]; exact a6
  have P2 : gP2 tl 200 tb h nu 0 64 64 := k_cond (k_ones hH 8 0 63 62 (by omega) (by omega) (by omega))
  have ec : mf_X8_readAll gR 25 1 4 Mc = zcl ((mg_X8 64).1 gR 25 1 4 (nI (0 + 1)) Mc1) fun r6 M5 => if r6 = nI 0 then some (nI 0, M5) else zcl (mf_X10_isEnd gR 1 M5) fun r9 M8 => if r9 = nI 0 then zcl (mf_X10_fail gR 1 (nI 1) M8) fun r12 M11 => if r12 = nI 0 then some (nI 0, M11) else some (nI 1, M11) else some (nI 1, M8) := by
    unfold mf_X8_readAll mf_X8_wipe
    simp only [zl_lit, zlet_ok]
    rw [zcl_ok, a1, zcl_ok]
    exact rfl
  have em : mf_X12_sentence gR 89 Mr = zcl ((mg_X12a 64).1 gR 89 M5) fun r7 M6 => if r7 = nI 0 then some (zm1 - M6.1 89 11, M6) else if M6.1 89 7 = nI 0 then zald 354 (nI 112) fun j10 => zald 354 (nI 113) fun j12 => mf_X12_sentence_l77 gR 89 zF (nI 0) (zwI (zwI M6 91 j10 (nI 1)) 91 j12 ((zwI M6 91 j10 (nI 1)).1 89 51)) else zcl (mf_X12_bad gR 89 (nI 1) M6) fun _ M14 => some (zm1 - M14.1 89 11, M14) := by
    unfold mf_X12_sentence
    simp only [zl_lit, zl_m1, zlet_ok, r89_14]
    rw [a2, zcl_ok, ← hM5]
    exact rfl
  rw [ec, em]
  rcases P2 0 0 [] _ _ _ k Mc1 M5 S5 Z ((KC.fr f0 (by decide)).fr a4 (by decide)) (KM.fr gm (by decide)) with ⟨n', o', K1, A1, B1, k1, Mc2, Mr2, b1, b2, b3, b4, b5, b6, b7, b8, b9⟩ | ⟨Mc2, Mr2, b1, b2, b3, b4, b5⟩
  · have ho20 := b4.2.2.2.2.2.2.2.2.2.2
    have hn20 := b4.2.2.2.2.2.2.2.2.2.1
    have hl1 : [n'].length = 1 := rfl
    rw [b1, b2, zcl_ok, zcl_ok, if_neg (by decide +kernel), if_neg (by decide +kernel), c_isEnd b3, zcl_ok]
    by_cases k0 : k1.1 = 0
    · rw [decide_eq_true k0, if_neg gB_t0, if_pos (by rw [m_isEnd b3]; exact k0), zald_nI (by omega) (by omega), zald_nI (by omega) (by omega), zwI_n (by decide), b5]
      exact Or.inl ⟨n', o', K1, A1, B1, Mc2, Mr2, by omega, by omega, ho20, rfl, rfl, b4, b3.2.2.2.2.2.2.1, b3.2.2.2.2.2.2.2.2.2.2.2, gc.trans b8, b9⟩
    · obtain ⟨Mc3, Mr3, d1, d2, d3, d4, d5⟩ := k_fail (j := 1) b3 (fun _ => rfl) (by omega) (by omega)
      rw [decide_eq_false k0, if_pos gB_f0, if_neg (by rw [m_isEnd b3]; exact k0), d1, d2, zcl_ok, zcl_ok, if_pos rfl]
      exact Or.inr ⟨Mc3, Mr3, rfl, rfl, d3, gc.trans (b8.trans (d4.mono (by decide) (by decide))), b9.trans (d5.mono (by decide) (by decide))⟩
  · rw [b1, b2, zcl_ok, zcl_ok, if_pos rfl, if_pos rfl]
    exact Or.inr ⟨Mc2, Mr2, rfl, rfl, b3, gc.trans b4, b5⟩
