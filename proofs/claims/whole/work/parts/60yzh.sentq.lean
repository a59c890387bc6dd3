/-! SENTENCE: the call, in both -/
def gSD (h : zN) (n o : Nat) (K A B : zN) : Prop := n < 40 ∧ 1 ≤ o ∧ o ≤ 20 ∧ (∀ i, i < n + 1 → gWf h K A B i) ∧ gStk K (n + 1) = [n]
def gSQ (q q1 q2 q3 n o : Nat) (K A B : zN) (M : zMem) : Prop := M.1 q 0 = nI o ∧ M.1 q 1 = nI (n + 1) ∧ gSC (n + 1) K A B (M.1 q1) (M.1 q2) (M.1 q3)
def gST (n : Nat) (K A B : zN) (t : Nat → Int32) : Prop := t 112 = nI 1 ∧ t 113 = nI n ∧ gSM (n + 1) K A B (fun j => t (114 + j))
/-- a SENTENCE as the class holds it at q, the reference in t -/
def gSI (q q1 q2 q3 : Nat) (h : zN) (t : Nat → Int32) (M : zMem) : Prop := (M.1 q 0 = nI 0 ∧ t 112 = nI 0) ∨ ∃ n o K A B, gSD h n o K A B ∧ gSQ q q1 q2 q3 n o K A B M ∧ gST n K A B t
theorem gSI.fr {q q1 q2 q3 : Nat} {h : zN} {t : Nat → Int32} {M M1 : zMem} {ids ks : List Nat} (hf : gF ids ks M M1) (hi : ∀ x ∈ [q, q1, q2, q3], x ∉ ids ∧ x ≠ 89) (I : gSI q q1 q2 q3 h t M) : gSI q q1 q2 q3 h t M1 := by
  have e0 := hf.1 q (hi q (by simp)).1 (hi q (by simp)).2
  have e1 := hf.1 q1 (hi q1 (by simp)).1 (hi q1 (by simp)).2
  have e2 := hf.1 q2 (hi q2 (by simp)).1 (hi q2 (by simp)).2
  have e3 := hf.1 q3 (hi q3 (by simp)).1 (hi q3 (by simp)).2
  unfold gSI gSQ at *
  rw [e0, e1, e2, e3]
  exact I
theorem c_copySent {p p1 p2 p3 q q1 q2 q3 : Nat} {M : zMem} (rp : zrf gR p 2 = p1 ∧ zrf gR p 3 = p2 ∧ zrf gR p 4 = p3) (rq : zrf gR q 2 = q1 ∧ zrf gR q 3 = q2 ∧ zrf gR q 4 = q3) (hne : ∀ x ∈ [p, p1, p2, p3], x ≠ q ∧ x ≠ q1 ∧ x ≠ q2 ∧ x ≠ q3) (hq : q ≠ q1 ∧ q ≠ q2 ∧ q ≠ q3 ∧ q1 ≠ q2 ∧ q1 ≠ q3 ∧ q2 ≠ q3) (h89 : ∀ x ∈ [q, q1, q2, q3], x ≠ 89) : ∃ M1, mf_X8_copyFrom gR q p M = some ((), M1) ∧ M1.1 q 0 = M.1 p 0 ∧ M1.1 q 1 = M.1 p 1 ∧ (∀ i, i < 40 → M1.1 q1 i = M.1 p1 i ∧ M1.1 q2 i = M.1 p2 i ∧ M1.1 q3 i = M.1 p3 i) ∧ gF [q, q1, q2, q3] [] M M1 := by
  obtain ⟨rp1, rp2, rp3⟩ := rp
  obtain ⟨rq1, rq2, rq3⟩ := rq
  obtain ⟨d1, d2, d3, d4, d5, d6⟩ := hq
  have n0 := hne p (by simp)
  have n1 := hne p1 (by simp)
  have n2 := hne p2 (by simp)
  have n3 := hne p3 (by simp)
  have g0 := h89 q (by simp)
  have g1 := h89 q1 (by simp)
  have g2 := h89 q2 (by simp)
  have g3 := h89 q3 (by simp)
  unfold mf_X8_copyFrom
  simp only [zl_lit, zlet_ok, rp1, rp2, rp3, rq1, rq2, rq3]
  refine ⟨_, rfl, ?_, ?_, fun i hi => ⟨?_, ?_, ?_⟩, gF.rI (gF.rI (gF.rI (gF.wI (gF.wI gF.r (by simp) g0) (by simp) g0) (by simp) g1) (by simp) g2) (by simp) g3⟩
  · rw [zrI_n d3, zrI_n d2, zrI_n d1, zwI_s, upd_n (by decide), zwI_s, upd_s]
  · rw [zrI_n d3, zrI_n d2, zrI_n d1, zwI_s, upd_s, zwI_n n0.1]
  · rw [zrI_n d5, zrI_n d4, zrI_s, cpyI (by omega) hi, zwI_n n1.1, zwI_n n1.1]
  · rw [zrI_n d6, zrI_s, cpyI (by omega) hi, zrI_n n2.2.1, zwI_n n2.1, zwI_n n2.1]
  · rw [zrI_s, cpyI (by omega) hi, zrI_n n3.2.2.1, zrI_n n3.2.1, zwI_n n3.1, zwI_n n3.1]
theorem gSQ.of {p p1 p2 p3 q q1 q2 q3 n o : Nat} {K A B : zN} {M M1 : zMem} (hn : n < 40) (Q : gSQ p p1 p2 p3 n o K A B M) (e0 : M1.1 q 0 = M.1 p 0) (e1 : M1.1 q 1 = M.1 p 1) (e2 : ∀ i, i < 40 → M1.1 q1 i = M.1 p1 i ∧ M1.1 q2 i = M.1 p2 i ∧ M1.1 q3 i = M.1 p3 i) : gSQ q q1 q2 q3 n o K A B M1 := by
  obtain ⟨a, b, c⟩ := Q
  refine ⟨e0.trans a, e1.trans b, fun i hi => ?_⟩
  have := e2 i (by omega)
  rw [this.1, this.2.1, this.2.2]
  exact c i hi
def gcs (E r : Nat → Int32) (n : Nat) : Nat → Int32 := fun j => if 114 ≤ j ∧ j < 114 + n then r (j - 114) else E j
theorem gcs_0 {E r : Nat → Int32} : gcs E r 0 = E := by
  funext j
  unfold gcs
  try rw [if_neg (by omega)]
theorem gcs_s {E r : Nat → Int32} {i : Nat} : upd (gcs E r i) (114 + i) (r i) = gcs E r (i + 1) := by
  funext j
  unfold upd gcs
  by_cases e : j = 114 + i
  · rw [if_pos e, if_pos (by omega), show j - 114 = i by omega]
  · rw [if_neg e]
    by_cases e2 : 114 ≤ j ∧ j < 114 + i
    · rw [if_pos e2, if_pos (by omega)]
    · rw [if_neg e2, if_neg (by omega)]
theorem m_sl77 {M : zMem} : mf_X12_sentence_l77 gR 89 zF (nI 0) M = some (M.1 89 49, zrowI M 91 (gcs (M.1 91) (M.1 113) 240)) := by
  have e0 : M = zrowI M 91 (gcs (M.1 91) (M.1 113) 0) := by rw [gcs_0, grI_id rfl]
  have key : mf_X12_sentence_l77 gR 89 zF (nI 0) (zrowI M 91 (gcs (M.1 91) (M.1 113) 0)) = some (M.1 89 49, zrowI M 91 (gcs (M.1 91) (M.1 113) 240)) := by
    refine gfor (G := fun f i => mf_X12_sentence_l77 gR 89 f (nI i) (zrowI M 91 (gcs (M.1 91) (M.1 113) i))) (n := 240) (fun f i hi => ?_) (fun f => ?_) _ (by show _ < 5000; omega)
    · have e1 : (zrowI M 91 (gcs (M.1 91) (M.1 113) i)).1 113 i = M.1 113 i := by rw [zrI_n (by decide)]
      have e2 : zwI (zrowI M 91 (gcs (M.1 91) (M.1 113) i)) 91 (114 + i) (M.1 113 i) = zrowI M 91 (gcs (M.1 91) (M.1 113) (i + 1)) := by
        rw [← gcs_s]
        unfold zwI
        rw [zrI_s, grI_rI]
      rw [mf_X12_sentence_l77]
      simp only [zl_lit, zlet_ok, r89_14, r89_47, nI_add]
      rw [if_neg (by rw [nI_leI (by omega) (by omega)]; omega), zald_nI (by omega) (by omega), zald_nI (by omega) (by omega), e1, e2]
    · have e1 : (zrowI M 91 (gcs (M.1 91) (M.1 113) 240)).1 89 49 = M.1 89 49 := by rw [zrI_n (by decide)]
      rw [mf_X12_sentence_l77]
      simp only [zl_lit]
      rw [if_pos (by rw [nI_leI (by omega) (by omega)]; omega), e1]
  rw [gcs_0, grI_id rfl] at key
  exact key
def gtS (n : Nat) (r t : Nat → Int32) : Nat → Int32 := fun j => if j = 112 then nI 1 else if j = 113 then nI n else if 114 ≤ j ∧ j < 354 then r (j - 114) else t j
theorem gtS_enc {h a : zN} {t r : Nat → Int32} {n : Nat} : gcs (upd (upd (encM h a t) 112 (nI 1)) 113 (nI n)) r 240 = encM h a (gtS n r t) := by
  funext j
  unfold gcs upd gtS encM
  by_cases h1 : j < 112
  · rw [if_neg (by omega), if_neg (by omega), if_neg (by omega)]
    by_cases h2 : j < 56
    · rw [if_pos h2, if_pos h2]
    · rw [if_neg h2, if_neg h2]
      by_cases h3 : j < 72
      · rw [if_pos h3, if_pos h3]
      · rw [if_neg h3, if_neg h3]
        by_cases h4 : j < 80
        · rw [if_pos h4, if_pos h4]
        · rw [if_neg h4, if_neg h4, if_pos h1, if_pos h1]
  · rw [if_neg (show ¬ j < 56 by omega), if_neg (show ¬ j < 72 by omega), if_neg (show ¬ j < 80 by omega), if_neg h1, if_neg (show ¬ j < 56 by omega), if_neg (show ¬ j < 72 by omega), if_neg (show ¬ j < 80 by omega), if_neg h1]
    show (if 114 ≤ j ∧ j < 114 + 240 then r (j - 114) else if j = 113 then nI n else if j = 112 then nI 1 else t j) = (if j = 112 then nI 1 else if j = 113 then nI n else if 114 ≤ j ∧ j < 354 then r (j - 114) else t j)
    by_cases e2 : j = 112
    · rw [if_neg (by omega), if_neg (by omega), if_pos e2, if_pos e2]
    · rw [if_neg e2, if_neg e2]
      by_cases e3 : j = 113
      · rw [if_neg (by omega), if_pos e3, if_pos e3]
      · rw [if_neg e3, if_neg e3]
abbrev gIdS : List Nat := [1, 20, 21, 22, 23, 25, 26, 27, 28, 89, 91, 113]
abbrev gKsS : List Nat := [0, 2, 3, 4, 5, 6, 7, 8, 9, 10, 11, 13, 48, 49, 50, 51]
theorem q_sentence {c : Nat} {h a : zN} {t : Nat → Int32} {sn : Nat → zN} {n : Nat} {M : zMem} {tl : Nat} {tb : Nat → Nat} {nu : Nat → List Nat} (X : gX c h a t sn n M) (N : gNm h nu M) (T : gTp tl tb M) (K : gKS M) (I : gSI 20 21 22 23 h t M) : ∃ r M1 M2 t', mf_X11_sentence gR 0 M = some (r, M1) ∧ mf_X12_sentence gR 89 M1 = some (r, M2) ∧ gF gIdS gKsS M M2 ∧ gX c h a t' sn n M2 ∧ gSI 20 21 22 23 h t' M2 ∧ gTp 0 tb M2 ∧ M2.1 1 2 = M2.1 89 10 := by
  have X0 := X
  obtain ⟨W, P1, P2, hn, hO, hS⟩ := X
  have W0 := W
  obtain ⟨hr, hc0, hm, hH, hA⟩ := W
  obtain ⟨t1, t2, t3, t4⟩ := id T
  obtain ⟨KC, KM⟩ := gKC.of W0 N
  have ec : ∀ r Mc, mf_X8_readAll gR 25 1 4 M = some (r, Mc) → mf_X11_sentence gR 0 M = if r = nI 0 then some (zm1 - Mc.1 1 3, zwI Mc 1 1 (nI 0)) else (zcl (mf_X8_copyFrom gR 20 25 (zwI Mc 1 1 (nI 0))) fun _ M5 => some (M5.1 20 0, M5)) := by
    intro r Mc e
    have e3 : (zwI Mc 1 1 (nI 0)).1 1 3 = Mc.1 1 3 := by rw [zwI_s, upd_n (by decide)]
    unfold mf_X11_sentence
    simp only [zl_lit, zl_m1, zlet_ok, r0_0, r0_1, r0_5, r0_6]
    rw [e, zcl_ok, e3]
  obtain ⟨Ma, _, _, ka⟩ := k_sent (Mc := M) (Mr := M) hH t1 t2 (fun j hj => ⟨(t4 j hj).1, (t4 j hj).2.1⟩) K t3 (fun j hj => (t4 j hj).2.2) KC KM
  rcases ka with ⟨n1, o1, K1, A1, B1, Mc1, Mr1, a0, a1, a2, a3, _, a5, a6, _, a8, _⟩ | ⟨Mc1, Mr1, a1, _, a3, a4, _⟩
  · have fz : gF gIz [] M (zwI Mc1 1 1 (nI 0)) := gF.wI a8 (by decide) (by decide)
    obtain ⟨Md, c1, c2, c3, c4, c5⟩ := c_copySent (M := zwI Mc1 1 1 (nI 0)) ⟨r25_2, r25_3, r25_4⟩ ⟨r20_2, r20_3, r20_4⟩ (by decide) (by decide) (by decide)
    have F1 : gF [1, 20, 21, 22, 23, 25, 26, 27, 28] [] M Md := (fz.mono (by decide) (by decide)).trans (c5.mono (by decide) (by decide))
    obtain ⟨Mb, m2, mf, kb⟩ := k_sent (Mc := M) (Mr := Md) hH t1 t2 (fun j hj => ⟨(t4 j hj).1, (t4 j hj).2.1⟩) K (by rw [F1.2.2 2 (by decide)]; exact t3) (fun j hj => by rw [F1.1 90 (by decide) (by decide)]; exact (t4 j hj).2.2) KC (KM.fr F1 (by decide))
    rcases kb with ⟨n2, o2, K2, A2, B2, Mc2, Mr2, d0, d1, d2, d3, d4, d5, d6, d7, d8, d9⟩ | ⟨Mc2, Mr2, d1, _⟩
    · rw [a3] at d3
      have q2 : Mc1 = Mc2 := congrArg Prod.snd (Option.some.inj d3)
      subst q2
      obtain ⟨z1, z2, z3, z4, z5, z6, z7, z8, z9, z10, z11⟩ := d5
      have Fr : gF [1, 20, 21, 22, 23, 25, 26, 27, 28, 89, 113] gKsS M Mr2 := (F1.mono (by decide) (by decide)).trans ((mf.mono (by decide) (by decide)).trans (d9.mono (by decide) (by decide)))
      have G1 : gF [89, 113] gKsS Md Mr2 := (mf.mono (by decide) (by decide)).trans (d9.mono (by decide) (by decide))
      have fM : gF [91] [] Mr2 (zrowI (zwI (zwI Mr2 91 112 (nI 1)) 91 113 (nI n2)) 91 (encM h a (gtS n2 (Mr2.1 113) t))) := gF.rI (gF.wI (gF.wI gF.r (by decide) (by decide)) (by decide) (by decide)) (by decide) (by decide)
      have x91 : (zwI (zwI Mr2 91 112 (nI 1)) 91 113 (nI n2)).1 91 = upd (upd (encM h a t) 112 (nI 1)) 113 (nI n2) := by
        rw [zwI_s, zwI_s, Fr.1 91 (by decide) (by decide), hm]
      have x113 : (zwI (zwI Mr2 91 112 (nI 1)) 91 113 (nI n2)).1 113 = Mr2.1 113 := by rw [zwI_n (by decide), zwI_n (by decide)]
      have x49 : (zwI (zwI Mr2 91 112 (nI 1)) 91 113 (nI n2)).1 89 49 = nI o2 := by rw [zwI_n (by decide), zwI_n (by decide)]; exact z5
      rw [m_sl77, x91, x113, x49, gtS_enc] at d4
      have G2 : gF [89, 91, 113] gKsS Md (zrowI (zwI (zwI Mr2 91 112 (nI 1)) 91 113 (nI n2)) 91 (encM h a (gtS n2 (Mr2.1 113) t))) := (G1.mono (by decide) (by decide)).trans (fM.mono (by decide) (by decide))
      have Fz : gF gIdS gKsS M (zrowI (zwI (zwI Mr2 91 112 (nI 1)) 91 113 (nI n2)) 91 (encM h a (gtS n2 (Mr2.1 113) t))) := (F1.mono (by decide) (by decide)).trans (G2.mono (by decide) (by decide))
      have u0 : (zwI Mc1 1 1 (nI 0)).1 25 0 = nI o2 := by rw [zwI_n (by decide)]; exact z1
      have Q25 : gSQ 25 26 27 28 n2 o2 K2 A2 B2 (zwI Mc1 1 1 (nI 0)) := by
        refine ⟨u0, ?_, ?_⟩
        · rw [zwI_n (by decide)]; exact z2
        · rw [zwI_n (by decide), zwI_n (by decide), zwI_n (by decide)]; exact z3
      have Q20 : gSQ 20 21 22 23 n2 o2 K2 A2 B2 Md := gSQ.of d0 Q25 c2 c3 c4
      refine ⟨nI o2, Md, _, gtS n2 (Mr2.1 113) t, ?_, d4, Fz, ⟨gW.mk (z := M.1 17) (gRC.fr Fz (by decide) hr) (by rw [Fz.1 17 (by decide) (by decide)]; exact hc0) zrI_s hH hA, gPC.fr Fz (by decide) P1, gPM.fr Fz (by decide) (by decide) P2, hn, hO, hS⟩, Or.inr ⟨n2, o2, K2, A2, B2, ⟨d0, d1, d2, z8, z9⟩, ?_, rfl, rfl, ?_⟩, ⟨by omega, ?_, ?_, fun j hj => absurd hj (by omega)⟩, ?_⟩
      · rw [ec _ _ a3, if_neg (by decide +kernel), c1, zcl_ok, c2, u0]
      · unfold gSQ
        rw [G2.1 20 (by decide) (by decide), G2.1 21 (by decide) (by decide), G2.1 22 (by decide) (by decide), G2.1 23 (by decide) (by decide)]
        exact Q20
      · intro i hi
        have e : ∀ j, j < 160 → gtS n2 (Mr2.1 113) t (114 + j) = Mr2.1 113 j := fun j hj => by
          unfold gtS
          rw [if_neg (by omega), if_neg (by omega), if_pos (by omega), Nat.add_sub_cancel_left]
        show gtS n2 (Mr2.1 113) t (114 + 4 * i) = _ ∧ (_ → gtS n2 (Mr2.1 113) t (114 + (4 * i + 1)) = _) ∧ (_ → gtS n2 (Mr2.1 113) t (114 + (4 * i + 2)) = _) ∧ (_ → gtS n2 (Mr2.1 113) t (114 + (4 * i + 3)) = _)
        rw [e _ (by omega), e _ (by omega), e _ (by omega), e _ (by omega)]
        exact z7 i hi
      · rw [G2.1 1 (by decide) (by decide), c5.1 1 (by decide) (by decide), zwI_s, upd_s]
      · rw [fM.2.2 2 (by decide), d9.2.2 2 (by decide)]; exact m2
      · rw [G2.1 1 (by decide) (by decide), c5.1 1 (by decide) (by decide), zwI_s, upd_n (by decide), a6, fM.2.2 10 (by decide)]; exact d7.symm
    · rw [a3] at d1
      have q1 : nI 1 = nI 0 := congrArg Prod.fst (Option.some.inj d1)
      exact absurd q1 (by decide +kernel)
  · have F1 : gF gIz [] M (zwI Mc1 1 1 (nI 0)) := gF.wI a4 (by decide) (by decide)
    obtain ⟨Mb, m2, mf, kb⟩ := k_sent (Mc := M) (Mr := zwI Mc1 1 1 (nI 0)) hH t1 t2 (fun j hj => ⟨(t4 j hj).1, (t4 j hj).2.1⟩) K (by rw [F1.2.2 2 (by decide)]; exact t3) (fun j hj => by rw [F1.1 90 (by decide) (by decide)]; exact (t4 j hj).2.2) KC (KM.fr F1 (by decide))
    rcases kb with ⟨n2, o2, K2, A2, B2, Mc2, Mr2, _, _, _, d3, _⟩ | ⟨Mc2, Mr2, d1, d2, d3, d4, d5⟩
    · rw [a1] at d3
      have q1 : nI 0 = nI 1 := congrArg Prod.fst (Option.some.inj d3)
      exact absurd q1 (by decide +kernel)
    · rw [a1] at d1
      have q2 : Mc1 = Mc2 := congrArg Prod.snd (Option.some.inj d1)
      subst q2
      obtain ⟨⟨jg, i1, i4, i2, i3⟩, i5⟩ := d3
      have G1 : gF [89, 113] gKsS (zwI Mc1 1 1 (nI 0)) Mr2 := (mf.mono (by decide) (by decide)).trans (d5.mono (by decide) (by decide))
      have Fx : gF [1, 25, 26, 27, 28, 89, 113] gKsS M Mr2 := (F1.mono (by decide) (by decide)).trans (G1.mono (by decide) (by decide))
      refine ⟨zm1 - Mr2.1 89 11, zwI Mc1 1 1 (nI 0), Mr2, t, ?_, d2, Fx.mono (by decide) (by decide), gX.fr Fx (by decide) (by decide) X0, gSI.fr Fx (by decide) I, ⟨by omega, ?_, ?_, fun j hj => absurd hj (by omega)⟩, ?_⟩
      · rw [ec _ _ a1, if_pos rfl, i5]
      · rw [G1.1 1 (by decide) (by decide), zwI_s, upd_s]
      · rw [d5.2.2 2 (by decide)]; exact m2
      · rw [G1.1 1 (by decide) (by decide), zwI_s, upd_n (by decide), i2, i3]
