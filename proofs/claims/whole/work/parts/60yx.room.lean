/-! ROOM: the call, in both -/
def gTail (r : Int32) (M : zMem) : Option (Int32 × zMem) := zcl (mf_X7_copyFrom gR 4 10 (zwI M 1 1 (nI 0))) fun _ M5 => zcl (mf_X3_begin gR 16 M5) fun _ M7 => zcl (mf_X8_wipe gR 20 M7) fun _ M9 => zcl (mf_X5_forget gR 33 M9) fun _ M11 => some (r, M11)
theorem c_tail {h : zN} {nu : Nat → List Nat} {oc : Int32} {M : zMem} {r : Int32} (hH : gH h) (D : gDC h nu oc M) (h2 : M.1 1 2 = nI 0) : ∃ Mf, gTail r M = some (r, Mf) ∧ gRC h Mf ∧ Mf.1 17 = eC (gA0 h) (Mf.1 17) ∧ (∀ j, gTold h j → gWd (nu j) ∧ Mf.2 8 j = lN (gPk 32 (nu j) 0)) ∧ Mf.1 20 0 = nI 0 ∧ Mf.1 20 1 = nI 0 ∧ Mf.1 33 2 = nI 0 ∧ Mf.1 33 1 = M.1 33 1 ∧ Mf.1 1 1 = nI 0 ∧ Mf.1 1 2 = nI 0 ∧ gF [1, 4, 5, 6, 7, 8, 9, 17, 20, 33] [] M Mf := by
  have f0 : gF [1] [] M (zwI M 1 1 (nI 0)) := gF.wI gF.r (by decide) (by decide)
  obtain ⟨M1, a1, a2, a3, a4⟩ := c_copyRoom hH (D.fr f0 (by decide))
  obtain ⟨M2, b1, b2, b3⟩ := c_begin a2
  have f3 : gF [20, 33] [] M2 (zwI (zwI (zwI M2 20 0 (nI 0)) 20 1 (nI 0)) 33 2 (nI 0)) := gF.wI (gF.wI (gF.wI gF.r (by decide) (by decide)) (by decide) (by decide)) (by decide) (by decide)
  refine ⟨zwI (zwI (zwI M2 20 0 (nI 0)) 20 1 (nI 0)) 33 2 (nI 0), ?_, gRC.fr (b3.mono (ids' := [17, 20, 33]) (ks' := []) (by decide) (by decide) |>.trans (f3.mono (by decide) (by decide))) (by decide) a2, ?_, fun j hj => ⟨(D.2.2.2.2.2 j hj).1, ?_⟩, ?_, ?_, ?_, ?_, ?_, ?_, ?_⟩
  · unfold gTail mf_X8_wipe mf_X5_forget
    simp only [zl_lit, zlet_ok]
    rw [a1, zcl_ok, b1, zcl_ok, zcl_ok, zcl_ok]
  · rw [f3.1 17 (by decide) (by decide), b2]
    exact eC_eC.symm
  · rw [f3.2.1 8 (by decide), b3.2.1 8 (by decide), a3 j hj, f0.2.1 14 (by decide)]
    exact (D.2.2.2.2.2 j hj).2
  · rw [zwI_n (by decide), zwI_s, upd_n (by decide), zwI_s, upd_s]
  · rw [zwI_n (by decide), zwI_s, upd_s]
  · rw [zwI_s, upd_s]
  · rw [zwI_s, upd_n (by decide), zwI_n (by decide), zwI_n (by decide), b3.1 33 (by decide) (by decide), a4.1 33 (by decide) (by decide), f0.1 33 (by decide) (by decide)]
  · rw [f3.1 1 (by decide) (by decide), b3.1 1 (by decide) (by decide), a4.1 1 (by decide) (by decide), zwI_s, upd_s]
  · rw [f3.1 1 (by decide) (by decide), b3.1 1 (by decide) (by decide), a4.1 1 (by decide) (by decide), zwI_s, upd_n (by decide)]; exact h2
  · exact (f0.mono (by decide) (by decide)).trans ((a4.mono (by decide) (by decide)).trans ((b3.mono (by decide) (by decide)).trans (f3.mono (by decide) (by decide))))
def gKS (M : zMem) : Prop := ∀ k, k < 24 → M.2 3 k = lN (gPk 32 (gKw k) 0)
theorem c_room {M Mc1 : zMem} {r : Int32} (e : mf_X7_readLines gR 10 1 M = some (r, Mc1)) : mf_X11_room gR 0 M = if Mc1.1 1 2 = nI 0 then gTail r Mc1 else some (zm1 - Mc1.1 1 3, zwI Mc1 1 1 (nI 0)) := by
  have e2 : (zwI Mc1 1 1 (nI 0)).1 1 2 = Mc1.1 1 2 := by rw [zwI_s, upd_n (by decide)]
  have e3 : (zwI Mc1 1 1 (nI 0)).1 1 3 = Mc1.1 1 3 := by rw [zwI_s, upd_n (by decide)]
  unfold mf_X11_room gTail
  simp only [zl_lit, zlet_ok, zl_m1, r0_0, r0_1, r0_2, r0_3, r0_5, r0_8]
  rw [e, zcl_ok, e2, e3]
theorem q_room {sn : Nat → zN} {n : Nat} {M : zMem} {tl : Nat} {tb : Nat → Nat} (P : gPC sn n M) (T : gTp tl tb M) (K : gKS M) : ∃ r M1 M2, mf_X11_room gR 0 M = some (r, M1) ∧ mf_X12_room gR 89 M1 = some (r, M2) ∧ M2.1 1 1 = nI 0 ∧ M2.1 89 2 = nI 0 ∧ M2.1 1 2 = M2.1 89 10 ∧ (gF [1, 10, 11, 12, 13, 14, 15, 89, 92, 99] [0, 2, 3, 4, 5, 6, 7, 8, 9, 10, 11, 13, 25] M M2 ∨ (∃ h nu t, (∀ c, gX c h (gA0 h) t sn 0 M2) ∧ gNm h nu M2 ∧ M2.1 20 0 = nI 0 ∧ M2.1 20 1 = nI 0 ∧ (∀ j, j < 354 → t j = nI 0) ∧ gF [1, 4, 5, 6, 7, 8, 9, 10, 11, 12, 13, 14, 15, 17, 20, 33, 89, 91, 92, 98, 99] [0, 2, 3, 4, 5, 6, 7, 8, 9, 10, 11, 13, 25, 26] M M2)) := by
  obtain ⟨t1, t2, t3, t4⟩ := T
  have k1 := k_room (tb := tb) (Mc := M) (Mr := M) t1 t2 (fun j hj => ⟨(t4 j hj).1, (t4 j hj).2.1⟩) K t3 (fun j hj => (t4 j hj).2.2)
  rcases k1 with ⟨n1, h1, nu1, oc1, Mc1, Mr1, b0, b1, b2, b3, b4, b5, b6, b7, b8, b9, b10⟩ | ⟨Mc1, Mr1, b1, b2, b3, b4, b5, b6⟩
  · obtain ⟨Mf, f1, f2, f3, f4, f5, f6, f7, f8, f9, f10, f11⟩ := c_tail (r := nI n1) b5 b3 b6
    have fr : gF [1, 4, 5, 6, 7, 8, 9, 10, 11, 12, 13, 14, 15, 17, 20, 33] [] M Mf := (b9.mono (by decide) (by decide)).trans (f11.mono (by decide) (by decide))
    have k2 := k_room (tb := tb) (Mc := M) (Mr := Mf) t1 t2 (fun j hj => ⟨(t4 j hj).1, (t4 j hj).2.1⟩) K (by rw [fr.2.2 2 (by decide)]; exact t3) (fun j hj => by rw [fr.1 90 (by decide) (by decide)]; exact (t4 j hj).2.2)
    rcases k2 with ⟨n2, h2, nu2, oc2, Mc2, Mr2, d0, d1, d2, d3, d4, d5, d6, d7, d8, d9, d10⟩ | ⟨Mc2, Mr2, d1, d2, d3, d4, d5, d6⟩
    · rw [b1] at d1
      have q0 := Option.some.inj d1
      have q1 : nI n1 = nI n2 := congrArg Prod.fst q0
      have q2 : Mc1 = Mc2 := congrArg Prod.snd q0
      subst q2
      obtain ⟨Mg, g1, g2, g3, g4, g5, g6, g7, g8, g9, g10, g11⟩ := c_tail (r := nI n1) d5 d3 b6
      rw [f1] at g1
      have q3 : Mf = Mg := congrArg Prod.snd (Option.some.inj g1)
      subst q3
      have mn := m_newRoom (n := n2) d4.1
      have f26 : gF [91, 98] [26] Mr2 (zwI (zrowI (zrowL (zrowI Mr2 91 (gCq 56 (Mr2.1 92) (Mr2.1 91))) 98 (gCpL 19 (Mr2.2 99) (Mr2.2 98))) 91 (encM h2 (gA0 h2) (fun j => if j < 354 then nI 0 else Mr2.1 91 j))) 89 26 (nI 0)) := gF.w9 (gF.rI (gF.rL (gF.rI gF.r (by decide) (by decide)) (by decide)) (by decide) (by decide)) (by decide)
      have x91 : (zwI (zrowI (zrowL (zrowI Mr2 91 (gCq 56 (Mr2.1 92) (Mr2.1 91))) 98 (gCpL 19 (Mr2.2 99) (Mr2.2 98))) 91 (encM h2 (gA0 h2) (fun j => if j < 354 then nI 0 else Mr2.1 91 j))) 89 26 (nI 0)).1 91 = encM h2 (gA0 h2) (fun j => if j < 354 then nI 0 else Mr2.1 91 j) := by rw [zwI_n (by decide), zrI_s]
      have x26 : (zwI (zrowI (zrowL (zrowI Mr2 91 (gCq 56 (Mr2.1 92) (Mr2.1 91))) 98 (gCpL 19 (Mr2.2 99) (Mr2.2 98))) 91 (encM h2 (gA0 h2) (fun j => if j < 354 then nI 0 else Mr2.1 91 j))) 89 26 (nI 0)).1 89 26 = nI 0 := by rw [zwI_s, upd_s]
      have x98 : (zwI (zrowI (zrowL (zrowI Mr2 91 (gCq 56 (Mr2.1 92) (Mr2.1 91))) 98 (gCpL 19 (Mr2.2 99) (Mr2.2 98))) 91 (encM h2 (gA0 h2) (fun j => if j < 354 then nI 0 else Mr2.1 91 j))) 89 26 (nI 0)).2 98 = gCpL 19 (Mr2.2 99) (Mr2.2 98) := by rw [zwI_L, zrI_L, zrL_s]
      generalize (zwI (zrowI (zrowL (zrowI Mr2 91 (gCq 56 (Mr2.1 92) (Mr2.1 91))) 98 (gCpL 19 (Mr2.2 99) (Mr2.2 98))) 91 (encM h2 (gA0 h2) (fun j => if j < 354 then nI 0 else Mr2.1 91 j))) 89 26 (nI 0)) = Mz at *
      have gz : gF [89, 91, 92, 98, 99] [0, 2, 3, 4, 5, 6, 7, 8, 9, 10, 11, 13, 25, 26] Mf Mz := (d10.mono (by decide) (by decide)).trans (f26.mono (by decide) (by decide))
      have ef : mf_X11_room gR 0 M = some (nI n1, Mf) := by rw [c_room b1, if_pos b6]; exact f1
      have em : mf_X12_room gR 89 Mf = some (nI n1, Mz) := by rw [d2, mn, q1]
      obtain ⟨nx, p1, p2, p3, p4⟩ := P
      refine ⟨nI n1, Mf, Mz, ef, em, ?_, ?_, ?_, Or.inr ⟨h2, nu2, _, fun c => ⟨⟨?_, ?_, x91, d5, gA_0 d5⟩, ⟨nx, p1, ?_, ?_, fun i hi => absurd hi (by omega)⟩, ⟨x26, fun i hi => absurd hi (by omega)⟩, by omega, gO_0, fun i hi => absurd hi (by omega)⟩, fun j hj => ?_, ?_, ?_, fun j hj => if_pos hj, ?_⟩⟩
      · rw [gz.1 1 (by decide) (by decide)]; exact f9
      · rw [f26.2.2 2 (by decide)]; exact d8
      · rw [gz.1 1 (by decide) (by decide), f10, f26.2.2 10 (by decide)]; exact d7.symm
      · exact gRC.fr gz (by decide) g2
      · rw [gz.1 17 (by decide) (by decide)]; exact g3
      · rw [gz.1 33 (by decide) (by decide), f8, b9.1 33 (by decide) (by decide)]; exact p2
      · rw [gz.1 33 (by decide) (by decide)]; exact f7
      · have hj19 : j < 19 := by
          have := d5
          obtain ⟨z0, z1, z2, _⟩ := this
          unfold gTold at hj
          omega
        refine ⟨(g4 j hj).1, ?_, ?_⟩
        · rw [gz.2.1 8 (by decide)]; exact (g4 j hj).2
        · rw [x98, show gCpL 19 (Mr2.2 99) (Mr2.2 98) j = Mr2.2 99 j from if_pos hj19]
          exact d4.2.2 j hj
      · rw [gz.1 20 (by decide) (by decide)]; exact f5
      · rw [gz.1 20 (by decide) (by decide)]; exact f6
      · exact (fr.mono (by decide) (by decide)).trans (gz.mono (by decide) (by decide))
    · rw [b1] at d1
      have q1 : nI n1 = zm1 := congrArg Prod.fst (Option.some.inj d1)
      exact absurd q1 (by rw [zm1_ne (by omega)]; exact fun q => q)
  · obtain ⟨⟨jf, j1, j4, j2, j3⟩, j5⟩ := b3
    have nz : ¬ Mc1.1 1 2 = nI 0 := by rw [j2, nI_eq (by omega) (by omega)]; omega
    have fr : gF [1, 10, 11, 12, 13, 14, 15] [] M (zwI Mc1 1 1 (nI 0)) := b5.trans (gF.wI gF.r (by decide) (by decide))
    have k2 := k_room (tb := tb) (Mc := M) (Mr := zwI Mc1 1 1 (nI 0)) t1 t2 (fun j hj => ⟨(t4 j hj).1, (t4 j hj).2.1⟩) K (by rw [fr.2.2 2 (by decide)]; exact t3) (fun j hj => by rw [fr.1 90 (by decide) (by decide)]; exact (t4 j hj).2.2)
    rcases k2 with ⟨n2, h2, nu2, oc2, Mc2, Mr2, d0, d1, _⟩ | ⟨Mc2, Mr2, d1, d2, d3, d4, d5, d6⟩
    · rw [b1] at d1
      have q1 : zm1 = nI n2 := congrArg Prod.fst (Option.some.inj d1)
      exact absurd q1 (by rw [zm1_ne' (by omega)]; exact fun q => q)
    · rw [b1] at d1
      have q2 : Mc1 = Mc2 := congrArg Prod.snd (Option.some.inj d1)
      subst q2
      obtain ⟨⟨jg, i1, i4, i2, i3⟩, i5⟩ := d3
      refine ⟨zm1 - Mr2.1 89 11, zwI Mc1 1 1 (nI 0), Mr2, ?_, d2, ?_, d4, ?_, Or.inl ?_⟩
      · rw [c_room b1, if_neg nz, i5]
      · rw [d6.1 1 (by decide) (by decide), zwI_s, upd_s]
      · rw [d6.1 1 (by decide) (by decide), zwI_s, upd_n (by decide), i2, i3]
      · exact (fr.mono (by decide) (by decide)).trans (d6.mono (by decide) (by decide))
