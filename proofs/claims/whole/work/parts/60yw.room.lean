/-! ROOM: the call -/
def gH0 : zN := fun j => if j = 5 then 5 else 0
theorem gH0_n {j : Nat} (h : j ≠ 5) : gH0 j = 0 := if_neg h
theorem gH0_H : gH gH0 := by
  refine ⟨by decide, by decide, by decide, by decide, by decide, by decide, fun b hb => ?_, fun b hb => ?_, fun p b hp => ?_, fun s hs => ?_⟩
  · exact absurd hb (by rw [gH0_n (by decide)]; omega)
  · exact absurd hb (by rw [gH0_n (by decide)]; omega)
  · exact absurd hp (by rw [gH0_n (by decide)]; omega)
  · exact absurd hs (by rw [gH0_n (by decide)]; omega)
theorem gH0_t {j : Nat} : ¬ gTold gH0 j := by
  unfold gTold
  rw [gH0_n (by decide), gH0_n (by decide), gH0_n (by decide)]
  omega
theorem c_wipe {nu : Nat → List Nat} {M : zMem} : ∃ M1, mf_X7_wipe gR 10 M = some ((), M1) ∧ gDC gH0 nu (nI 0) M1 ∧ gF [10] [] M M1 := by
  unfold mf_X7_wipe
  simp only [zl_lit, zlet_ok]
  refine ⟨_, rfl, ⟨fun j hj => ?_, ?_, fun b hb => ?_, fun s hs => ?_, fun p b hp => ?_, fun j hj => absurd hj gH0_t⟩, gF.wI (gF.wI (gF.wI (gF.wI (gF.wI (gF.wI (gF.wI gF.r (by decide) (by decide)) (by decide) (by decide)) (by decide) (by decide)) (by decide) (by decide)) (by decide) (by decide)) (by decide) (by decide)) (by decide) (by decide)⟩
  · have : j = 0 ∨ j = 1 ∨ j = 2 ∨ j = 3 ∨ j = 4 ∨ j = 5 := by omega
    rcases this with rfl | rfl | rfl | rfl | rfl | rfl <;> simp (disch := decide) only [zwI_s, upd_s, upd_n] <;> rfl
  · rw [zwI_s, upd_s]
  · exact absurd hb (by rw [gH0_n (by decide)]; omega)
  · exact absurd hs (by rw [gH0_n (by decide)]; omega)
  · exact absurd hp (by rw [gH0_n (by decide)]; omega)
theorem m_l9 {M : zMem} : mf_X12_room_l9 gR 89 zF (nI 0) M = mf_X12_room_l42 gR 89 zF (nI 0) (zwI (zrowI M 92 (upd (gCq 56 (fun _ => nI 0) (M.1 92)) 5 (nI 5))) 89 25 (nI 0)) := by
  have : mf_X12_room_l9 gR 89 zF (nI 0) (zrowI M 92 (gCq 0 (fun _ => nI 0) (M.1 92))) = mf_X12_room_l42 gR 89 zF (nI 0) (zwI (zrowI M 92 (upd (gCq 56 (fun _ => nI 0) (M.1 92)) 5 (nI 5))) 89 25 (nI 0)) := by
    refine gfor (G := fun f i => mf_X12_room_l9 gR 89 f (nI i) (zrowI M 92 (gCq i (fun _ => nI 0) (M.1 92)))) (n := 56) (fun f i hi => ?_) (fun f => ?_) _ (by first | (show _ < 5000; omega) | omega)
    · rw [mf_X12_room_l9]
      simp only [zl_lit, zlet_ok]
      have e := gCq_s (i := i) (g := fun _ => nI 0) (r := M.1 92)
      rw [if_neg (by rw [nI_leI (by omega) (by omega)]; omega), zald_nI (by omega) (by omega), r89_15, gwI, grI_rI, zrI_s, e, nI_add]
    · rw [mf_X12_room_l9]
      simp only [zl_lit, zlet_ok]
      rw [if_pos (by rw [nI_leI (by omega) (by omega)]; omega), zald_nI (by omega) (by omega), r89_15, gwI (o := 92), grI_rI, zrI_s]
  rw [gCq_0, grI_id rfl] at this
  exact this
/-- both read a ROOM -/
def gRm (Mc0 Mr0 : zMem) (rc rm : Option (Int32 × zMem)) : Prop := (∃ (n : Nat) (h : zN) (nu : Nat → List Nat) (oc : Int32) (Mc1 Mr1 : zMem), n ≤ 900 ∧ rc = some (nI n, Mc1) ∧ rm = mf_X12_room_l78 gR 89 zF (nI n) (nI 0) Mr1 ∧ gDC h nu oc Mc1 ∧ gDM h nu oc Mr1 ∧ gH h ∧ Mc1.1 1 2 = nI 0 ∧ Mr1.1 89 10 = nI 0 ∧ Mr1.1 89 2 = nI 0 ∧ gF [1, 10, 11, 12, 13, 14, 15] [] Mc0 Mc1 ∧ gF [89, 92, 99] [0, 2, 3, 4, 5, 6, 7, 8, 9, 10, 11, 13, 25] Mr0 Mr1) ∨ (∃ Mc1 Mr1, rc = some (zm1, Mc1) ∧ rm = some (zm1 - Mr1.1 89 11, Mr1) ∧ gBad Mc1 Mr1 ∧ Mr1.1 89 2 = nI 0 ∧ gF [1, 10, 11, 12, 13, 14, 15] [] Mc0 Mc1 ∧ gF [89, 92, 99] [0, 2, 3, 4, 5, 6, 7, 8, 9, 10, 11, 13, 25] Mr0 Mr1)
theorem k_room {tl : Nat} {tb : Nat → Nat} {Mc Mr : zMem} (hl : tl ≤ 940) (c1 : Mc.1 1 1 = nI tl) (cb : ∀ j, j < tl → tb j < 256 ∧ Mc.1 2 j = nI (tb j)) (ck : ∀ k, k < 24 → Mc.2 3 k = lN (gPk 32 (gKw k) 0)) (m2 : Mr.1 89 2 = nI tl) (mb : ∀ j, j < tl → Mr.1 90 j = nI (tb j)) : gRm Mc Mr (mf_X7_readLines gR 10 1 Mc) (mf_X12_room gR 89 Mr) := by
  obtain ⟨Mw, w1, w2, w3⟩ := c_wipe (nu := fun _ => []) (M := Mc)
  obtain ⟨k, Mc1, Mr1, a1, a2, a3, a4, a5, a6⟩ := k_begin (lim := 900) (tb := tb) hl (by omega) (by rw [w3.1 1 (by decide) (by decide)]; exact c1) (fun j hj => by rw [w3.1 2 (by decide) (by decide)]; exact cb j hj) (fun j hj => by rw [w3.2.1 3 (by decide)]; exact ck j hj) m2 mb
  have fm : gF [92] [25] Mr1 (zwI (zrowI Mr1 92 (upd (gCq 56 (fun _ => nI 0) (Mr1.1 92)) 5 (nI 5))) 89 25 (nI 0)) := gF.w9 (gF.rI gF.r (by decide) (by decide)) (by decide)
  have E1 : gDM gH0 (fun _ => []) (nI 0) (zwI (zrowI Mr1 92 (upd (gCq 56 (fun _ => nI 0) (Mr1.1 92)) 5 (nI 5))) 89 25 (nI 0)) := by
    refine ⟨fun j hj => ?_, by rw [zwI_s, upd_s], fun j hj => absurd hj gH0_t⟩
    rw [zwI_n (by decide), zrI_s]
    unfold upd gCq gH0
    by_cases z : j = 5
    · rw [if_pos z, if_pos z]
    · rw [if_neg z, if_neg z, if_pos hj]
  have D1 : gDC gH0 (fun _ => []) (nI 0) Mc1 := w2.fr a4 (by decide)
  have gc : gF [1, 10, 11, 12, 13, 14, 15] [] Mc Mc1 := (w3.mono (by decide) (by decide)).trans (a4.mono (by decide) (by decide))
  have gm : gF [89, 92, 99] [0, 2, 3, 4, 5, 6, 7, 8, 9, 10, 11, 13, 25] Mr (zwI (zrowI Mr1 92 (upd (gCq 56 (fun _ => nI 0) (Mr1.1 92)) 5 (nI 5))) 89 25 (nI 0)) := (a5.mono (by decide) (by decide)).trans (fm.mono (by decide) (by decide))
  have x2 : (zwI (zrowI Mr1 92 (upd (gCq 56 (fun _ => nI 0) (Mr1.1 92)) 5 (nI 5))) 89 25 (nI 0)).1 89 2 = nI 0 := by rw [fm.2.2 2 (by decide)]; exact a6
  have kl := k_lines (Mc0 := Mc1) (Mr0 := zwI (zrowI Mr1 92 (upd (gCq 56 (fun _ => nI 0) (Mr1.1 92)) 5 (nI 5))) 89 25 (nI 0)) 900 0 5000 5000 gH0 (fun _ => []) (nI 0) k Mc1 _ (by omega) (by omega) (by omega) (fun _ => Nat.zero_le _) (a3.fr (gF.r (ids := []) (ks := [])) (by decide) fm (by decide) (by decide)) D1 E1 gH0_H gF.r gF.r
  have ec : mf_X7_readLines gR 10 1 Mc = mf_X7_readLines_l13 gR 10 1 5000 (nI 0) Mc1 := by
    unfold mf_X7_readLines
    simp only [zl_lit]
    rw [w1, zcl_ok, a1, zcl_ok]
    exact rfl
  have em : mf_X12_room gR 89 Mr = mf_X12_room_l42 gR 89 5000 (nI 0) (zwI (zrowI Mr1 92 (upd (gCq 56 (fun _ => nI 0) (Mr1.1 92)) 5 (nI 5))) 89 25 (nI 0)) := by
    unfold mf_X12_room
    simp only [zl_lit]
    rw [a2, zcl_ok, m_l9]
    exact rfl
  rw [ec, em]
  rcases kl with ⟨n, h, nu, oc, Mc2, Mr2, b0, b1, b2, b3, b4, b5, b6, b7, b8, b9⟩ | ⟨Mc2, Mr2, b1, b2, b3, b4, b5⟩
  · exact Or.inl ⟨n, h, nu, oc, Mc2, Mr2, b0, b1, b2, b3, b4, b5, b6, b7, by rw [b9.2.2 2 (by decide)]; exact x2, gc.trans b8, gm.trans (b9.mono (by decide) (by decide))⟩
  · exact Or.inr ⟨Mc2, Mr2, b1, b2, b3, by rw [b5.2.2 2 (by decide)]; exact x2, gc.trans b4, gm.trans (b5.mono (by decide) (by decide))⟩
