/-! FEED, END, FAULT, COUNT, TOLD -/
def gBy (x s : Int32) : Nat := ((x.toUInt32 >>> (s.toUInt32 &&& Int32.toUInt32 (nI 31))).toInt32 &&& nI 255).toBitVec.toNat
theorem gX_nI (x : Int32) : x = nI x.toBitVec.toNat := by
  apply Int32.toBitVec_inj.mp
  apply BitVec.eq_of_toNat_eq
  show x.toBitVec.toNat = (BitVec.ofNat 32 x.toBitVec.toNat).toNat
  rw [BitVec.toNat_ofNat, Nat.mod_eq_of_lt x.toBitVec.isLt]
theorem gBy_lt {x s : Int32} : gBy x s < 256 := by
  unfold gBy
  rw [Int32.toBitVec_and, BitVec.toNat_and]
  exact Nat.lt_of_le_of_lt Nat.and_le_right (by decide +kernel)
theorem gBy_e {x s : Int32} : ((x.toUInt32 >>> (s.toUInt32 &&& Int32.toUInt32 (nI 31))).toInt32 &&& nI 255) = nI (gBy x s) := gX_nI _
theorem gm8_24 : nI 24 + -(nI 8) = nI 16 := by decide +kernel
theorem gm8_16 : nI 16 + -(nI 8) = nI 8 := by decide +kernel
theorem gm8_8 : nI 8 + -(nI 8) = nI 0 := by decide +kernel
theorem gm8_0 : nI 0 + -(nI 8) < nI 0 := by decide +kernel
def gTcl (n : Nat) (tb : Nat → Nat) (M : zMem) : Prop := M.1 1 1 = nI n ∧ ∀ j, j < n → tb j < 256 ∧ M.1 2 j = nI (tb j)
def gTml (n : Nat) (tb : Nat → Nat) (M : zMem) : Prop := M.1 89 2 = nI n ∧ ∀ j, j < n → tb j < 256 ∧ M.1 90 j = nI (tb j)
def gFr1 (M M1 : zMem) : Prop := gF [1, 2] [] M M1 ∧ ∀ k, k ≠ 1 → M1.1 1 k = M.1 1 k
theorem gFr1.r {M : zMem} : gFr1 M M := ⟨gF.r, fun _ _ => rfl⟩
theorem gFr1.trans {M M1 M2 : zMem} (h1 : gFr1 M M1) (h2 : gFr1 M1 M2) : gFr1 M M2 := ⟨h1.1.trans h2.1, fun k hk => (h2.2 k hk).trans (h1.2 k hk)⟩
theorem c_putB {n : Nat} {tb : Nat → Nat} {x s : Int32} {f : Nat} {M : zMem} (hn : n < 940) (hs : ¬ s < nI 0) (T : gTcl n tb M) : ∃ M1, mf_X10_addNumber_l3 gR 1 (f + 1) x s M = mf_X10_addNumber_l3 gR 1 f x (s + -(nI 8)) M1 ∧ gTcl (n + 1) (uN tb n (gBy x s)) M1 ∧ gFr1 M M1 := by
  obtain ⟨t1, t2⟩ := T
  have e1 : (zwI M 2 n (nI (gBy x s))).1 1 1 = nI n := by rw [zwI_n (by decide)]; exact t1
  refine ⟨zwI (zwI M 2 n (nI (gBy x s))) 1 1 (nI (n + 1)), ?_, ⟨?_, fun j hj => ?_⟩, gF.wI (gF.wI gF.r (by decide) (by decide)) (by decide) (by decide), fun k hk => ?_⟩
  · rw [mf_X10_addNumber_l3]
    simp only [zl_lit, zlet_ok]
    rw [if_neg hs, t1, if_neg (by rw [nI_leI (by omega) (by omega)]; omega), zald_nI (by omega) (by omega), r1_0, gBy_e, e1, nI_add]
  · rw [zwI_s, upd_s]
  · rw [zwI_n (by decide), zwI_s]
    unfold uN upd
    by_cases e : j = n
    · rw [if_pos e, if_pos e]; exact ⟨gBy_lt, rfl⟩
    · rw [if_neg e, if_neg e]; exact t2 j (by omega)
  · rw [zwI_s, upd_n hk, zwI_n (by decide)]
theorem m_putB {n : Nat} {tb : Nat → Nat} {x s : Int32} {f : Nat} {M : zMem} (hn : n < 940) (hs : ¬ s < nI 0) (T : gTml n tb M) : ∃ M1, mf_X12_come_l3 gR 89 (f + 1) x s M = mf_X12_come_l3 gR 89 f x (s + -(nI 8)) M1 ∧ gTml (n + 1) (uN tb n (gBy x s)) M1 ∧ gF [90] [2] M M1 := by
  obtain ⟨t1, t2⟩ := T
  have e1 : (zwI M 90 n (nI (gBy x s))).1 89 2 = nI n := by rw [zwI_n (by decide)]; exact t1
  refine ⟨zwI (zwI M 90 n (nI (gBy x s))) 89 2 (nI (n + 1)), ?_, ⟨?_, fun j hj => ?_⟩, gF.w9 (gF.wI gF.r (by decide) (by decide)) (by decide)⟩
  · rw [mf_X12_come_l3]
    simp only [zl_lit, zlet_ok]
    rw [if_neg hs, t1, zald_nI (by omega) (by omega), r89_1, gBy_e, e1, nI_add]
  · rw [zwI_s, upd_s]
  · rw [zwI_n (by decide), zwI_s]
    unfold uN upd
    by_cases e : j = n
    · rw [if_pos e, if_pos e]; exact ⟨gBy_lt, rfl⟩
    · rw [if_neg e, if_neg e]; exact t2 j (by omega)
def gTA4 (tb : Nat → Nat) (n : Nat) (x : Int32) : Nat → Nat := uN (uN (uN (uN tb n (gBy x (nI 24))) (n + 1) (gBy x (nI 16))) (n + 2) (gBy x (nI 8))) (n + 3) (gBy x (nI 0))
theorem c_puts4 {n : Nat} {tb : Nat → Nat} {M : zMem} (x : Int32) (hn : n + 4 ≤ 940) (T : gTcl n tb M) : ∃ M1, mf_X10_addNumber gR 1 x M = some ((), M1) ∧ gTcl (n + 4) (gTA4 tb n x) M1 ∧ gFr1 M M1 := by
  obtain ⟨M1, a1, T1, f1⟩ := c_putB (x := x) (f := 4999) (s := nI 24) (by omega) (by decide +kernel) T
  obtain ⟨M2, a2, T2, f2⟩ := c_putB (x := x) (f := 4998) (s := nI 16) (by omega) (by decide +kernel) T1
  obtain ⟨M3, a3, T3, f3⟩ := c_putB (x := x) (f := 4997) (s := nI 8) (by omega) (by decide +kernel) T2
  obtain ⟨M4, a4, T4, f4⟩ := c_putB (x := x) (f := 4996) (s := nI 0) (by omega) (by decide +kernel) T3
  rw [gm8_24] at a1
  rw [gm8_16] at a2
  rw [gm8_8] at a3
  refine ⟨M4, ?_, T4, ((f1.trans f2).trans f3).trans f4⟩
  unfold mf_X10_addNumber
  simp only [zl_lit]
  refine Eq.trans a1 (a2.trans (a3.trans (a4.trans ?_)))
  rw [mf_X10_addNumber_l3]
  simp only [zl_lit]
  rw [if_pos gm8_0]
theorem m_puts4 {n : Nat} {tb : Nat → Nat} {M : zMem} (x : Int32) (hn : n + 4 ≤ 940) (T : gTml n tb M) : ∃ M1, mf_X12_come gR 89 x M = some ((), M1) ∧ gTml (n + 4) (gTA4 tb n x) M1 ∧ gF [90] [2] M M1 := by
  obtain ⟨M1, a1, T1, f1⟩ := m_putB (x := x) (f := 4999) (s := nI 24) (by omega) (by decide +kernel) T
  obtain ⟨M2, a2, T2, f2⟩ := m_putB (x := x) (f := 4998) (s := nI 16) (by omega) (by decide +kernel) T1
  obtain ⟨M3, a3, T3, f3⟩ := m_putB (x := x) (f := 4997) (s := nI 8) (by omega) (by decide +kernel) T2
  obtain ⟨M4, a4, T4, f4⟩ := m_putB (x := x) (f := 4996) (s := nI 0) (by omega) (by decide +kernel) T3
  rw [gm8_24] at a1
  rw [gm8_16] at a2
  rw [gm8_8] at a3
  refine ⟨M4, ?_, T4, ((f1.trans f2).trans f3).trans f4⟩
  unfold mf_X12_come
  simp only [zl_lit]
  refine Eq.trans a1 (a2.trans (a3.trans (a4.trans ?_)))
  rw [mf_X12_come_l3]
  simp only [zl_lit]
  rw [if_pos gm8_0]
theorem q_feed {tl : Nat} {tb : Nat → Nat} {M : zMem} (x1 x2 x3 x4 x5 : Int32) (T : gTp tl tb M) : ∃ r M1 M2 tl2 tb2, mf_X11_feed gR 0 x1 x2 x3 x4 x5 M = some (r, M1) ∧ mf_X12_feed gR 89 x1 x2 x3 x4 x5 M1 = some (r, M2) ∧ gF [1, 2, 90] [0, 2] M M2 ∧ gTp tl2 tb2 M2 ∧ ∀ k, k ≠ 1 → M2.1 1 k = M.1 1 k := by
  obtain ⟨t1, t2, t3, t4⟩ := T
  have Tc : gTcl tl tb M := ⟨t2, fun j hj => ⟨(t4 j hj).1, (t4 j hj).2.1⟩⟩
  by_cases e : tl + 20 ≤ 940
  · obtain ⟨M1, a1, T1, f1⟩ := c_puts4 x1 (by omega) Tc
    obtain ⟨M2, a2, T2, f2⟩ := c_puts4 x2 (by omega) T1
    obtain ⟨M3, a3, T3, f3⟩ := c_puts4 x3 (by omega) T2
    obtain ⟨M4, a4, T4, f4⟩ := c_puts4 x4 (by omega) T3
    obtain ⟨M5, a5, T5, f5⟩ := c_puts4 x5 (by omega) T4
    have fc := (((f1.trans f2).trans f3).trans f4).trans f5
    have T0 : gTml tl tb (zwI M5 89 0 (nI 0)) := ⟨by rw [zwI_s, upd_n (by decide), fc.1.2.2 2 (by decide)]; exact t3, fun j hj => ⟨(t4 j hj).1, by rw [zwI_n (by decide), fc.1.1 90 (by decide) (by decide)]; exact (t4 j hj).2.2⟩⟩
    obtain ⟨N1, b1, S1, g1⟩ := m_puts4 x1 (by omega) T0
    obtain ⟨N2, b2, S2, g2⟩ := m_puts4 x2 (by omega) S1
    obtain ⟨N3, b3, S3, g3⟩ := m_puts4 x3 (by omega) S2
    obtain ⟨N4, b4, S4, g4⟩ := m_puts4 x4 (by omega) S3
    obtain ⟨N5, b5, S5, g5⟩ := m_puts4 x5 (by omega) S4
    have fm := (((g1.trans g2).trans g3).trans g4).trans g5
    have f9 : gF [1, 2, 90] [0, 2] M N5 := (gF.w9 (fc.1.mono (by decide) (by decide)) (by decide)).trans (fm.mono (by decide) (by decide))
    have e1 : N5.1 1 = M5.1 1 := by rw [fm.1 1 (by decide) (by decide), zwI_n (by decide)]
    have e2 : N5.1 2 = M5.1 2 := by rw [fm.1 2 (by decide) (by decide), zwI_n (by decide)]
    refine ⟨nI (tl + 20), M5, N5, tl + 20, _, ?_, ?_, f9, ⟨e, ?_, S5.1, fun j hj => ⟨(T5.2 j hj).1, ?_, (S5.2 j hj).2⟩⟩, fun k hk => ?_⟩
    · unfold mf_X11_feed
      simp only [zl_lit]
      rw [r0_0, t2, nI_add, if_pos ((nI_leI (by omega) (by omega)).mpr e), a1, zcl_ok, a2, zcl_ok, a3, zcl_ok, a4, zcl_ok, a5, zcl_ok, T5.1]
    · unfold mf_X12_feed
      simp only [zl_lit, zlet_ok]
      rw [T0.1, nI_add, if_pos ((nI_leI (by omega) (by omega)).mpr e), b1, zcl_ok, b2, zcl_ok, b3, zcl_ok, b4, zcl_ok, b5, zcl_ok, S5.1]
    · rw [e1]; exact T5.1
    · rw [e2]; exact (T5.2 j hj).2
    · rw [e1]; exact fc.2 k hk
  · have e9 : (zwI M 89 0 (nI 0)).1 89 2 = nI tl := by rw [zwI_s, upd_n (by decide)]; exact t3
    refine ⟨zm1, M, zwI M 89 0 (nI 0), tl, tb, ?_, ?_, gF.w9 gF.r (by decide), ⟨t1, by rw [zwI_n (by decide)]; exact t2, e9, fun j hj => ⟨(t4 j hj).1, by rw [zwI_n (by decide)]; exact (t4 j hj).2.1, by rw [zwI_n (by decide)]; exact (t4 j hj).2.2⟩⟩, fun k _ => by rw [zwI_n (by decide)]⟩
    · unfold mf_X11_feed
      simp only [zl_lit, zl_m1]
      rw [r0_0, t2, nI_add, if_neg (by rw [nI_leI (by omega) (by omega)]; exact e)]
    · unfold mf_X12_feed
      simp only [zl_lit, zlet_ok, zl_m1]
      rw [e9, nI_add, if_neg (by rw [nI_leI (by omega) (by omega)]; exact e)]
theorem q_end {tl : Nat} {tb : Nat → Nat} {M : zMem} (x : Int32) (T : gTp tl tb M) : ∃ r M1 M2 tl2, mf_X11_end gR 0 x M = some (r, M1) ∧ mf_X12_end gR 89 x M1 = some (r, M2) ∧ gF [1] [0, 2] M M2 ∧ gTp tl2 tb M2 ∧ ∀ k, k ≠ 1 → M2.1 1 k = M.1 1 k := by
  obtain ⟨t1, t2, t3, t4⟩ := T
  have e9 : (zwI M 89 0 (nI 0)).1 89 2 = nI tl := by rw [zwI_s, upd_n (by decide)]; exact t3
  rcases gcase (n := tl + 1) (by omega) x with ⟨n, hn, rfl⟩ | ho
  · have e8 : (zwI (zwI M 1 1 (nI n)) 89 0 (nI 0)).1 89 2 = nI tl := by rw [zwI_s, upd_n (by decide), zwI_n (by decide)]; exact t3
    refine ⟨nI 1, zwI M 1 1 (nI n), zwI (zwI (zwI M 1 1 (nI n)) 89 0 (nI 0)) 89 2 (nI n), n, ?_, ?_, gF.w9 (gF.w9 (gF.wI gF.r (by decide) (by decide)) (by decide)) (by decide), ⟨by omega, ?_, by rw [zwI_s, upd_s], fun j hj => ⟨(t4 j (by omega)).1, ?_, ?_⟩⟩, fun k hk => ?_⟩
    · unfold mf_X11_end
      simp only [zl_lit, zlet_ok]
      rw [r0_0, t2, if_neg (by rw [nI_ltI (by omega) (by omega)]; omega), if_pos ((nI_leI (by omega) (by omega)).mpr (by omega))]
    · unfold mf_X12_end
      simp only [zl_lit, zlet_ok]
      rw [e8, if_neg (by rw [nI_ltI (by omega) (by omega)]; omega), if_pos ((nI_leI (by omega) (by omega)).mpr (by omega))]
    · rw [zwI_n (by decide), zwI_n (by decide), zwI_s, upd_s]
    · rw [zwI_n (by decide), zwI_n (by decide), zwI_n (by decide)]; exact (t4 j (by omega)).2.1
    · rw [zwI_n (by decide), zwI_n (by decide), zwI_n (by decide)]; exact (t4 j (by omega)).2.2
    · rw [zwI_n (by decide), zwI_n (by decide), zwI_s, upd_n hk]
  · refine ⟨nI 0, M, zwI M 89 0 (nI 0), tl, ?_, ?_, gF.w9 gF.r (by decide), ⟨t1, by rw [zwI_n (by decide)]; exact t2, e9, fun j hj => ⟨(t4 j hj).1, by rw [zwI_n (by decide)]; exact (t4 j hj).2.1, by rw [zwI_n (by decide)]; exact (t4 j hj).2.2⟩⟩, fun k _ => by rw [zwI_n (by decide)]⟩
    · unfold mf_X11_end
      simp only [zl_lit]
      rw [r0_0, t2]
      by_cases w : x < nI 0
      · rw [if_pos w]
      · rw [if_neg w, if_neg (fun q => ?_)]
        obtain ⟨j, hj, rfl⟩ := nI_of w
        rw [nI_leI (by omega) (by omega)] at q
        exact gOut.not (by omega) ho (by omega)
    · unfold mf_X12_end
      simp only [zl_lit, zlet_ok]
      rw [e9]
      by_cases w : x < nI 0
      · rw [if_pos w]
      · rw [if_neg w, if_neg (fun q => ?_)]
        obtain ⟨j, hj, rfl⟩ := nI_of w
        rw [nI_leI (by omega) (by omega)] at q
        exact gOut.not (by omega) ho (by omega)
theorem q_fault {M : zMem} (e : M.1 1 2 = M.1 89 10) : ∃ r, mf_X11_fault gR 0 M = some (r, M) ∧ mf_X12_fault gR 89 M = some (r, zwI M 89 0 (nI 0)) := by
  refine ⟨M.1 1 2, ?_, ?_⟩
  · unfold mf_X11_fault
    rw [r0_0]
  · unfold mf_X12_fault
    rw [zlet_ok, zl_lit, zwI_s, upd_n (by decide), e]
theorem q_count {h a : zN} {t : Nat → Int32} {tl : Nat} {tb : Nat → Nat} {M : zMem} (W : gW h a t M) (T : gTp tl tb M) (x : Int32) : ∃ r, mf_X11_count gR 0 x M = some (r, M) ∧ mf_X12_count gR 89 x M = some (r, zwI M 89 0 (nI 0)) := by
  obtain ⟨hr, hc0, hm, hH, hA⟩ := W
  obtain ⟨z, hc⟩ : ∃ z, M.1 17 = eC a z := ⟨_, hc0⟩
  have hc' : M.1 17 = encC a (gIn a) z := hc
  obtain ⟨q0, q1, q2, q3, q4, q5, qh, ql, qp, qa⟩ := id hr
  obtain ⟨k0, k1, k2, k3, k4, k5, kh, kl, ka, kp⟩ := id hH
  have hm0 : (zwI M 89 0 (nI 0)).1 91 = encM h a t := by rw [zwI_n (by decide)]; exact hm
  obtain ⟨t1, t2, t3, t4⟩ := T
  have e9 : (zwI M 89 0 (nI 0)).1 89 2 = nI tl := by rw [zwI_s, upd_n (by decide)]; exact t3
  have h0 : ∀ j, j < 56 → (zwI M 89 0 (nI 0)).1 91 j = nI (h j) := fun j hj => by rw [hm0]; exact eM_h hj
  unfold mf_X11_count mf_X12_count
  simp only [zl_lit, zlet_ok, zl_m1]
  rw [r0_0, r0_1, e9, t2, q0, q1, q2, q3, q4, q5, r89_14, zald_nI (by omega) (by omega), zald_nI (by omega) (by omega), zald_nI (by omega) (by omega), zald_nI (by omega) (by omega), zald_nI (by omega) (by omega), zald_nI (by omega) (by omega), h0 0 (by omega), h0 1 (by omega), h0 2 (by omega), h0 3 (by omega), h0 4 (by omega), h0 5 (by omega)]
  by_cases e0 : x = nI 0
  · rw [if_pos e0, if_pos e0]; exact ⟨_, rfl, rfl⟩
  rw [if_neg e0, if_neg e0]
  by_cases e1 : x = nI 1
  · rw [if_pos e1, if_pos e1]; exact ⟨_, rfl, rfl⟩
  rw [if_neg e1, if_neg e1]
  by_cases e2 : x = nI 2
  · rw [if_pos e2, if_pos e2]; exact ⟨_, rfl, rfl⟩
  rw [if_neg e2, if_neg e2]
  by_cases e3 : x = nI 3
  · rw [if_pos e3, if_pos e3]; exact ⟨_, rfl, rfl⟩
  rw [if_neg e3, if_neg e3]
  by_cases e4 : x = nI 4
  · rw [if_pos e4, if_pos e4]; exact ⟨_, rfl, rfl⟩
  rw [if_neg e4, if_neg e4]
  by_cases e5 : x = nI 5
  · rw [if_pos e5, if_pos e5]; exact ⟨_, rfl, rfl⟩
  rw [if_neg e5, if_neg e5]
  by_cases e6 : x = nI 6
  · rw [if_pos e6, if_pos e6]; exact ⟨_, rfl, rfl⟩
  rw [if_neg e6, if_neg e6]
  exact ⟨_, rfl, rfl⟩
/-- what BOOK tells: judged alike, the four numbers alike -/
def gDI (M : zMem) : Prop := (M.1 30 3 = nI 0 ∧ M.1 89 46 = nI 0) ∨ (M.1 30 3 = nI 1 ∧ M.1 89 46 = nI 1 ∧ M.1 30 4 = M.1 112 0 ∧ M.1 30 5 = M.1 112 1 ∧ M.1 30 6 = M.1 112 2 ∧ M.1 30 7 = M.1 112 3)
theorem gDI.fr {M M1 : zMem} {ids ks : List Nat} (hf : gF ids ks M M1) (hi : ∀ o ∈ [30, 112], o ∉ ids) (hk : 46 ∉ ks) (D : gDI M) : gDI M1 := by
  unfold gDI at D ⊢
  rw [hf.1 30 (hi 30 (by decide)) (by decide), hf.1 112 (hi 112 (by decide)) (by decide), hf.2.2 46 hk]
  exact D
theorem q_told {M : zMem} (D : gDI M) (x : Int32) : ∃ r, mf_X11_told gR 0 x M = some (r, M) ∧ mf_X12_told gR 89 x M = some (r, zwI M 89 0 (nI 0)) := by
  have n9 : (zwI M 89 0 (nI 0)).1 89 46 = M.1 89 46 := by rw [zwI_s, upd_n (by decide)]
  have n2 : (zwI M 89 0 (nI 0)).1 112 = M.1 112 := by rw [zwI_n (by decide)]
  unfold mf_X11_told mf_X12_told mf_X0_tell
  simp only [zl_lit, zlet_ok, zl_m1]
  rw [r0_7, n9]
  rcases D with ⟨d1, d2⟩ | ⟨d1, d2, d3, d4, d5, d6⟩
  · rw [d1, d2, if_pos rfl, if_pos rfl, zcl_ok]
    exact ⟨_, rfl, rfl⟩
  · have z1 : ¬ nI 1 = nI 0 := by decide +kernel
    have n3 : ∀ M1 : zMem, mf_X12_isIn gR x (nI 0) (nI 3) M1 = mf_X12_isIn gR x (nI 0) (nI 4 - nI 1) M1 := fun M1 => by rw [show nI 4 - nI 1 = nI 3 by decide +kernel]
    rw [d1, d2, if_neg z1, if_neg z1]
    rcases gcase (n := 4) (by omega) x with ⟨j, hj, rfl⟩ | ho
    · rw [m_isInY (by omega) (by omega) (by omega), zcl_ok, if_neg z1, zald_nI (by omega) (by omega), r89_44, n2]
      have : j = 0 ∨ j = 1 ∨ j = 2 ∨ j = 3 := by omega
      rcases this with rfl | rfl | rfl | rfl
      · rw [if_pos rfl, zcl_ok, d3]; exact ⟨_, rfl, rfl⟩
      · rw [if_neg (by decide +kernel), if_pos rfl, zcl_ok, d4]; exact ⟨_, rfl, rfl⟩
      · rw [if_neg (by decide +kernel), if_neg (by decide +kernel), if_pos rfl, zcl_ok, d5]; exact ⟨_, rfl, rfl⟩
      · rw [if_neg (by decide +kernel), if_neg (by decide +kernel), if_neg (by decide +kernel), if_pos rfl, zcl_ok, d6]; exact ⟨_, rfl, rfl⟩
    · rw [n3, m_isIn_n (n := 4) (by omega) ho, zcl_ok, if_pos rfl, if_neg (gOut.ne (k := 0) (by omega) ho (by omega)), if_neg (gOut.ne (k := 1) (by omega) ho (by omega)), if_neg (gOut.ne (k := 2) (by omega) ho (by omega)), if_neg (gOut.ne (k := 3) (by omega) ho (by omega)), zcl_ok]
      exact ⟨_, rfl, rfl⟩
