/-! IMAGES: what is kept in one, the calls -/
def gIQ (p k c : Nat) (M : zMem) : Prop := ∃ (h a : zN) (t : Nat → Int32) (nu : Nat → List Nat), gH h ∧ gA h a ∧ gO c a ∧ gRQ (p + 1) h M ∧ (∃ z, M.1 (p + 12) = eC a z) ∧ gSI (p + 7) (p + 8) (p + 9) (p + 10) h t M ∧ (∀ j, j < 354 → M.1 93 (354 * k + j) = encM h a t j) ∧ ∀ j, gTold h j → gWd (nu j) ∧ M.2 (p + 5) j = lN (gPk 32 (nu j) 0) ∧ M.2 100 (19 * k + j) = lN (gPk 27 (nu j) 0)
/-- an IMAGE at k: none, or kept alike -/
def gIm (p k c : Nat) (M : zMem) : Prop := (M.1 p 3 = nI 0 ∧ M.1 101 k = nI 0) ∨ (M.1 p 3 = nI 1 ∧ M.1 101 k = nI 1 ∧ gIQ p k c M)
theorem gTold_lt {h : zN} {j : Nat} (hH : gH h) (ht : gTold h j) : j < 19 := by
  obtain ⟨k0, k1, k2, k3, k4, k5, kh, kl, ka, kp⟩ := id hH
  unfold gTold at ht
  omega
theorem gRQ.cg {q : Nat} {h : zN} {M M1 : zMem} (e : ∀ x, q ≤ x → x ≤ q + 5 → M1.1 x = M.1 x) (D : gRQ q h M) : gRQ q h M1 := by
  unfold gRQ at *
  rw [e q (by omega) (by omega), e (q + 1) (by omega) (by omega), e (q + 2) (by omega) (by omega), e (q + 3) (by omega) (by omega), e (q + 5) (by omega) (by omega)]
  exact D
theorem gSI.cg {q q1 q2 q3 : Nat} {h : zN} {t t1 : Nat → Int32} {M M1 : zMem} (e0 : M1.1 q = M.1 q) (e1 : M1.1 q1 = M.1 q1) (e2 : M1.1 q2 = M.1 q2) (e3 : M1.1 q3 = M.1 q3) (et : ∀ j, j < 354 → t1 j = t j) (I : gSI q q1 q2 q3 h t M) : gSI q q1 q2 q3 h t1 M1 := by
  rcases I with ⟨i1, i2⟩ | ⟨n, o, K, A, B, D, Q, S⟩
  · exact Or.inl ⟨by rw [e0]; exact i1, by rw [et 112 (by omega)]; exact i2⟩
  · refine Or.inr ⟨n, o, K, A, B, D, ?_, ?_⟩
    · unfold gSQ at *
      rw [e0, e1, e2, e3]
      exact Q
    · obtain ⟨s1, s2, s3⟩ := S
      have hn : n < 40 := D.1
      refine ⟨by rw [et 112 (by omega)]; exact s1, by rw [et 113 (by omega)]; exact s2, fun i hi => ?_⟩
      have s := s3 i hi
      show t1 (114 + 4 * i) = _ ∧ (_ → t1 (114 + (4 * i + 1)) = _) ∧ (_ → t1 (114 + (4 * i + 2)) = _) ∧ (_ → t1 (114 + (4 * i + 3)) = _)
      rw [et _ (by omega), et _ (by omega), et _ (by omega), et _ (by omega)]
      exact s
theorem gIm.cg {p k c : Nat} {M M1 : zMem} (e : ∀ x, p ≤ x → x ≤ p + 12 → M1.1 x = M.1 x) (e8 : M1.2 (p + 5) = M.2 (p + 5)) (e93 : ∀ j, j < 354 → M1.1 93 (354 * k + j) = M.1 93 (354 * k + j)) (e100 : ∀ j, j < 19 → M1.2 100 (19 * k + j) = M.2 100 (19 * k + j)) (e101 : M1.1 101 k = M.1 101 k) (I : gIm p k c M) : gIm p k c M1 := by
  unfold gIm at *
  rw [e p (by omega) (by omega), e101]
  rcases I with I | ⟨i1, i2, h, a, t, nu, hH, hA, hO, D, ⟨z, hz⟩, S, h93, hN⟩
  · exact Or.inl I
  · refine Or.inr ⟨i1, i2, h, a, t, nu, hH, hA, hO, D.cg (fun x h1 h2 => e x (by omega) (by omega)), ⟨z, by rw [e _ (by omega) (by omega)]; exact hz⟩, S.cg (e _ (by omega) (by omega)) (e _ (by omega) (by omega)) (e _ (by omega) (by omega)) (e _ (by omega) (by omega)) (fun _ _ => rfl), fun j hj => by rw [e93 j hj]; exact h93 j hj, fun j hj => ?_⟩
    rw [e8, e100 j (gTold_lt hH hj)]
    exact hN j hj
theorem gIm.mono {p k c d : Nat} {M : zMem} (hc : c ≤ d) (I : gIm p k c M) : gIm p k d M := by
  rcases I with I | ⟨i1, i2, h, a, t, nu, hH, hA, hO, r⟩
  · exact Or.inl I
  · exact Or.inr ⟨i1, i2, h, a, t, nu, hH, hA, hO.mono hc, r⟩
/-- the class keeps an IMAGE -/
theorem c_keep {p c : Nat} {h a : zN} {t : Nat → Int32} {M : zMem} (rr : zrf gR p 0 = p + 1 ∧ zrf gR p 1 = p + 7 ∧ zrf gR p 2 = p + 12) (rq : zrf gR (p + 1) 6 = p + 2 ∧ zrf gR (p + 1) 7 = p + 3 ∧ zrf gR (p + 1) 8 = p + 4 ∧ zrf gR (p + 1) 9 = p + 5 ∧ zrf gR (p + 1) 10 = p + 6) (rs : zrf gR (p + 7) 2 = p + 8 ∧ zrf gR (p + 7) 3 = p + 9 ∧ zrf gR (p + 7) 4 = p + 10) (hp : 63 ≤ p ∧ p ≤ 76) (hr : gRC h M) (hc : ∃ z, M.1 17 = eC a z) (hH : gH h) (hO : gO c a) (S : gSI 20 21 22 23 h t M) : ∃ M1, mf_X2_keep gR p 4 16 20 M = some ((), M1) ∧ M1.1 p 3 = nI 1 ∧ gRQ (p + 1) h M1 ∧ (∃ z, M1.1 (p + 12) = eC a z) ∧ gSI (p + 7) (p + 8) (p + 9) (p + 10) h t M1 ∧ (∀ j, j < 19 → M1.2 (p + 5) j = M.2 8 j) ∧ gF [p, p + 1, p + 2, p + 3, p + 4, p + 5, p + 6, p + 7, p + 8, p + 9, p + 10, p + 12] [] M M1 := by
  obtain ⟨rr0, rr1, rr2⟩ := rr
  obtain ⟨M1, a1, a2, a3, a4⟩ := c_copyRoomQ (p := 4) (q := p + 1) hH (gRQ_4.mpr hr) ⟨r4_6, r4_7, r4_8, r4_9, r4_10⟩ rq (by omega) (by omega)
  obtain ⟨M2, b1, b2, b3, b4, b5⟩ := c_copySent (p := 20) (p1 := 21) (p2 := 22) (p3 := 23) (q := p + 7) (q1 := p + 8) (q2 := p + 9) (q3 := p + 10) (M := M1) ⟨r20_2, r20_3, r20_4⟩ rs (by simp; omega) (by omega) (by simp; omega)
  have m1 : ∀ x, x < 63 → x ∉ [p + 1, p + 1 + 1, p + 1 + 2, p + 1 + 3, p + 1 + 4, p + 1 + 5] := by simp; omega
  have m2 : ∀ x, (x < 70 ∨ p + 11 ≤ x) → x < p + 7 ∨ p + 10 < x → x ∉ [p + 7, p + 8, p + 9, p + 10] := by simp; omega
  have n17 : M2.1 17 = M.1 17 := (b5.1 17 (by simp; omega) (by omega)).trans (a4.1 17 (m1 17 (by omega)) (by omega))
  obtain ⟨z, hz⟩ := hc
  have fz : gF [p, p + 1, p + 2, p + 3, p + 4, p + 5, p + 6, p + 7, p + 8, p + 9, p + 10, p + 12] [] M (zwI (zrowI M2 (p + 12) (eC a (M2.1 (p + 12)))) p 3 (nI 1)) := gF.wI (gF.rI ((a4.mono (by simp) (by simp)).trans (b5.mono (by simp) (by simp))) (by simp) (by omega)) (by simp) (by omega)
  have e2 : ∀ x, p < x → x < p + 7 → (zwI (zrowI M2 (p + 12) (eC a (M2.1 (p + 12)))) p 3 (nI 1)).1 x = M1.1 x := fun x h1 h2 => by
    rw [zwI_n (by omega), zrI_n (by omega)]
    exact b5.1 x (by simp; omega) (by omega)
  have e3 : ∀ x, p < x → x ≤ p + 10 → (zwI (zrowI M2 (p + 12) (eC a (M2.1 (p + 12)))) p 3 (nI 1)).1 x = M2.1 x := fun x h1 h2 => by
    rw [zwI_n (by omega), zrI_n (by omega)]
  refine ⟨_, ?_, ?_, a2.cg (fun x h1 h2 => e2 x (by omega) (by omega)), ⟨M2.1 (p + 12), ?_⟩, ?_, fun j hj => ?_, fz⟩
  · unfold mf_X2_keep
    simp only [zl_lit, zlet_ok, rr0, rr1, rr2]
    rw [a1, zcl_ok, b1, zcl_ok, c_put (n17.trans hz), zcl_ok]
  · rw [zwI_s, upd_s]
  · rw [zwI_n (by omega), zrI_s]
  · have s1 : gSI 20 21 22 23 h t M1 := S.cg (a4.1 20 (m1 20 (by omega)) (by omega)) (a4.1 21 (m1 21 (by omega)) (by omega)) (a4.1 22 (m1 22 (by omega)) (by omega)) (a4.1 23 (m1 23 (by omega)) (by omega)) (fun _ _ => rfl)
    have s2 : gSI (p + 7) (p + 8) (p + 9) (p + 10) h t M2 := by
      rcases s1 with ⟨i1, i2⟩ | ⟨n, o, K, A, B, D, Q, S⟩
      · exact Or.inl ⟨b2.trans i1, i2⟩
      · exact Or.inr ⟨n, o, K, A, B, D, gSQ.of D.1 Q b2 b3 b4, S⟩
    exact s2.cg (e3 _ (by omega) (by omega)) (e3 _ (by omega) (by omega)) (e3 _ (by omega) (by omega)) (e3 _ (by omega) (by omega)) (fun _ _ => rfl)
  · rw [zwI_L, zrI_L, b5.2.1 (p + 5) (by simp)]
    exact a3 j hj
/-- the class gives an IMAGE back -/
theorem c_back {p : Nat} {h a : zN} {t : Nat → Int32} {M : zMem} (rr : zrf gR p 0 = p + 1 ∧ zrf gR p 1 = p + 7 ∧ zrf gR p 2 = p + 12) (rq : zrf gR (p + 1) 6 = p + 2 ∧ zrf gR (p + 1) 7 = p + 3 ∧ zrf gR (p + 1) 8 = p + 4 ∧ zrf gR (p + 1) 9 = p + 5 ∧ zrf gR (p + 1) 10 = p + 6) (rs : zrf gR (p + 7) 2 = p + 8 ∧ zrf gR (p + 7) 3 = p + 9 ∧ zrf gR (p + 7) 4 = p + 10) (hp : 63 ≤ p ∧ p ≤ 76) (hr : gRQ (p + 1) h M) (hc : ∃ z, M.1 (p + 12) = eC a z) (hH : gH h) (S : gSI (p + 7) (p + 8) (p + 9) (p + 10) h t M) : ∃ M1, mf_X2_giveBack gR p 4 16 20 M = some ((), M1) ∧ gRC h M1 ∧ M1.1 17 = eC a (M1.1 17) ∧ gSI 20 21 22 23 h t M1 ∧ (∀ j, j < 19 → M1.2 8 j = M.2 (p + 5) j) ∧ gF [4, 5, 6, 7, 8, 9, 17, 20, 21, 22, 23] [] M M1 := by
  obtain ⟨rr0, rr1, rr2⟩ := rr
  obtain ⟨M1, a1, a2, a3, a4⟩ := c_copyRoomQ (p := p + 1) (q := 4) hH hr rq ⟨r4_6, r4_7, r4_8, r4_9, r4_10⟩ (by omega) (by omega)
  have m1 : ∀ x, 10 ≤ x → x ∉ [4, 4 + 1, 4 + 2, 4 + 3, 4 + 4, 4 + 5] := by simp; omega
  obtain ⟨M2, b1, b2, b3, b4, b5⟩ := c_copySent (p := p + 7) (p1 := p + 8) (p2 := p + 9) (p3 := p + 10) (q := 20) (q1 := 21) (q2 := 22) (q3 := 23) (M := M1) rs ⟨r20_2, r20_3, r20_4⟩ (by simp; omega) (by omega) (by simp)
  have n12 : M2.1 (p + 12) = M.1 (p + 12) := (b5.1 _ (by simp; omega) (by omega)).trans (a4.1 _ (m1 _ (by omega)) (by omega))
  obtain ⟨z, hz⟩ := hc
  refine ⟨zrowI M2 17 (eC a (M2.1 17)), ?_, ?_, ?_, ?_, fun j hj => ?_, ?_⟩
  · unfold mf_X2_giveBack
    simp only [zl_lit, zlet_ok, rr0, rr1, rr2]
    rw [a1, zcl_ok, b1, zcl_ok, c_takeFrom (n12.trans hz), zcl_ok]
  · refine gRQ_4.mp (a2.cg (fun x h1 h2 => ?_))
    rw [zrI_n (by omega)]
    exact b5.1 x (by simp; omega) (by omega)
  · rw [zrI_s]
    exact eC_eC.symm
  · have s1 : gSI (p + 7) (p + 8) (p + 9) (p + 10) h t M1 := S.cg (a4.1 _ (m1 _ (by omega)) (by omega)) (a4.1 _ (m1 _ (by omega)) (by omega)) (a4.1 _ (m1 _ (by omega)) (by omega)) (a4.1 _ (m1 _ (by omega)) (by omega)) (fun _ _ => rfl)
    have s2 : gSI 20 21 22 23 h t M2 := by
      rcases s1 with ⟨i1, i2⟩ | ⟨n, o, K, A, B, D, Q, S⟩
      · exact Or.inl ⟨b2.trans i1, i2⟩
      · exact Or.inr ⟨n, o, K, A, B, D, gSQ.of D.1 Q b2 b3 b4, S⟩
    exact s2.cg (zrI_n (by decide)) (zrI_n (by decide)) (zrI_n (by decide)) (zrI_n (by decide)) (fun _ _ => rfl)
  · rw [zrI_L, b5.2.1 8 (by simp)]
    exact a3 j hj
  · exact gF.rI ((a4.mono (by simp) (by simp)).trans (b5.mono (by simp) (by simp))) (by simp) (by omega)
