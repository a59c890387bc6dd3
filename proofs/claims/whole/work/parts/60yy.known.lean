/-! PARSERS: a NAME that is told in the ROOM -/
theorem k_known {tl lim : Nat} {tb : Nat → Nat} {k : gTk} {Mc Mr : zMem} {h : zN} {nu : Nat → List Nat} {first n : Nat} (S : gTS tl lim tb k Mc Mr) (hn : first + n ≤ 19) (hC : ∀ i, i < n → gWd (nu (first + i)) ∧ Mc.2 8 (first + i) = lN (gPk 32 (nu (first + i)) 0)) (hM : ∀ i, i < n → gWd (nu (first + i)) ∧ Mr.2 98 (first + i) = lN (gPk 27 (nu (first + i)) 0)) : (∃ (v : Nat) (k1 : gTk) (Mc1 Mr1 : zMem), k.1 = 1 ∧ v < n ∧ mf_X7_passKnown gR 4 1 (nI first) (nI n) Mc = some (nI v, Mc1) ∧ mf_X12_readNamed gR 89 (nI first) (nI n) Mr = some (nI 1, Mr1) ∧ Mr1.1 89 13 = nI v ∧ gTS tl lim tb k1 Mc1 Mr1 ∧ (k1.1 ≠ 4 → k.2.2.2.1 < k1.2.2.2.1) ∧ gF [1] [] Mc Mc1 ∧ gF [89] [5, 6, 7, 8, 9, 13] Mr Mr1) ∨ (∃ Mc1 Mr1, mf_X7_passKnown gR 4 1 (nI first) (nI n) Mc = some (zm1, Mc1) ∧ mf_X12_readNamed gR 89 (nI first) (nI n) Mr = some (nI 0, Mr1) ∧ gBad Mc1 Mr1 ∧ gF [1] [] Mc Mc1 ∧ gF [89] [10, 11, 13] Mr Mr1) := by
  have ci := c_isN S
  unfold mf_X7_passKnown mf_X12_readNamed
  simp only [zl_lit, zlet_ok, zl_m1]
  rw [m_isN S, zcl_ok]
  cases hn1 : gIsN k
  · refine Or.inr ?_
    rw [hn1] at ci
    obtain ⟨Mc1, Mr1, a1, a2, a3, a4, a5⟩ := k_fail (j := 1) S (fun _ => rfl) (by omega) (by omega)
    rw [if_neg (by rw [ci]; decide), if_pos gB_f0, a1, a2, zcl_ok, zcl_ok, zchk_ok (Or.inl rfl)]
    exact ⟨Mc1, Mr1, rfl, rfl, a3, a4, a5.mono (by decide) (by decide)⟩
  · rw [hn1] at ci
    have hn2 : k.1 = 1 ∧ gKi k.2.1 = 24 := of_decide_eq_true hn1
    obtain ⟨w1, w2, w3⟩ := k_word S hn2.1
    have c6 := c_find (nu := nu) (first := first) (n := n) (M := Mc) r4_9 hn w1 hC
    have m6 := m_find (nu := nu) (first := first) (n := n) (c := 98) (M := Mr) hn w1 hM
    have l6 := gFi_le (nu := nu) (first := first) (n := n) (w := k.2.1)
    rw [if_pos (by rw [ci]), if_neg gB_t0, w2, c6, zcl_ok, r89_21, w3, m6, zcl_ok]
    have e13 : ∀ v : Int32, (zwI Mr 89 13 v).1 89 13 = v := fun v => by rw [zwI_s, upd_s]
    have f13 : ∀ v : Int32, gF [] [13] Mr (zwI Mr 89 13 v) := fun v => gF.w9 gF.r (by decide)
    have S1 : ∀ v : Int32, gTS tl lim tb k Mc (zwI Mr 89 13 v) := fun v => S.fr (gF.r (ids := []) (ks := [])) (by decide) (f13 v) (by decide) (by decide)
    rw [e13]
    by_cases x6 : gFi nu first n k.2.1 = n
    · refine Or.inr ?_
      obtain ⟨Mc3, Mr3, c1, c2, c3, c4, c5⟩ := k_fail (j := 3) (S1 (enX n (gFi nu first n k.2.1))) (fun q => by omega) (by omega) (by omega)
      rw [if_pos (show enX n (gFi nu first n k.2.1) = zm1 by rw [enX_m1 (by omega)]; exact x6), if_pos (show enX n (gFi nu first n k.2.1) = zm1 by rw [enX_m1 (by omega)]; exact x6), c1, c2, zcl_ok, zcl_ok, zchk_ok (Or.inl rfl)]
      exact ⟨Mc3, Mr3, rfl, rfl, c3, c4, ((f13 _).mono (by decide) (by decide)).trans (c5.mono (by decide) (by decide))⟩
    · refine Or.inl ?_
      obtain ⟨k1, Mc3, Mr3, c1, c2, c3, c4, c5, c6'⟩ := k_adv (S1 (enX n (gFi nu first n k.2.1))) (by omega) (by omega)
      rw [if_neg (show ¬ enX n (gFi nu first n k.2.1) = zm1 by rw [enX_m1 (by omega)]; exact x6), if_neg (show ¬ enX n (gFi nu first n k.2.1) = zm1 by rw [enX_m1 (by omega)]; exact x6), c1, c2, zcl_ok, zcl_ok]
      refine ⟨gFi nu first n k.2.1, k1, Mc3, Mr3, hn2.1, by omega, by rw [enX_ne x6], rfl, ?_, c3, c4, c5, ((f13 _).mono (by decide) (by decide)).trans (c6'.mono (by decide) (by decide))⟩
      rw [c6'.2.2 13 (by decide), e13, enX_ne x6]
