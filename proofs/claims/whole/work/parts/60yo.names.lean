/-! PARSERS: signs, keywords, names -/
theorem c_isSg {tl lim : Nat} {tb : Nat → Nat} {k : gTk} {Mc Mr : zMem} (S : gTS tl lim tb k Mc Mr) {c : Nat} (hc : c < 1000) : mf_X10_isSign gR 1 (nI c) Mc = some (gB (decide (k.1 = 3 ∧ k.2.2.1 = c)), Mc) := by
  have s4 := S.2.2.2.1
  unfold mf_X10_isSign
  simp only [zl_lit]
  rcases s4 with ⟨z, y, _⟩ | ⟨z, _, _, y⟩ | ⟨z, _, y, _⟩ | ⟨z, y0, y, _, y2⟩ | ⟨z, y, _⟩
  · rw [y, if_neg (by decide +kernel), decide_eq_false (by omega)]; rfl
  · rcases y with ⟨_, y, _⟩ | ⟨_, y, _⟩
    · rw [y, if_neg (by decide +kernel), decide_eq_false (by omega)]; rfl
    · rw [y, if_neg (by decide +kernel), decide_eq_false (by omega)]; rfl
  · rw [y, if_neg (by decide +kernel), decide_eq_false (by omega)]; rfl
  · have hv : k.2.2.1 = 59 ∨ k.2.2.1 = 60 ∨ k.2.2.1 = 61 ∨ k.2.2.1 = 62 ∨ k.2.2.1 = 40 ∨ k.2.2.1 = 41 := of_decide_eq_true y0
    rw [y, if_pos rfl, y2]
    by_cases e : k.2.2.1 = c
    · rw [if_pos (by rw [e]), decide_eq_true ⟨z, e⟩]; rfl
    · rw [if_neg (by rw [nI_eq (by omega) (by omega)]; exact e), decide_eq_false (fun q => e q.2)]; rfl
  · rw [y, if_neg (by decide +kernel), decide_eq_false (by omega)]; rfl
theorem m_isSg {tl lim : Nat} {tb : Nat → Nat} {k : gTk} {Mc Mr : zMem} (S : gTS tl lim tb k Mc Mr) {c : Nat} (hc : c < 1000) : mf_X12_isSign gR 89 (nI c) Mr = some (gB (decide (k.1 = 3 ∧ k.2.2.1 = c)), Mr) := by
  have s9 := S.2.2.2.2.2.2.2.2.1
  unfold mf_X12_isSign
  simp only [zl_lit]
  rcases s9 with ⟨z, y⟩ | ⟨z, _, _, y⟩ | ⟨z, _, y, _⟩ | ⟨z, y0, y, y2⟩ | ⟨z, y⟩
  · rw [y, if_neg (by decide +kernel), decide_eq_false (by omega)]; rfl
  · rw [y, if_neg (by decide +kernel), decide_eq_false (by omega)]; rfl
  · rw [y, if_neg (by decide +kernel), decide_eq_false (by omega)]; rfl
  · have hv : k.2.2.1 = 59 ∨ k.2.2.1 = 60 ∨ k.2.2.1 = 61 ∨ k.2.2.1 = 62 ∨ k.2.2.1 = 40 ∨ k.2.2.1 = 41 := of_decide_eq_true y0
    rw [y, if_pos rfl, y2]
    by_cases e : k.2.2.1 = c
    · rw [if_pos (by rw [e]), decide_eq_true ⟨z, e⟩]; rfl
    · rw [if_neg (by rw [nI_eq (by omega) (by omega)]; exact e), decide_eq_false (fun q => e q.2)]; rfl
  · rw [y, if_neg (by decide +kernel), decide_eq_false (by omega)]; rfl
theorem c_isEnd {tl lim : Nat} {tb : Nat → Nat} {k : gTk} {Mc Mr : zMem} (S : gTS tl lim tb k Mc Mr) : mf_X10_isEnd gR 1 Mc = some (gB (decide (k.1 = 0)), Mc) := by
  have s4 := S.2.2.2.1
  unfold mf_X10_isEnd
  simp only [zl_lit]
  rcases s4 with ⟨z, y, _⟩ | ⟨z, _, _, y⟩ | ⟨z, _, y, _⟩ | ⟨z, _, y, _⟩ | ⟨z, y, _⟩
  · rw [y, if_pos rfl, decide_eq_true z]; rfl
  · rcases y with ⟨_, y, _⟩ | ⟨_, y, _⟩
    · rw [y, if_neg (by decide +kernel), decide_eq_false (by omega)]; rfl
    · rw [y, if_neg (by decide +kernel), decide_eq_false (by omega)]; rfl
  · rw [y, if_neg (by decide +kernel), decide_eq_false (by omega)]; rfl
  · rw [y, if_neg (by decide +kernel), decide_eq_false (by omega)]; rfl
  · rw [y, if_neg (by decide +kernel), decide_eq_false (by omega)]; rfl
theorem m_isEnd {tl lim : Nat} {tb : Nat → Nat} {k : gTk} {Mc Mr : zMem} (S : gTS tl lim tb k Mc Mr) : (Mr.1 89 7 = nI 0) = (k.1 = 0) := by
  have s9 := S.2.2.2.2.2.2.2.2.1
  rcases s9 with ⟨z, y⟩ | ⟨z, _, _, y⟩ | ⟨z, _, y, _⟩ | ⟨z, y0, y, y2⟩ | ⟨z, y⟩
  · rw [y, nI_eqE (by omega) (by omega)]; exact propext ⟨fun _ => z, fun _ => rfl⟩
  · rw [y, nI_eqE (by omega) (by omega)]; exact propext (by omega)
  · rw [y, nI_eqE (by omega) (by omega)]; exact propext (by omega)
  · rw [y, nI_eqE (by omega) (by omega)]; exact propext (by omega)
  · rw [y, nI_eqE (by omega) (by omega)]; exact propext (by omega)
/-- which keyword it is, 24: none -/
def gKy (k : gTk) : Nat := if k.1 = 1 then gKi k.2.1 else 24
theorem gKi_le {w : List Nat} : gKi w ≤ 24 := by have := gff_le (fun k => decide (gKw k = w)) 24 0; unfold gKi; omega
theorem gKi_kw : ∀ j, j < 24 → gKi (gKw j) = j := by decide +kernel
theorem gKi_eq {w : List Nat} {j : Nat} (hj : j < 24) : (w = gKw j) = (gKi w = j) := by
  refine propext ⟨fun e => by rw [e]; exact gKi_kw j hj, fun e => ?_⟩
  have e1 := gff_p (p := fun k => decide (gKw k = w)) (n := 24) (k := 0) (by unfold gKi at e; omega)
  have e2 : gKw (gKi w) = w := of_decide_eq_true e1
  rw [← e2, e]
theorem gKy_le {k : gTk} : gKy k ≤ 24 := by
  unfold gKy
  split
  · exact gKi_le
  · omega
theorem c_key {tl lim : Nat} {tb : Nat → Nat} {k : gTk} {Mc Mr : zMem} (S : gTS tl lim tb k Mc Mr) : Mc.1 1 5 = enX 24 (gKy k) := by
  have s4 := S.2.2.2.1
  unfold gKy enX
  rcases s4 with ⟨z, y, x⟩ | ⟨z, _, _, y⟩ | ⟨z, _, y, x, _⟩ | ⟨z, _, y, x, _⟩ | ⟨z, y, x⟩
  · rw [if_neg (show ¬ k.1 = 1 by omega), if_pos rfl]; exact x
  · rw [if_pos z]
    rcases y with ⟨a, _, b⟩ | ⟨a, _, b⟩
    · rw [if_pos a]; exact b
    · rw [if_neg (by omega)]; exact b
  · rw [if_neg (show ¬ k.1 = 1 by omega), if_pos rfl]; exact x
  · rw [if_neg (show ¬ k.1 = 1 by omega), if_pos rfl]; exact x
  · rw [if_neg (show ¬ k.1 = 1 by omega), if_pos rfl]; exact x
theorem m_isWd {tl lim : Nat} {tb : Nat → Nat} {k : gTk} {Mc Mr : zMem} (S : gTS tl lim tb k Mc Mr) {j : Nat} (hj : j < 24) : mf_X12_isWord gR 89 (nI j) Mr = some (gB (decide (gKy k = j)), Mr) := by
  have s9 := S.2.2.2.2.2.2.2.2.1
  unfold mf_X12_isWord gKy
  simp only [zl_lit]
  rcases s9 with ⟨z, y⟩ | ⟨z, hw, y1, y⟩ | ⟨z, _, y, _⟩ | ⟨z, y0, y, y2⟩ | ⟨z, y⟩
  · rw [y, if_neg (by decide +kernel), if_neg (show ¬ k.1 = 1 by omega), decide_eq_false (by omega)]; rfl
  · rw [y, if_pos rfl, m_wordOf j _ hj, zcl_ok, y1, if_pos z]
    by_cases e : gKi k.2.1 = j
    · rw [if_pos (by rw [gWd_cmp hw (gKw_w j hj) (by omega) (by omega), gKi_eq hj]; exact e), decide_eq_true e]; rfl
    · rw [if_neg (by rw [gWd_cmp hw (gKw_w j hj) (by omega) (by omega), gKi_eq hj]; exact e), decide_eq_false e]; rfl
  · rw [y, if_neg (by decide +kernel), if_neg (show ¬ k.1 = 1 by omega), decide_eq_false (by omega)]; rfl
  · rw [y, if_neg (by decide +kernel), if_neg (show ¬ k.1 = 1 by omega), decide_eq_false (by omega)]; rfl
  · rw [y, if_neg (by decide +kernel), if_neg (show ¬ k.1 = 1 by omega), decide_eq_false (by omega)]; rfl
def gIsN (k : gTk) : Bool := decide (k.1 = 1 ∧ gKi k.2.1 = 24)
theorem c_isN {tl lim : Nat} {tb : Nat → Nat} {k : gTk} {Mc Mr : zMem} (S : gTS tl lim tb k Mc Mr) : (Mc.1 1 4 = nI 1) = (gIsN k = true) := by
  have s4 := S.2.2.2.1
  have e0 : (gIsN k = true) = (k.1 = 1 ∧ gKi k.2.1 = 24) := propext ⟨fun q => of_decide_eq_true q, fun q => decide_eq_true q⟩
  rw [e0]
  rcases s4 with ⟨z, y, _⟩ | ⟨z, _, _, y⟩ | ⟨z, _, y, _⟩ | ⟨z, _, y, _⟩ | ⟨z, y, _⟩
  · rw [y, nI_eqE (by omega) (by omega)]; exact propext (by omega)
  · rcases y with ⟨a, y, _⟩ | ⟨a, y, _⟩
    · rw [y]; exact propext ⟨fun _ => ⟨z, a⟩, fun _ => rfl⟩
    · rw [y, nI_eqE (by omega) (by omega)]; exact propext (by omega)
  · rw [y, nI_eqE (by omega) (by omega)]; exact propext (by omega)
  · rw [y, nI_eqE (by omega) (by omega)]; exact propext (by omega)
  · rw [y, nI_eqE (by omega) (by omega)]; exact propext (by omega)
theorem m_isN {tl lim : Nat} {tb : Nat → Nat} {k : gTk} {Mc Mr : zMem} (S : gTS tl lim tb k Mc Mr) : mf_X12_isName gR 89 Mr = some (gB (gIsN k), Mr) := by
  have s9 := S.2.2.2.2.2.2.2.2.1
  unfold mf_X12_isName gIsN
  simp only [zl_lit]
  rcases s9 with ⟨z, y⟩ | ⟨z, hw, y1, y⟩ | ⟨z, _, y, _⟩ | ⟨z, y0, y, y2⟩ | ⟨z, y⟩
  · rw [y, if_neg (by decide +kernel), decide_eq_false (by omega)]; rfl
  · rw [y, if_pos rfl]
    have lk := gKi_le (w := k.2.1)
    refine gfor (G := fun f i => mf_X12_isName_l12 gR 89 f (nI i) Mr) (n := gKi k.2.1) (fun f i hi => ?_) (fun f => ?_) _ (by first | (show _ < 5000; omega) | omega)
    · have e := gff_n (p := fun j => decide (gKw j = k.2.1)) (n := 24) (k := 0) i (by omega) hi
      have e1 : ¬ gKw i = k.2.1 := of_decide_eq_false e
      rw [mf_X12_isName_l12]
      simp only [zl_lit]
      rw [if_neg (by rw [nI_ltI (by omega) (by omega)]; omega), m_wordOf i _ (by omega), zcl_ok, y1, if_neg (by rw [gWd_cmp hw (gKw_w i (by omega)) (by omega) (by omega)]; exact fun q => e1 q.symm), nI_add]
    · rw [mf_X12_isName_l12]
      simp only [zl_lit]
      by_cases e : gKi k.2.1 = 24
      · rw [e, if_pos (by rw [nI_ltI (by omega) (by omega)]; omega), decide_eq_true ⟨z, rfl⟩]; rfl
      · have e1 : k.2.1 = gKw (gKi k.2.1) := by rw [gKi_eq (by omega)]
        rw [if_neg (by rw [nI_ltI (by omega) (by omega)]; omega), m_wordOf _ _ (by omega), zcl_ok, y1, if_pos (by rw [gWd_cmp hw (gKw_w _ (by omega)) (by omega) (by omega)]; exact e1), decide_eq_false (fun q => e q.2)]; rfl
  · rw [y, if_neg (by decide +kernel), decide_eq_false (by omega)]; rfl
  · rw [y, if_neg (by decide +kernel), decide_eq_false (by omega)]; rfl
  · rw [y, if_neg (by decide +kernel), decide_eq_false (by omega)]; rfl
theorem k_word {tl lim : Nat} {tb : Nat → Nat} {k : gTk} {Mc Mr : zMem} (S : gTS tl lim tb k Mc Mr) (hk : k.1 = 1) : gWd k.2.1 ∧ Mc.2 1 7 = lN (gPk 32 k.2.1 0) ∧ Mr.2 89 12 = lN (gPk 27 k.2.1 0) := by
  have s4 := S.2.2.2.1
  have s9 := S.2.2.2.2.2.2.2.2.1
  rcases s4 with ⟨z, _⟩ | ⟨_, a, b, _⟩ | ⟨z, _⟩ | ⟨z, _⟩ | ⟨z, _⟩
  · omega
  · rcases s9 with ⟨z, _⟩ | ⟨_, _, c, _⟩ | ⟨z, _⟩ | ⟨z, _⟩ | ⟨z, _⟩
    · omega
    · exact ⟨a, b, c⟩
    · omega
    · omega
    · omega
  · omega
  · omega
  · omega
/-- the ';' -/
theorem k_semi {tl lim : Nat} {tb : Nat → Nat} {k : gTk} {Mc Mr : zMem} (S : gTS tl lim tb k Mc Mr) : (∃ (k1 : gTk) (Mc1 Mr1 : zMem), mf_X10_passSign gR 1 (nI 59) Mc = some (nI 1, Mc1) ∧ mf_X12_readEnd gR 89 Mr = some (nI 1, Mr1) ∧ gTS tl lim tb k1 Mc1 Mr1 ∧ (k1.1 ≠ 4 → k.2.2.2.1 < k1.2.2.2.1) ∧ gF [1] [] Mc Mc1 ∧ gF [89] [5, 6, 7, 8, 9] Mr Mr1) ∨ (∃ Mc1 Mr1, mf_X10_passSign gR 1 (nI 59) Mc = some (nI 0, Mc1) ∧ mf_X12_readEnd gR 89 Mr = some (nI 0, Mr1) ∧ gBad Mc1 Mr1 ∧ gF [1] [] Mc Mc1 ∧ gF [89] [10, 11] Mr Mr1) := by
  unfold mf_X10_passSign mf_X12_readEnd
  simp only [zl_lit]
  rw [c_isSg S (by omega), m_isSg S (by omega), zcl_ok, zcl_ok]
  by_cases e : k.1 = 3 ∧ k.2.2.1 = 59
  · refine Or.inl ?_
    obtain ⟨k1, Mc1, Mr1, a1, a2, a3, a4, a5, a6⟩ := k_adv S (by omega) (by omega)
    rw [decide_eq_true e, if_neg gB_t0, if_neg gB_t0, a1, a2, zcl_ok, zcl_ok]
    exact ⟨k1, Mc1, Mr1, rfl, rfl, a3, a4, a5, a6⟩
  · refine Or.inr ?_
    obtain ⟨Mc1, Mr1, a1, a2, a3, a4, a5⟩ := k_fail (j := 1) S (fun _ => rfl) (by omega) (by omega)
    rw [decide_eq_false e, if_pos gB_f0, if_pos gB_f0, a1, a2, zcl_ok, zcl_ok, zchk_ok (Or.inl rfl), zchk_ok (Or.inl rfl)]
    exact ⟨Mc1, Mr1, rfl, rfl, a3, a4, a5⟩
def gFi (nu : Nat → List Nat) (first n : Nat) (w : List Nat) : Nat := gff (fun i => decide (nu (first + i) = w)) n 0
theorem gFi_le {nu : Nat → List Nat} {first n : Nat} {w : List Nat} : gFi nu first n w ≤ n := by have := gff_le (fun i => decide (nu (first + i) = w)) n 0; unfold gFi; omega
theorem c_find {nu : Nat → List Nat} {first n o c : Nat} {w : List Nat} {M : zMem} (hR : zrf gR o 9 = c) (hn : first + n ≤ 19) (hw : gWd w) (hN : ∀ i, i < n → gWd (nu (first + i)) ∧ M.2 c (first + i) = lN (gPk 32 (nu (first + i)) 0)) : mf_X7_numberOf gR o (lN (gPk 32 w 0)) (nI first) (nI n) M = some (enX n (gFi nu first n w), M) := by
  have lk := gFi_le (nu := nu) (first := first) (n := n) (w := w)
  unfold mf_X7_numberOf
  simp only [zl_lit]
  refine gfor (G := fun f i => mf_X7_numberOf_l3 gR o f (lN (gPk 32 w 0)) (nI first) (nI n) (nI i) M) (n := gFi nu first n w) (fun f i hi => ?_) (fun f => ?_) _ (by first | (show _ < 5000; omega) | omega)
  · have e := gff_n (p := fun i => decide (nu (first + i) = w)) (n := n) (k := 0) i (by omega) hi
    have e1 : ¬ nu (first + i) = w := of_decide_eq_false e
    obtain ⟨b1, b2⟩ := hN i (by omega)
    rw [mf_X7_numberOf_l3]
    simp only [zl_lit]
    rw [if_neg (by rw [nI_leI (by omega) (by omega)]; omega), nI_add, if_neg (by rw [nI_leI (by omega) (by omega)]; omega), zald_nI (by omega) (by omega), hR, b2, if_neg (by rw [gWd_cmp b1 hw (by omega) (by omega)]; exact e1), nI_add]
  · rw [mf_X7_numberOf_l3]
    simp only [zl_lit, zl_m1]
    by_cases e : gFi nu first n w = n
    · rw [e, if_pos (by rw [nI_leI (by omega) (by omega)]; omega)]
      unfold enX
      rw [if_pos rfl]
    · have e1 := gff_p (p := fun i => decide (nu (first + i) = w)) (n := n) (k := 0) (by unfold gFi at e lk; omega)
      have e2 : nu (first + gFi nu first n w) = w := of_decide_eq_true e1
      obtain ⟨b1, b2⟩ := hN (gFi nu first n w) (by omega)
      rw [if_neg (by rw [nI_leI (by omega) (by omega)]; omega), nI_add, if_neg (by rw [nI_leI (by omega) (by omega)]; omega), zald_nI (by omega) (by omega), hR, b2, if_pos (by rw [gWd_cmp b1 hw (by omega) (by omega)]; exact e2), enX_ne e]
theorem m_find {nu : Nat → List Nat} {first n c : Nat} {w : List Nat} {M : zMem} (hn : first + n ≤ 19) (hw : gWd w) (hN : ∀ i, i < n → gWd (nu (first + i)) ∧ M.2 c (first + i) = lN (gPk 27 (nu (first + i)) 0)) : mf_X12_findIn gR c 19 (nI first) (nI n) (lN (gPk 27 w 0)) M = some (enX n (gFi nu first n w), M) := by
  have lk := gFi_le (nu := nu) (first := first) (n := n) (w := w)
  unfold mf_X12_findIn
  simp only [zl_lit]
  refine gfor (G := fun f i => mf_X12_findIn_l3 gR c 19 f (nI first) (nI n) (lN (gPk 27 w 0)) (nI i) M) (n := gFi nu first n w) (fun f i hi => ?_) (fun f => ?_) _ (by first | (show _ < 5000; omega) | omega)
  · have e := gff_n (p := fun i => decide (nu (first + i) = w)) (n := n) (k := 0) i (by omega) hi
    have e1 : ¬ nu (first + i) = w := of_decide_eq_false e
    obtain ⟨b1, b2⟩ := hN i (by omega)
    rw [mf_X12_findIn_l3]
    simp only [zl_lit]
    rw [if_neg (by rw [nI_leI (by omega) (by omega)]; omega), nI_add, zald_nI (by omega) (by omega), b2, if_neg (by rw [gWd_cmp b1 hw (by omega) (by omega)]; exact e1), nI_add]
  · rw [mf_X12_findIn_l3]
    simp only [zl_lit, zl_m1]
    by_cases e : gFi nu first n w = n
    · rw [e, if_pos (by rw [nI_leI (by omega) (by omega)]; omega)]
      unfold enX
      rw [if_pos rfl]
    · have e1 := gff_p (p := fun i => decide (nu (first + i) = w)) (n := n) (k := 0) (by unfold gFi at e lk; omega)
      have e2 : nu (first + gFi nu first n w) = w := of_decide_eq_true e1
      obtain ⟨b1, b2⟩ := hN (gFi nu first n w) (by omega)
      rw [if_neg (by rw [nI_leI (by omega) (by omega)]; omega), nI_add, zald_nI (by omega) (by omega), b2, if_pos (by rw [gWd_cmp b1 hw (by omega) (by omega)]; exact e2), enX_ne e]
