/-! SENTENCE: of which SHEETS it may be said -/
def gCmp (x v y : Nat) : Bool := if x = 60 then decide (v < y) else if x = 62 then decide (y < v) else decide (v = y)
def gLv (a : zN) (k p : Nat) : Nat := if k = 20 then a (24 + p) else if k = 21 then a (40 + p) else if k = 22 then a (48 + p) else p
def gLf (h a : zN) (k x y p : Nat) : Bool := if k = 14 then decide (a (8 + p) = 0) else if k = 15 then decide (a (8 + p) = 2) else if k = 16 then decide (a (8 + p) = 3) else if k = 17 then gHeld a p else if k = 18 then decide (a (16 + p) = x + 1) else if k = 19 then decide (h (48 + p) = x) else gCmp x (gLv a k p) y
def gEq (h a K A B : zN) (E : Nat → Nat → Bool) (i p : Nat) : Prop := E i p = if K i = 13 then !E (A i) p else if K i = 12 then E (A i) p && E (B i) p else if K i = 11 then E (A i) p || E (B i) p else gLf h a (K i) (A i) (B i) p
theorem gWf_ch {h K A B : zN} {i : Nat} (w : gWf h K A B i) : (K i = 13 → A i < i) ∧ ((K i = 11 ∨ K i = 12) → A i < i ∧ B i < i) := by
  obtain ⟨_, _, w3, w4, _⟩ := w
  refine ⟨fun q => ?_, fun q => ?_⟩
  · obtain ⟨r, e⟩ := w3 q
    exact gStk_lt (K := K) i (A i) (by rw [e]; simp)
  · obtain ⟨r, e⟩ := w4 q
    exact ⟨gStk_lt (K := K) i (A i) (by rw [e]; simp), gStk_lt (K := K) i (B i) (by rw [e]; simp)⟩
theorem gE_ex {h a K A B : zN} : ∀ n, (∀ i, i < n → gWf h K A B i) → ∃ E, ∀ i p, i < n → gEq h a K A B E i p
  | 0, _ => ⟨fun _ _ => false, fun i p hi => absurd hi (by omega)⟩
  | n + 1, hw => by
    obtain ⟨E, hE⟩ := gE_ex (h := h) (a := a) (K := K) (A := A) (B := B) n (fun i hi => hw i (by omega))
    refine ⟨fun j p => if j = n then (if K n = 13 then !E (A n) p else if K n = 12 then E (A n) p && E (B n) p else if K n = 11 then E (A n) p || E (B n) p else gLf h a (K n) (A n) (B n) p) else E j p, fun i p hi => ?_⟩
    have w := gWf_ch (hw i hi)
    have e1 : K i = 13 → ¬ A i = n := fun q => by have := w.1 q; omega
    have e2 : (K i = 11 ∨ K i = 12) → ¬ A i = n ∧ ¬ B i = n := fun q => by have := w.2 q; omega
    unfold gEq
    by_cases e : i = n
    · subst e
      simp only [if_true]
      by_cases c13 : K i = 13
      · rw [if_pos c13, if_pos c13, if_neg (e1 c13)]
      · rw [if_neg c13, if_neg c13]
        by_cases c12 : K i = 12
        · rw [if_pos c12, if_pos c12, if_neg (e2 (Or.inr c12)).1, if_neg (e2 (Or.inr c12)).2]
        · rw [if_neg c12, if_neg c12]
          by_cases c11 : K i = 11
          · rw [if_pos c11, if_pos c11, if_neg (e2 (Or.inl c11)).1, if_neg (e2 (Or.inl c11)).2]
          · rw [if_neg c11, if_neg c11]
    · have hi2 : i < n := by omega
      have := hE i p hi2
      unfold gEq at this
      simp only [if_neg e]
      rw [this]
      by_cases c13 : K i = 13
      · rw [if_pos c13, if_pos c13, if_neg (e1 c13)]
      · rw [if_neg c13, if_neg c13]
        by_cases c12 : K i = 12
        · rw [if_pos c12, if_pos c12, if_neg (e2 (Or.inr c12)).1, if_neg (e2 (Or.inr c12)).2]
        · rw [if_neg c12, if_neg c12]
          by_cases c11 : K i = 11
          · rw [if_pos c11, if_pos c11, if_neg (e2 (Or.inl c11)).1, if_neg (e2 (Or.inl c11)).2]
          · rw [if_neg c11, if_neg c11]
theorem gCmp_c {R0 : zRR} {x v y i : Nat} {M : zMem} (hx : x = 60 ∨ x = 61 ∨ x = 62) (hv : v < 2 ^ 30) (hy : y < 2 ^ 30) (hi : i < 40) (e1 : M.1 22 i = nI x) (e2 : M.1 23 i = nI y) : mf_X8_compares gR 20 (nI v) (nI i) M = some (gB (gCmp x v y), M) := by
  unfold mf_X8_compares gCmp
  simp only [zl_lit, r20_3, r20_4]
  rw [zald_nI (by omega) (by omega), zald_nI (by omega) (by omega), zald_nI (by omega) (by omega), zald_nI (by omega) (by omega), zald_nI (by omega) (by omega), e1, e2]
  by_cases c60 : x = 60
  · rw [if_pos (show nI x = nI 60 by rw [c60]), if_pos c60]
    by_cases q : v < y
    · rw [if_neg (by rw [nI_leI (by omega) (by omega)]; omega), decide_eq_true q]; rfl
    · rw [if_pos (by rw [nI_leI (by omega) (by omega)]; omega), decide_eq_false q]; rfl
  · rw [if_neg (by rw [nI_eq (by omega) (by omega)]; exact c60), if_neg c60]
    by_cases c62 : x = 62
    · rw [if_pos (show nI x = nI 62 by rw [c62]), if_pos c62]
      by_cases q : y < v
      · rw [if_neg (by rw [nI_leI (by omega) (by omega)]; omega), decide_eq_true q]; rfl
      · rw [if_pos (by rw [nI_leI (by omega) (by omega)]; omega), decide_eq_false q]; rfl
    · rw [if_neg (by rw [nI_eq (by omega) (by omega)]; exact c62), if_neg c62]
      by_cases q : v = y
      · rw [if_pos (show nI v = nI y by rw [q]), decide_eq_true q]; rfl
      · rw [if_neg (by rw [nI_eq (by omega) (by omega)]; exact q), decide_eq_false q]; rfl
theorem gbN_s {p : Nat → Bool} {i : Nat} (hi : i < 31) : (if p i = true then nI (gbN p i) ||| (nI 1 <<< (nI i &&& nI 31)) else nI (gbN p i)) = nI (gbN p (i + 1)) := by
  rw [gbN]
  by_cases e : p i = true
  · rw [if_pos e, if_pos e, gbN_or hi]
  · rw [if_neg e, if_neg e, Nat.add_zero]
theorem gLv_lt {c : Nat} {h a : zN} {k p : Nat} (hA : gA h a) (hO : gO c a) (hc : c < 2 ^ 20) (hp : p < 8) : gLv a k p < 2 ^ 30 := by
  have o := hO.2 p hp
  have o1 := hO.1
  have q := (hA.2.2 p hp).2.2.2.1
  unfold gLv
  split
  · omega
  · split
    · omega
    · split <;> omega
/-- the class's step: SHEETS of which a leaf says so -/
theorem c_leaf {c : Nat} {h a K A B : zN} {z : Nat → Int32} {M : zMem} {i n : Nat} (hr : gRC h M) (hc : M.1 17 = eC a z) (hH : gH h) (hA : gA h a) (hO : gO c a) (hcc : c < 2 ^ 20) (hi : i < n) (hn : n ≤ 40) (Q : gSC n K A B (M.1 21) (M.1 22) (M.1 23)) (w : gWf h K A B i) (h14 : 14 ≤ K i) : mf_X8_sheetsOfStep gR 20 4 16 (nI i) M = some (nI (gbN (fun p => gLf h a (K i) (A i) (B i) p) (h 2)), M) := by
  obtain ⟨k0, k1, k2, k3, k4, k5, kh, kl, ka, kp⟩ := id hH
  obtain ⟨q0, q1, q2, q3, q4, q5, qh, ql, qp, qa⟩ := id hr
  obtain ⟨w1, w2, w3, w4, w5, w6, w7⟩ := w
  obtain ⟨s1, s2, s3⟩ := Q i hi
  have s2 := s2 h14
  have ne : ∀ p : Nat, p < 100 → K i ≠ p → ¬ nI (K i) = nI p := fun p x y => by rw [nI_eq (by omega) (by omega)]; exact y
  have ps : ∀ p : Nat, K i = p → nI (K i) = nI p := fun p x => by rw [x]
  unfold mf_X8_sheetsOfStep
  simp only [zl_lit, r20_2, r20_3]
  rw [zald_nI (by omega) (by omega), s1]
  by_cases c14 : K i = 14
  · rw [if_pos (ps 14 c14), c_all gLab_l hr hc hH hA (by omega), zcl_ok]
    unfold gTh gLf
    simp only [if_pos c14]
  rw [if_neg (ne 14 (by omega) c14)]
  by_cases c15 : K i = 15
  · rw [if_pos (ps 15 c15), c_all gLab_l hr hc hH hA (by omega), zcl_ok]
    unfold gTh gLf
    simp only [if_neg c14, if_pos c15]
  rw [if_neg (ne 15 (by omega) c15)]
  by_cases c16 : K i = 16
  · rw [if_pos (ps 16 c16), c_all gLab_l hr hc hH hA (by omega), zcl_ok]
    unfold gTh gLf
    simp only [if_neg c14, if_neg c15, if_pos c16]
  rw [if_neg (ne 16 (by omega) c16)]
  by_cases c17 : K i = 17
  · rw [if_pos (ps 17 c17), c_allHeld gLab_l hr hc hH hA, zcl_ok]
    unfold gHd gLf
    simp only [if_neg c14, if_neg c15, if_neg c16, if_pos c17]
    try rfl
  rw [if_neg (ne 17 (by omega) c17)]
  by_cases c18 : K i = 18
  · have hb := w5 c18
    have hc' : M.1 17 = encC a (gIn a) z := hc
    rw [if_pos (ps 18 c18), zald_nI (by omega) (by omega), s2]
    unfold mf_X3_insideOf
    simp only [zl_lit, nI_add]
    rw [gLab_l.1, gLab_l.2.1, c_hasBath hr hH hb, zcl_ok, if_neg (by decide +kernel), zald_nI (by omega) (by omega), hc', eC_ins (by omega), zcl_ok]
    unfold gIn gLf
    simp only [if_neg c14, if_neg c15, if_neg c16, if_neg c17, if_pos c18]
    rw [gbN_set (n := h 2) (m := 8) (by omega) (fun k h1 h2 => ?_)]
    have := (hA.2.2 k h2).2.2.2.2.2 h1
    rw [this]
    exact decide_eq_false (by omega)
  rw [if_neg (ne 18 (by omega) c18)]
  have key : mf_X8_sheetsThatCompare gR 20 4 16 (nI i) M = some (nI (gbN (fun p => gLf h a (K i) (A i) (B i) p) (h 2)), M) := by
    unfold mf_X8_sheetsThatCompare
    simp only [zl_lit]
    refine gfor (G := fun f p => mf_X8_sheetsThatCompare_l6 gR 20 4 16 f (nI i) (nI (gbN (fun p => gLf h a (K i) (A i) (B i) p) p)) (nI p) M) (n := h 2) (fun f p hp => ?_) (fun f => ?_) _ (by show _ < 5000; omega)
    · have fin : ∀ (r : Int32), r = gB (gLf h a (K i) (A i) (B i) p) → mf_X8_sheetsThatCompare_b135 gR 20 4 16 (mf_X8_sheetsThatCompare_l6 gR 20 4 16 f) (nI i) (nI (gbN (fun p => gLf h a (K i) (A i) (B i) p) p)) (nI p) r M = mf_X8_sheetsThatCompare_l6 gR 20 4 16 f (nI i) (nI (gbN (fun p => gLf h a (K i) (A i) (B i) p) (p + 1))) (nI (p + 1)) M := by
        intro r hr1
        have gs := gbN_s (p := fun p => gLf h a (K i) (A i) (B i) p) (i := p) (by omega)
        rw [← gs]
        unfold mf_X8_sheetsThatCompare_b135 mf_X8_sheetsThatCompare_b149
        simp only [zl_lit, zlet_ok, nI_add]
        cases hg : gLf h a (K i) (A i) (B i) p
        · rw [hg] at hr1
          rw [if_pos (by rw [hr1]; exact gB_f0), if_neg (by decide)]
        · rw [hg] at hr1
          rw [if_neg (by rw [hr1]; exact gB_t0), if_pos rfl]
      have hp8 : p < 8 := by omega
      have hc' : M.1 17 = encC a (gIn a) z := hc
      have hcell := hc'
      show mf_X8_sheetsThatCompare_l6 gR 20 4 16 (f + 1) (nI i) _ (nI p) M = _
      rw [mf_X8_sheetsThatCompare_l6]
      simp only [zl_lit, r20_2, r20_3, r4_8]
      rw [q2, if_neg (by rw [nI_leI (by omega) (by omega)]; omega), zald_nI (by omega) (by omega), s1]
      have cmpv : 20 ≤ K i → mf_X8_compares gR 20 (nI (gLv a (K i) p)) (nI i) M = some (gB (gLf h a (K i) (A i) (B i) p), M) := by
        intro h20
        have q7 := w7 h20
        have := gCmp_c (R0 := gR) (x := A i) (v := gLv a (K i) p) (y := B i) (i := i) (M := M) q7.1 (gLv_lt hA hO hcc hp8) (by omega) (by omega) s2 (s3 h20)
        rw [this]
        unfold gLf
        rw [if_neg c14, if_neg c15, if_neg c16, if_neg c17, if_neg c18, if_neg (show ¬ K i = 19 by omega)]
      by_cases c19 : K i = 19
      · have hx := w6 c19
        have gl : gLf h a (K i) (A i) (B i) p = decide (h (48 + p) = A i) := by
          unfold gLf
          rw [if_neg c14, if_neg c15, if_neg c16, if_neg c17, if_neg c18, if_pos c19]
        rw [if_pos (ps 19 c19), zald_nI (by omega) (by omega), zald_nI (by omega) (by omega), qp p hp, s2]
        unfold mf_X8_sheetsThatCompare_b73
        by_cases e : h (48 + p) = A i
        · rw [if_pos (show nI (h (48 + p)) = nI (A i) by rw [e])]
          exact fin _ (by rw [gl, decide_eq_true e]; rfl)
        · have := kp p hp
          rw [if_neg (by rw [nI_eq (by omega) (by omega)]; exact e)]
          exact fin _ (by rw [gl, decide_eq_false e]; rfl)
      rw [if_neg (ne 19 (by omega) c19)]
      by_cases c20 : K i = 20
      · have ev : gLv a (K i) p = a (24 + p) := by unfold gLv; rw [if_pos c20]
        have cm := cmpv (by omega)
        rw [ev] at cm
        rw [if_pos (ps 20 c20)]
        unfold mf_X3_leftOf
        simp only [zl_lit, nI_add]
        rw [gLab_l.1, gLab_l.2.1, c_hasSheet hr hH hp, zcl_ok, if_neg (by decide +kernel), zald_nI (by omega) (by omega), hc', eC_left hp8, zcl_ok, cm, zcl_ok]
        exact fin _ rfl
      rw [if_neg (ne 20 (by omega) c20)]
      by_cases c21 : K i = 21
      · have ev : gLv a (K i) p = a (40 + p) := by unfold gLv; rw [if_neg c20, if_pos c21]
        have cm := cmpv (by omega)
        rw [ev] at cm
        rw [if_pos (ps 21 c21)]
        unfold mf_X3_overOf
        simp only [zl_lit, nI_add]
        rw [gLab_l.1, gLab_l.2.1, c_hasSheet hr hH hp, zcl_ok, if_neg (by decide +kernel), zald_nI (by omega) (by omega), hc', eC_over hp8, zcl_ok, cm, zcl_ok]
        exact fin _ rfl
      rw [if_neg (ne 21 (by omega) c21)]
      by_cases c22 : K i = 22
      · have ev : gLv a (K i) p = a (48 + p) := by unfold gLv; rw [if_neg c20, if_neg c21, if_pos c22]
        have cm := cmpv (by omega)
        rw [ev] at cm
        rw [if_pos (ps 22 c22)]
        unfold mf_X3_triesOf
        simp only [zl_lit, nI_add]
        rw [gLab_l.1, gLab_l.2.1, c_hasSheet hr hH hp, zcl_ok, if_neg (by decide +kernel), zald_nI (by omega) (by omega), hc', eC_tries hp8, zcl_ok, cm, zcl_ok]
        exact fin _ rfl
      rw [if_neg (ne 22 (by omega) c22)]
      have ev : gLv a (K i) p = p := by unfold gLv; rw [if_neg c20, if_neg c21, if_neg c22]
      have cm := cmpv (by omega)
      rw [ev] at cm
      rw [cm, zcl_ok]
      exact fin _ rfl
    · show mf_X8_sheetsThatCompare_l6 gR 20 4 16 (f + 1) (nI i) _ (nI (h 2)) M = _
      rw [mf_X8_sheetsThatCompare_l6, q2, if_pos (by rw [nI_leI (by omega) (by omega)]; omega)]
  rw [key, zcl_ok]
