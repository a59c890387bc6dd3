/-! CHAIN -/
theorem m_has {p : Nat → Bool} {s : Nat} {M : zMem} (hs : s < 8) : mf_X12_has gR (nI (gbN p 8)) (nI s) M = some (gB (p s), M) := by
  have l1 := gbN_256 (p := p) (Nat.le_refl 8)
  have e := gbN_div (p := p) (n := 8) hs
  unfold mf_X12_has
  simp only [zl_lit]
  rw [nI_shr8 s hs _ l1, nI_and, Nat.and_one_is_mod, e]
  cases p s
  · rw [if_neg (by decide +kernel), gB_f]
  · rw [if_pos (by decide +kernel), gB_t]
def gct (p : Nat → Bool) (n : Nat) : Nat := gsm (fun j => if p j then 1 else 0) n
def gMi (p : Nat → Bool) (s : Nat) : Nat → Bool := fun j => p j && !decide (j = s)
theorem gct_0 {p : Nat → Bool} : ∀ {n : Nat}, gct p n = 0 → ∀ j, j < n → p j = false
  | 0, _, j, hj => by omega
  | n + 1, h, j, hj => by
    have h' : gct p n + (if p n then 1 else 0) = 0 := h
    by_cases e : j = n
    · subst e
      cases q : p j
      · rfl
      · rw [q, if_pos rfl] at h'; omega
    · exact gct_0 (n := n) (by omega) j (by omega)
theorem gct_mi {p : Nat → Bool} {s : Nat} (hp : p s = true) : ∀ {n : Nat}, (s < n → gct (gMi p s) n + 1 = gct p n) ∧ (n ≤ s → gct (gMi p s) n = gct p n)
  | 0 => ⟨fun h => by omega, fun _ => rfl⟩
  | n + 1 => by
    obtain ⟨i1, i2⟩ := gct_mi hp (n := n)
    have e1 : gct (gMi p s) (n + 1) = gct (gMi p s) n + (if gMi p s n then 1 else 0) := rfl
    have e2 : gct p (n + 1) = gct p n + (if p n then 1 else 0) := rfl
    have e3 : gMi p s n = (p n && !decide (n = s)) := rfl
    rw [e1, e2, e3]
    refine ⟨fun h => ?_, fun h => ?_⟩
    · by_cases e : n = s
      · subst e
        rw [i2 (Nat.le_refl _), hp]
        try simp
      · have := i1 (by omega)
        simp only [e, decide_false, Bool.not_false, Bool.and_true]
        omega
    · have e : ¬ n = s := by omega
      rw [i2 (by omega)]
      simp [e]
theorem gbN_mi {p : Nat → Bool} {s : Nat} (hs : s < 8) : nI (gbN p 8) &&& ((nI 1 <<< (nI s &&& nI 31)) ^^^ zm1) = nI (gbN (gMi p s) 8) := by
  rw [gclr8 s hs _ (gbN_256 (Nat.le_refl 8)), gbN_clr (q := gMi p s) hs (fun k hk => rfl)]
theorem gbN_z {p : Nat → Bool} : ∀ {n : Nat}, (∀ j, j < n → p j = false) → gbN p n = 0
  | 0, _ => rfl
  | n + 1, h => by rw [gbN, gbN_z (fun j hj => h j (by omega)), h n (by omega)]; rfl
theorem gbN_nz {p : Nat → Bool} {n : Nat} (h : gct p n ≠ 0) : gbN p n ≠ 0 := fun e => h (by
  have : ∀ j, j < n → p j = false := fun j hj => gbN_0 e hj
  have : gct p n ≤ n * 0 := gsm_le (fun k hk => by rw [this k hk]; simp)
  omega)
def gSc (h : zN) (l : List Nat) : Nat := gsm (fun k => gGap h (l.getD k 0) (l.getD (k + 1) 0)) (l.length - 1)
theorem getD_app {l : List Nat} {s j : Nat} (hj : j < l.length) : (l ++ [s]).getD j 0 = l.getD j 0 := by
  rw [List.getD_eq_getElem?_getD, List.getD_eq_getElem?_getD, List.getElem?_append_left hj]
theorem getD_last {l : List Nat} {s : Nat} : (l ++ [s]).getD l.length 0 = s := by
  rw [List.getD_eq_getElem?_getD, List.getElem?_append_right (Nat.le_refl _)]
  try simp
theorem gSc_0 {h : zN} {s : Nat} {l : List Nat} (hl : l.length = 0) : gSc h (l ++ [s]) = 0 := by
  unfold gSc
  rw [List.length_append, hl]
  try rfl
theorem gSc_s {h : zN} {s : Nat} {l : List Nat} (hl : l.length ≠ 0) : gSc h (l ++ [s]) = gSc h l + gGap h (l.getD (l.length - 1) 0) s := by
  obtain ⟨m, hm⟩ : ∃ m, l.length = m + 1 := ⟨l.length - 1, by omega⟩
  have e1 : gSc h (l ++ [s]) = gsm (fun k => gGap h ((l ++ [s]).getD k 0) ((l ++ [s]).getD (k + 1) 0)) (m + 1) := by
    unfold gSc
    rw [List.length_append, hm]
    try rfl
  have e2 : (l ++ [s]).getD (m + 1) 0 = s := by rw [← hm]; exact getD_last
  rw [e1, gsm, getD_app (by omega), e2]
  unfold gSc
  rw [hm, Nat.add_sub_cancel]
  congr 1
  exact gsm_cong (fun k hk => by rw [getD_app (by omega), getD_app (by omega)])
def gBt (h : zN) (b : Nat × List Nat) (l : List Nat) : Nat × List Nat := if gSc h l < b.1 then (gSc h l, l) else b
def gQM (b : Nat × List Nat) (M : zMem) : Prop := M.1 89 39 = nI b.1 ∧ b.1 ≤ 100000 ∧ ∀ k, k < b.2.length → M.1 109 k = nI (b.2.getD k 0)
theorem m_gapOf' {h a : zN} {t : Nat → Int32} {M : zMem} {p q : Nat} (hm : M.1 91 = encM h a t) (hH : gH h) (hp : p < h 1) (hq : q < h 1) : mf_X12_gapOf gR 89 (nI p) (nI q) M = some (nI (gGap h p q), M) := by
  have := m_gapOf (a := a) (t := t) (M := M) hH hp hq
  rw [grI_id hm] at this
  exact this
theorem gSc_le {h : zN} {l : List Nat} (hH : gH h) (hl : l.length ≤ 5) (hs : ∀ j, j < l.length → l.getD j 0 < h 1) : gSc h l ≤ 900 := by
  have : gSc h l ≤ (l.length - 1) * 180 := gsm_le (fun k hk => by
    have := gGap_lt (q := l.getD (k + 1) 0) hH (hs k (by omega))
    omega)
  omega
/-- the leaf -/
theorem m_leaf {h : zN} {M : zMem} {l : List Nat} {b : Nat × List Nat} {F : zRR → Nat → Int32 → Int32 → Int32 → zMem → Option (Unit × zMem)} (hl : l.length ≤ 5) (hS : gSc h l ≤ 900) (hk : ∀ j, j < l.length → M.1 108 j = nI (l.getD j 0)) (Q : gQM b M) : ∃ M1, mf_X12_tryChains gR F 89 (nI l.length) (nI 0) (nI (gSc h l)) M = some ((), M1) ∧ gF [108, 109] [39] M M1 ∧ M1.1 108 = M.1 108 ∧ gQM (gBt h b l) M1 := by
  obtain ⟨q1, q2, q3⟩ := Q
  unfold mf_X12_tryChains gBt
  rw [zl_lit, if_pos rfl, q1]
  by_cases e : gSc h l < b.1
  · rw [if_pos e, if_pos (by rw [nI_ltI (by omega) (by omega)]; exact e)]
    have key : mf_X12_tryChains_l21 gR F 89 zF (nI l.length) (nI 0) (zrowI (zwI M 89 39 (nI (gSc h l))) 109 (fun j => if j < 0 then M.1 108 j else M.1 109 j)) = some ((), zrowI (zwI M 89 39 (nI (gSc h l))) 109 (fun j => if j < l.length then M.1 108 j else M.1 109 j)) := by
      refine gfor (G := fun f i => mf_X12_tryChains_l21 gR F 89 f (nI l.length) (nI i) (zrowI (zwI M 89 39 (nI (gSc h l))) 109 (fun j => if j < i then M.1 108 j else M.1 109 j))) (n := l.length) (fun f i hi => ?_) (fun f => ?_) _ (by first | (show _ < 5000; omega) | omega)
      · have ew : upd (fun j => if j < i then M.1 108 j else M.1 109 j) i (M.1 108 i) = fun j => if j < i + 1 then M.1 108 j else M.1 109 j := by
          funext j
          unfold upd
          show (if j = i then _ else if j < i then M.1 108 j else M.1 109 j) = _
          by_cases e1 : j = i
          · rw [if_pos e1, if_pos (by omega), e1]
          · rw [if_neg e1]
            by_cases e2 : j < i
            · rw [if_pos e2, if_pos (by omega)]
            · rw [if_neg e2, if_neg (by omega)]
        rw [mf_X12_tryChains_l21]
        simp only [zl_lit, zlet_ok]
        rw [if_neg (by rw [nI_leI (by omega) (by omega)]; omega), zald_nI (by omega) (by omega), zald_nI (by omega) (by omega), r89_36, r89_37, zrI_n (by decide), zwI_n (by decide), gwI, grI_rI, zrI_s, ew, nI_add]
      · rw [mf_X12_tryChains_l21, if_pos (by rw [nI_leI (by omega) (by omega)]; omega)]
    have e0 : zrowI (zwI M 89 39 (nI (gSc h l))) 109 (fun j => if j < 0 then M.1 108 j else M.1 109 j) = zwI M 89 39 (nI (gSc h l)) := by
      rw [grI_id]
      rw [zwI_n (by decide)]
      funext j
      try rw [if_neg (by omega)]
    rw [e0] at key
    refine ⟨zrowI (zwI M 89 39 (nI (gSc h l))) 109 (fun j => if j < l.length then M.1 108 j else M.1 109 j), ?_, gF.rI (gF.w9 gF.r (by decide)) (by decide) (by decide), ?_, ?_, ?_, fun k hk2 => ?_⟩
    · rw [zlet_ok]; exact key
    · rw [zrI_n (by decide), zwI_n (by decide)]
    · rw [zrI_n (by decide), zwI_s, upd_s]
    · show gSc h l ≤ _
      omega
    · rw [zrI_s]
      show (if k < l.length then M.1 108 k else M.1 109 k) = nI (l.getD k 0)
      have hk3 : k < l.length := hk2
      rw [if_pos hk3]
      exact hk k hk3
  · rw [if_neg e, if_neg (by rw [nI_ltI (by omega) (by omega)]; exact e)]
    exact ⟨M, rfl, gF.r, rfl, q1, q2, q3⟩
theorem gEn_s {W k : Nat} {p : Nat → Bool} {pre : List Nat} : gEn W (k + 1) p pre = ((List.range' 0 W).map (fun s => if p s then gEn W k (gMi p s) (pre ++ [s]) else [])).flatten := by
  rw [← List.range_eq_range']
  try rfl
theorem m_chains {h a : zN} {t : Nat → Int32} (hH : gH h) : ∀ (k d : Nat) (p : Nat → Bool) (pre : List Nat) (M : zMem) (b : Nat × List Nat), gct p 8 = k → (∀ j, p j = true → j < h 1) → pre.length + k ≤ 5 → (∀ j, j < pre.length → pre.getD j 0 < h 1) → k < d → M.1 91 = encM h a t → (∀ j, j < pre.length → M.1 108 j = nI (pre.getD j 0)) → gQM b M → ∃ M1, mg_X12c d gR 89 (nI pre.length) (nI (gbN p 8)) (nI (gSc h pre)) M = some ((), M1) ∧ gF [108, 109] [39] M M1 ∧ (∀ j, j < pre.length → M1.1 108 j = M.1 108 j) ∧ gQM ((gEn 5 k p pre).foldl (gBt h) b) M1
  | 0, d, p, pre, M, b, hc, hp, hl, hpre, hd, hm, hlk, Q => by
    match d, hd with
    | d + 1, hd =>
      have e0 : gbN p 8 = 0 := gbN_z (gct_0 hc)
      obtain ⟨M1, e1, e2, e3, e4⟩ := m_leaf (F := mg_X12c d) (by omega) (gSc_le hH (by omega) hpre) hlk Q
      refine ⟨M1, ?_, e2, fun j hj => by rw [e3], e4⟩
      rw [e0]
      exact e1
  | k + 1, d, p, pre, M, b, hc, hp, hl, hpre, hd, hm, hlk, Q => by
    obtain ⟨k0, k1, k2, k3, k4, k5, kh, kl, ka, kp⟩ := id hH
    match d, hd with
    | d + 1, hd =>
      have e0 : gbN p 8 ≠ 0 := gbN_nz (by omega)
      have l256 := gbN_256 (p := p) (Nat.le_refl 8)
      have hS := gSc_le hH (show pre.length ≤ 5 by omega) hpre
      have loop : ∀ (m i f : Nat) (M : zMem) (b : Nat × List Nat), i + m = 5 → m < f → M.1 91 = encM h a t → (∀ j, j < pre.length → M.1 108 j = nI (pre.getD j 0)) → gQM b M → ∃ M1, mf_X12_tryChains_l51 gR (mg_X12c d) 89 f (nI pre.length) (nI (gbN p 8)) (nI (gSc h pre)) (nI i) M = some ((), M1) ∧ gF [108, 109] [39] M M1 ∧ (∀ j, j < pre.length → M1.1 108 j = M.1 108 j) ∧ gQM ((((List.range' i m).map (fun s => if p s then gEn 5 k (gMi p s) (pre ++ [s]) else [])).flatten).foldl (gBt h) b) M1 := by
        intro m
        induction m with
        | zero =>
          intro i f M b hi hf hm hlk Q
          match f, hf with
          | f + 1, _ =>
            have : i = 5 := by omega
            subst this
            refine ⟨M, ?_, gF.r, fun j hj => rfl, Q⟩
            rw [mf_X12_tryChains_l51, zl_lit, if_pos (by rw [nI_leI (by omega) (by omega)]; omega)]
        | succ m ih =>
          intro i f M b hi hf hm hlk Q
          match f, hf with
          | f + 1, hf =>
            rw [List.range'_succ, List.map_cons, List.flatten_cons, List.foldl_append]
            cases hpi : p i
            · obtain ⟨M1, w1, w2, w3, w4⟩ := ih (i + 1) f M b (by omega) (by omega) hm hlk Q
              refine ⟨M1, ?_, w2, w3, w4⟩
              rw [← w1, mf_X12_tryChains_l51]
              simp only [zl_lit]
              rw [if_neg (by rw [nI_leI (by omega) (by omega)]; omega), m_has (by omega), hpi, zcl_ok, if_pos gB_f]
              unfold mf_X12_tryChains_b116
              rw [zl_lit, nI_add]
            · have hi1 := hp i hpi
              have hpre2 : ∀ j, j < (pre ++ [i]).length → (pre ++ [i]).getD j 0 < h 1 := fun j hj => by
                rw [List.length_append] at hj
                simp only [List.length_cons, List.length_nil] at hj
                by_cases q : j = pre.length
                · rw [q, getD_last]; exact hi1
                · rw [getD_app (by omega)]; exact hpre j (by omega)
              have hlen : (pre ++ [i]).length = pre.length + 1 := by rw [List.length_append]; rfl
              have hlk2 : ∀ j, j < (pre ++ [i]).length → (zwI M 108 pre.length (nI i)).1 108 j = nI ((pre ++ [i]).getD j 0) := fun j hj => by
                rw [hlen] at hj
                rw [zwI_s]
                by_cases q : j = pre.length
                · rw [q, upd_s, getD_last]
                · rw [upd_n q, getD_app (by omega)]; exact hlk j (by omega)
              have Q2 : gQM b (zwI M 108 pre.length (nI i)) := by
                obtain ⟨q1, q2, q3⟩ := Q
                refine ⟨by rw [zwI_n (by decide)]; exact q1, q2, fun k hk => by rw [zwI_n (by decide)]; exact q3 k hk⟩
              have hm2 : (zwI M 108 pre.length (nI i)).1 91 = encM h a t := by rw [zwI_n (by decide)]; exact hm
              obtain ⟨M1, w1, w2, w3, w4⟩ := m_chains (a := a) (t := t) hH k d (gMi p i) (pre ++ [i]) (zwI M 108 pre.length (nI i)) b (by have := (gct_mi hpi (n := 8)).1 (by omega); omega) (fun j hj => hp j (by unfold gMi at hj; simp only [Bool.and_eq_true] at hj; exact hj.1)) (by rw [hlen]; omega) hpre2 (by omega) hm2 hlk2 Q2
              have f1 : gF [108, 109] [39] M M1 := gF.trans (gF.wI gF.r (by decide) (by decide)) w2
              have hlk3 : ∀ j, j < pre.length → M1.1 108 j = nI (pre.getD j 0) := fun j hj => by
                rw [w3 j (by rw [hlen]; omega), hlk2 j (by rw [hlen]; omega), getD_app hj]
              obtain ⟨M2, v1, v2, v3, v4⟩ := ih (i + 1) f M1 _ (by omega) (by omega) (by rw [f1.1 91 (by decide) (by decide)]; exact hm) hlk3 w4
              refine ⟨M2, ?_, f1.trans v2, fun j hj => by rw [v3 j hj, hlk3 j hj, hlk j hj], v4⟩
              rw [hlen] at w1
              rw [← v1, mf_X12_tryChains_l51]
              simp only [zl_lit, zlet_ok, zl_m1]
              rw [if_neg (by rw [nI_leI (by omega) (by omega)]; omega), m_has (by omega), hpi, zcl_ok, if_neg (by decide +kernel), zald_nI (by omega) (by omega), r89_36, gbN_mi (by omega), nI_add]
              unfold mf_X12_tryChains_b113 mf_X12_tryChains_b116
              by_cases e9 : pre.length = 0
              · rw [gSc_0 e9] at w1
                have w1' := w1
                rw [if_pos (by rw [e9]), w1', zcl_ok, zl_lit, nI_add]
              · have lg := gGap_lt (q := i) hH (hpre (pre.length - 1) (by omega))
                rw [gSc_s e9] at w1
                rw [if_neg (by rw [nI_eq (by omega) (by omega)]; exact e9), nI_subE (by omega), zald_nI (by omega) (by omega), zwI_s, upd_n (by omega), hlk (pre.length - 1) (by omega), m_gapOf' hm2 hH (hpre (pre.length - 1) (by omega)) hi1, zcl_ok, nI_add, w1, zcl_ok, zl_lit, nI_add]
      obtain ⟨M1, w1, w2, w3, w4⟩ := loop 5 0 zF M b (by omega) (by show 5 < 5000; omega) hm hlk Q
      refine ⟨M1, ?_, w2, w3, ?_⟩
      · show mf_X12_tryChains gR (mg_X12c d) 89 _ _ _ M = _
        unfold mf_X12_tryChains
        rw [if_neg (by rw [zl_lit, nI_eq (by omega) (by omega)]; exact e0)]
        exact w1
      · rw [gEn_s]
        exact w4
